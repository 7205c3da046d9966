/-! the lexers: words -/
def isLb (b : Nat) : Bool := decide ((65 ≤ b ∧ b ≤ 90) ∨ (97 ≤ b ∧ b ≤ 122))
def isDb (b : Nat) : Bool := decide (48 ≤ b ∧ b ≤ 57)
def isWs (b : Nat) : Bool := isLb b || decide (b = 95)
def isWb (b : Nat) : Bool := isWs b || isDb b
theorem iLet_s {b : Nat} (h : b < 256) : iLet (sb b) = isLb b := by
  have : ∀ b, b < 256 → iLet (sb b) = isLb b := by decide +kernel
  exact this b h
theorem iDig_s {b : Nat} (h : b < 256) : iDig (sb b) = isDb b := by
  have : ∀ b, b < 256 → iDig (sb b) = isDb b := by decide +kernel
  exact this b h
theorem iLet_N {b : Nat} (h : b < 256) : iLet (nI b) = isLb b := iLet_n h
theorem iDig_N {b : Nat} (h : b < 256) : iDig (nI b) = isDb b := iDig_n h
def wen (x : List Nat) : Nat → Nat → Nat
  | 0, p => p
  | n + 1, p => if p < x.length ∧ isWb (x.getD p 0) = true then wen x n (p + 1) else p
theorem wen_le {x : List Nat} : ∀ {n p : Nat}, p ≤ x.length → p ≤ wen x n p ∧ wen x n p ≤ x.length := by
  intro n
  induction n with
  | zero => intro p h; exact ⟨Nat.le_refl _, h⟩
  | succ n ih =>
    intro p h
    unfold wen
    split
    · have := ih (p := p + 1) (by omega); omega
    · exact ⟨Nat.le_refl _, h⟩
theorem wen_mono {x : List Nat} : ∀ (n p : Nat), x.length ≤ p + n → wen x (n + 1) p = wen x n p := by
  intro n
  induction n with
  | zero => intro p h; unfold wen; rw [if_neg (by omega)]
  | succ n ih =>
    intro p h
    show (if p < x.length ∧ isWb (x.getD p 0) = true then wen x (n + 1) (p + 1) else p) = (if p < x.length ∧ isWb (x.getD p 0) = true then wen x n (p + 1) else p)
    rw [ih (p + 1) (by omega)]
theorem wen_add {x : List Nat} {p : Nat} : ∀ d : Nat, wen x (x.length + d) p = wen x x.length p := by
  intro d
  induction d with
  | zero => rfl
  | succ d ih => rw [← ih, show x.length + (d + 1) = (x.length + d) + 1 by omega]; exact wen_mono _ _ (by omega)
/-- a word's end -/
def we (x : List Nat) (p : Nat) : Nat := wen x x.length p
theorem we_s {x : List Nat} {p : Nat} : we x p = if p < x.length ∧ isWb (x.getD p 0) = true then we x (p + 1) else p := by
  unfold we
  rw [← wen_mono x.length p (by omega)]
  rfl
theorem we_le {x : List Nat} {p : Nat} (h : p ≤ x.length) : p ≤ we x p ∧ we x p ≤ x.length := wen_le h
theorem lxC.start {s : uS} {k fr p q : Nat} {x : List Nat} (h : lxC s k fr x p) (hq : q < 20000) : fn_X2_isWordStart (nI (fr + q)) s = some (decide (q < x.length) && isWs (x.getD q 0)) := by
  have h1 := h.2.2.1
  have h2 := h.2.2.2.1
  unfold fn_X2_isWordStart
  rw [h.2.2.2.2.2.1]
  by_cases c : q < x.length
  · have b1 := h.by q
    rw [if_neg (nI_ge (by omega) (by omega)), decide_eq_true c, h.1, Option.bind_some, h.at c, Option.bind_some, c_letter, Option.bind_some, iLet_s b1, Option.bind_some, h.at c, Option.bind_some, Bool.true_and]
    unfold isWs
    have e : sb (x.getD q 0) = (95 : Int32) ↔ x.getD q 0 = 95 := sb_e b1 (by decide)
    cases isLb (x.getD q 0) with
    | true => rfl
    | false =>
      rw [if_neg (by decide), Bool.false_or]
      by_cases d : x.getD q 0 = 95
      · rw [if_pos (e.mpr d), decide_eq_true d]
      · rw [if_neg (fun z => d (e.mp z)), decide_eq_false d]
  · rw [if_pos (nI_le (by omega) (by omega)), decide_eq_false c, Bool.false_and]
theorem wI_wI {s : uS} {k f : Nat} {u v : Int32} : wI (wI s k f u) k f v = wI s k f v := by
  have : uw2 (uw2 s.I k f u) k f v = uw2 s.I k f v := by
    funext a b
    unfold uw2
    split <;> rfl
  show (_, uw2 (uw2 s.I k f u) k f v, _) = _
  rw [this]
  rfl
theorem c_wordL {k fr : Nat} {x : List Nat} {kd : Int32} : ∀ (n p : Nat) (s : uS), lxC s k fr x p → x.length < p + n → fn_X2_readWord_10 n kd s = some (wI (wI s 7 8 (nI (fr + we x p))) 7 2 kd) := by
  intro n
  induction n with
  | zero => intro p s h a; have := h.2.2.2.2.2.2.2; omega
  | succ n ih =>
    intro p s h a
    have h1 := h.2.2.1
    have h2 := h.2.2.2.1
    have hp := h.2.2.2.2.2.2.2
    have h7 := h.2.2.2.2.2.2.1
    have h6 := h.2.2.2.2.2.1
    unfold fn_X2_readWord_10 fb_X2_readWord_10 fb_X2_readWord_47
    rw [h6, h7, we_s]
    by_cases c : p < x.length
    · have b1 := h.by p
      rw [if_neg (nI_ge (by omega) (by omega)), h.start (by omega), Option.bind_some, decide_eq_true c, Bool.true_and, h.1, Option.bind_some, h.at c, Option.bind_some, c_digit, Option.bind_some, iDig_s b1, nI_1, show fr + p + 1 = fr + (p + 1) by omega]
      have nx := ih (p + 1) _ (h.to (by omega)) (by omega)
      rw [wI_wI] at nx
      unfold isWb
      cases isWs (x.getD p 0) with
      | true =>
        rw [if_pos rfl, if_pos ⟨c, rfl⟩]; exact nx
      | false =>
        rw [if_neg (by decide), Bool.false_or]
        cases isDb (x.getD p 0) with
        | true => rw [if_pos rfl, if_pos ⟨c, rfl⟩]; exact nx
        | false => rw [if_neg (by decide), if_neg (fun z => by cases z.2), wI_self h7]
    · rw [if_pos (nI_le (by omega) (by omega)), if_neg (fun z => c z.1), wI_self h7]
theorem r_wb {b : Nat} (h : b < 256) (t : uS) : fn_X12_isWordByte (nI b) t = some (isWb b) := by
  unfold fn_X12_isWordByte isWb isWs
  rw [r_letter, Option.bind_some, iLet_N h, r_digit, Option.bind_some, iDig_N h]
  cases isLb b <;> cases isDb b <;> by_cases d : b = 95
  · subst d; rfl
  · have : ¬ nI b = (95 : Int32) := by show ¬ nI b = nI 95; rw [nI_eq (by omega) (by omega)]; exact d
    simp [d, this]
  · simp [d]
  · simp [d]
  · simp [d]
  · simp [d]
  · simp [d]
  · simp [d]
theorem r_wbm (t : uS) : fn_X12_isWordByte (-1) t = some false := by
  unfold fn_X12_isWordByte
  rw [r_letter, Option.bind_some, r_digit]
  rfl
theorem r_wordL {x : List Nat} {a : Nat} : ∀ (n p : Nat) (t : uS), lxR t x p → t.I 1079 33 = nI a → a ≤ p → x.length < p + n → fn_X12_wordOf_8 n t = some (wI (wI t 1079 30 (nI (we x p))) 1079 34 (nI (we x p - a))) := by
  intro n
  induction n with
  | zero => intro p t h _ _ b; have := h.2.2.2.2.2; omega
  | succ n ih =>
    intro p t h ha hap hb
    have hp := h.2.2.2.2.2
    have h4 := h.2.2.2.1
    have h5 := h.2.2.2.2.1
    unfold fn_X12_wordOf_8 fb_X12_wordOf_8
    rw [h.peek0, Option.bind_some, we_s]
    by_cases c : p < x.length
    · have b1 := h.2.2.1 p
      rw [if_pos c, r_wb b1, Option.bind_some, h5, nI_1]
      by_cases d : isWb (x.getD p 0) = true
      · rw [if_pos d, if_pos ⟨c, d⟩]
        have nx := ih (p + 1) _ (h.to (by omega)) ((wI_o (by omega)).trans ha) (by omega) (by omega)
        rw [wI_wI] at nx
        exact nx
      · rw [if_neg d, if_neg (fun z => d z.2), ha, nI_sub hap, wI_self h5]
    · rw [if_neg c, r_wbm, Option.bind_some, if_neg (by decide), if_neg (fun z => c z.1), h5, ha, nI_sub hap, wI_self h5]
/-- the bytes of a word -/
def sub (x : List Nat) (a b : Nat) : List Nat := (x.drop a).take (b - a)
theorem sub_len {x : List Nat} {a b : Nat} (h : b ≤ x.length) (h2 : a ≤ b) : (sub x a b).length = b - a := by
  unfold sub
  rw [List.length_take, List.length_drop]
  omega
theorem sub_get {x : List Nat} {a b j : Nat} (h : j < b - a) : (sub x a b).getD j 0 = x.getD (a + j) 0 := by
  unfold sub
  rw [getD_take h, List.getD_eq_getElem?_getD, List.getElem?_drop, List.getD_eq_getElem?_getD]
theorem sub_by {x : List Nat} {a b : Nat} (h : bys x) : bys (sub x a b) := by
  intro j
  by_cases c : j < b - a
  · rw [sub_get c]; exact h _
  · rw [getDn_out (by unfold sub; rw [List.length_take]; omega)]; decide
theorem rdC.sub {s : uS} {k fr a b : Nat} {x : List Nat} (h : rdC s k fr x) (h1 : a ≤ b) (h2 : b ≤ x.length) : rdC s k (fr + a) (sub x a b) := by
  have hl := sub_len h2 h1
  refine ⟨by have := h.1; omega, sub_by h.2.1, ?_⟩
  intro j hj
  rw [hl] at hj
  rw [sub_get hj, Nat.add_assoc]
  exact h.2.2 (a + j) (by omega)
/-- which of some words it is, in the class -/
theorem c_placeIn {s : uS} {k fr p a b : Nat} {x W : List Nat} (h : lxC s k fr x p) (h7 : s.I 7 7 = nI (fr + a)) (hab : a ≤ b) (hb : b ≤ x.length) (h8 : s.I 7 8 = nI (fr + b)) (hW : ∀ c ∈ W, c < 128) (hl : W.length < 900000) : fn_X2_placeIn W s = some (oI (wix (sub x a b) ((spl W).1 :: (spl W).2) 0)) := by
  have := c_place (h.2.1.sub hab hb) hW hl
  rw [sub_len hb hab, show fr + a + (b - a) = fr + b by omega, plc_wix] at this
  unfold fn_X2_placeIn
  rw [h.1, Option.bind_some, h7, h8, this, Option.bind_some]
/-- whether it is a word, in the reference -/
theorem r_wordIs {t : uS} {x w : List Nat} {a b p : Nat} (h : lxR t x p) (h3 : t.I 1079 33 = nI a) (h4 : t.I 1079 34 = nI (b - a)) (hab : a ≤ b) (hb : b ≤ x.length) (hw : lwc w) (hwl : w.length < 2000) : fn_X12_wordIs w t = some (eqW (sub x a b) w) := by
  obtain ⟨h1, h2, h5, h6, -, -⟩ := h
  have hl := sub_len hb hab
  have key : ∀ bb : Bool, (bb = true → w.length = b - a) → fn_X12_wordIs_19 uFu w bb 0 t = some (bb && decide (∀ j : Nat, j < b - a → (decide (lo (x.getD (a + j) 0) = w.getD j 0)) = true)) := by
    intro bb hbb
    cases bb with
    | false =>
      show fb_X12_wordIs_19 _ w false 0 t = _
      unfold fb_X12_wordIs_19
      rw [if_neg (by decide : ¬ (false = true))]
      split <;> rfl
    | true =>
      have hlen := hbb rfl
      refine cmp0 (F := fun n b i => fn_X12_wordIs_19 n w b i t) (fin := fun b => some b) (L := b - a) (p := fun j => decide (lo (x.getD (a + j) 0) = w.getD j 0)) ?_ (by show _ < 1000000; omega) true
      intro n bb i hi
      show fb_X12_wordIs_19 _ w bb (nI i) t = _
      unfold fb_X12_wordIs_19
      rw [h4, h3]
      by_cases c : b - a ≤ i
      · rw [if_pos (nI_le c (by omega)), if_pos c]
      · rw [if_neg (nI_ge (by omega) (by omega)), if_neg c]
        cases bb with
        | false => rfl
        | true =>
          have h8 := h5 (a + i)
          have hc := hw.at (show i < w.length by omega)
          have hlo := lo_lt h8
          rw [if_pos rfl, if_pos rfl, nI_add, g_1096 (by omega), Option.bind_some, h2 _ (by omega), r_lowN (by omega), Option.bind_some, stget_c (by omega) (by omega), Option.bind_some, nI_1]
          by_cases e : lo (x.getD (a + i) 0) = w.getD i 0
          · rw [if_pos (by rw [e]), decide_eq_true e]
          · rw [if_neg (by rw [nI_eq (by omega) (by omega)]; exact e), decide_eq_false e]
  unfold fn_X12_wordIs
  rw [h4, eqW_r hw, hl]
  simp only [decide_eq_true_eq] at key
  have heq : decide (∀ j : Nat, j < w.length → lo ((sub x a b).getD j 0) = w.getD j 0) = decide (∀ j : Nat, j < w.length → lo ((sub x a b).getD j 0) = w.getD j 0) := rfl
  by_cases c : b - a = w.length
  · rw [if_pos (by rw [c]), key true (fun _ => c.symm), decide_eq_true c]
    congr 2
    exact decide_eq_decide.mpr ⟨fun z j hj => by rw [sub_get (by omega)]; exact z j (by omega), fun z j hj => by have := z j (by omega); rwa [sub_get hj] at this⟩
  · rw [if_neg (by rw [nI_eq (by omega) (by omega)]; exact fun z => c z.symm), key false (fun e => by cases e), decide_eq_false c]
    rfl
