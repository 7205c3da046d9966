/-! words that stand in a line of the delivery: the reference -/
theorem getD_ge {α : Type} (l : List α) (d : α) {i : Nat} (h : i < l.length) : l.getD i d = l[i] := by
  rw [List.getD_eq_getElem?_getD, List.getElem?_eq_getElem h]
  rfl
theorem getD_df {α : Type} (l : List α) (d : α) {i : Nat} (h : l.length ≤ i) : l.getD i d = d := by
  rw [List.getD_eq_getElem?_getD, List.getElem?_eq_none h]
  rfl
def rLn (t : uS) (bs : List Nat) : Prop := t.I 1079 126 = nI bs.length ∧ bs.length ≤ 500 ∧ bys bs ∧ ∀ j : Nat, j < bs.length → t.F 1147 j = nI (bs.getD j 0)
theorem rLn.w {t : uS} {bs : List Nat} (h : rLn t bs) {f : Nat} {v : Int32} (hf : f ≠ 126) : rLn (wI t 1079 f v) bs := ⟨by rw [wI_o (by omega)]; exact h.1, h.2.1, h.2.2.1, fun j hj => by rw [wI_Fe]; exact h.2.2.2 j hj⟩
theorem rLn.o {PI PF : Nat → Nat → Prop} {t t1 : uS} {bs : List Nat} (h : rLn t bs) (o : out PI PF t t1) (h1 : ¬ PI 1079 126) (h2 : ∀ f : Nat, ¬ PF 1147 f) : rLn t1 bs := ⟨(o.2.1 _ _ h1).trans h.1, h.2.1, h.2.2.1, fun j hj => (o.2.2 _ _ (h2 _)).trans (h.2.2.2 j hj)⟩
def stB (bs : List Nat) (p : Nat) (w : List Nat) : Bool := decide (p + w.length ≤ bs.length) && decide (∀ j : Nat, j < w.length → lo (bs.getD (p + j) 0) = w.getD j 0)
theorem r_stands {t : uS} {bs w : List Nat} {p : Nat} (h : rLn t bs) (h127 : t.I 1079 127 = nI p) (hp : p ≤ 1000) (hw : lwc w) (hl : w.length ≤ 20) : fn_X12_stands w t = some (if stB bs p w = true then wI t 1079 127 (nI (p + w.length)) else t, stB bs p w) := by
  obtain ⟨h1, hn, hb, h2⟩ := h
  have fin : ∀ b : Bool, fb_X12_stands_70 w b t = some (if b = true then wI t 1079 127 (nI (p + w.length)) else t, b) := by
    intro b
    unfold fb_X12_stands_70
    rw [h127, nI_add]
    cases b with
    | true => rw [if_pos rfl, if_pos rfl]
    | false => rw [if_neg (by decide), if_neg (by decide), wI_self h127]
  have key : ∀ b : Bool, (b = true → p + w.length ≤ bs.length) → fn_X12_stands_24 uFu w b 0 t = fb_X12_stands_70 w (b && decide (∀ j : Nat, j < w.length → (decide (lo (bs.getD (p + j) 0) = w.getD j 0)) = true)) t := by
    intro b hbb
    cases b with
    | false =>
      show fb_X12_stands_24 _ w false 0 t = _
      unfold fb_X12_stands_24
      rw [if_neg (by decide : ¬ (false = true))]
      split <;> rfl
    | true =>
      have hlen := hbb rfl
      refine cmp0 (F := fun n b i => fn_X12_stands_24 n w b i t) (fin := fun b => fb_X12_stands_70 w b t) (L := w.length) (p := fun j => decide (lo (bs.getD (p + j) 0) = w.getD j 0)) ?_ (by show w.length < 1000000; omega) true
      intro n b i hi
      show fb_X12_stands_24 _ w b (nI i) t = _
      unfold fb_X12_stands_24
      by_cases c : w.length ≤ i
      · rw [if_pos (nI_le c (by omega)), if_pos c]
      · rw [if_neg (nI_ge (by omega) (by omega)), if_neg c]
        cases b with
        | false => rfl
        | true =>
          have h8 := hb (p + i)
          have hc := hw.at (show i < w.length by omega)
          rw [if_pos rfl, if_pos rfl, h127, nI_add, g_1147 (by omega), Option.bind_some, h2 (p + i) (by omega), r_lowN (by omega), Option.bind_some, stget_c (show i < w.length by omega) (show w.length < 2 ^ 31 by omega), Option.bind_some, nI_1]
          have hlo := lo_lt h8
          by_cases e : lo (bs.getD (p + i) 0) = w.getD i 0
          · rw [if_pos (by rw [e]), decide_eq_true e]
          · rw [if_neg (by rw [nI_eq (by omega) (by omega)]; exact e), decide_eq_false e]
  simp only [decide_eq_true_eq] at key
  unfold fn_X12_stands
  rw [h1, h127, nI_add]
  by_cases c : p + w.length ≤ bs.length
  · rw [if_neg (nI_nlt c (by omega)), key true (fun _ => c), fin]
    unfold stB
    rw [decide_eq_true c]
  · rw [if_pos (nI_lt (by omega) (by omega)), key false (fun e => by cases e), fin]
    unfold stB
    rw [decide_eq_false c]
    try rfl
def frB (bs w : List Nat) : Bool := stB bs 0 w && (decide (bs.length = w.length) || decide (bs.getD w.length 0 = 32))
theorem r_first {t : uS} {bs w : List Nat} (h : rLn t bs) (hw : lwc w) (hl : w.length ≤ 20) : ∃ p : Nat, fn_X12_first w t = some (wI t 1079 127 (nI p), frB bs w) ∧ (frB bs w = true → p = w.length) := by
  have h0 : rLn (wI t 1079 127 0) bs := h.w (by decide)
  have e := r_stands (p := 0) h0 (wI_e _ _ _ _) (by omega) hw hl
  unfold fn_X12_first
  rw [e, Option.bind_some]
  unfold frB
  cases c : stB bs 0 w with
  | false =>
    dsimp only
    rw [if_neg (by decide), if_neg (by decide)]
    exact ⟨0, rfl, fun z => Bool.noConfusion z⟩
  | true =>
    have hc := c
    unfold stB at hc
    rw [Bool.and_eq_true, decide_eq_true_eq, decide_eq_true_eq] at hc
    have hlen : w.length ≤ bs.length := by have := hc.1; omega
    rw [if_pos rfl, if_pos rfl, wI_wI, Nat.zero_add]
    dsimp only
    have i127 : (wI t 1079 127 (nI w.length)).I 1079 127 = nI w.length := wI_e _ _ _ _
    have i126 : (wI t 1079 127 (nI w.length)).I 1079 126 = nI bs.length := by rw [wI_o (by omega)]; exact h.1
    have hn := h.2.1
    rw [i127, i126]
    by_cases d : bs.length = w.length
    · rw [if_pos (by rw [d]), decide_eq_true d]
      exact ⟨w.length, rfl, fun _ => rfl⟩
    · rw [if_neg (by rw [nI_eq (by omega) (by omega)]; omega), g_1147 (by omega), Option.bind_some, decide_eq_false d, wI_Fe, h.2.2.2 w.length (by omega)]
      have h8 := h.2.2.1 w.length
      by_cases g : bs.getD w.length 0 = 32
      · rw [if_pos (show nI (bs.getD w.length 0) = 32 by rw [g]; rfl), decide_eq_true g]
        exact ⟨w.length, rfl, fun _ => rfl⟩
      · rw [if_neg (show ¬ nI (bs.getD w.length 0) = 32 from fun z => g ((nI_eq (b := 32) (by omega) (by decide)).mp z)), decide_eq_false g]
        exact ⟨w.length, rfl, fun z => Bool.noConfusion z⟩
/-- the first word of a line -/
def wEn (bs : List Nat) : Nat := (fnb bs 32 0 bs.length).getD bs.length
theorem wEn_le (bs : List Nat) : wEn bs ≤ bs.length := by
  unfold wEn
  cases h : fnb bs 32 0 bs.length with
  | none => exact Nat.le_refl _
  | some e => have := fnb_some h; show e ≤ bs.length; omega
theorem wEn_b (bs : List Nat) : ∀ j : Nat, j < wEn bs → bs.getD j 0 ≠ 32 := by
  intro j hj
  unfold wEn at hj
  cases h : fnb bs 32 0 bs.length with
  | none => rw [h] at hj; exact fnb_none h j (Nat.zero_le _) (by rw [Nat.zero_add]; exact hj)
  | some e => rw [h] at hj; exact (fnb_some h).2.2.2 j (Nat.zero_le _) hj
theorem wEn_at {bs : List Nat} (h : wEn bs < bs.length) : bs.getD (wEn bs) 0 = 32 := by
  unfold wEn at h ⊢
  cases e : fnb bs 32 0 bs.length with
  | none => rw [e] at h; exact absurd h (Nat.lt_irrefl _)
  | some q => exact (fnb_some e).2.2.1
theorem lo32 {c : Nat} : lo c = 32 ↔ c = 32 := by unfold lo; split <;> omega
theorem frB_eq {bs w : List Nat} (hw : lwc w) (h32 : ∀ j : Nat, j < w.length → w.getD j 0 ≠ 32) : frB bs w = eqW (sub bs 0 (wEn bs)) w := by
  have hle := wEn_le bs
  have hsl := sub_len hle (Nat.zero_le _)
  rw [Nat.sub_zero] at hsl
  rw [Bool.eq_iff_iff, eqW_r hw]
  unfold frB stB
  simp only [Bool.and_eq_true, Bool.or_eq_true, decide_eq_true_eq, Nat.zero_add]
  rw [hsl]
  constructor
  · rintro ⟨⟨a, b⟩, c⟩
    have e1 : w.length ≤ wEn bs := by
      by_cases d : wEn bs < w.length
      · have := wEn_at (bs := bs) (by omega)
        have z := b _ d
        rw [this] at z
        exact absurd (z.symm.trans (lo32.mpr rfl)) (h32 _ d)
      · omega
    have e2 : wEn bs ≤ w.length := by
      rcases c with c | c
      · omega
      · by_cases d : w.length < wEn bs
        · exact absurd c (wEn_b bs _ d)
        · omega
    refine ⟨by omega, fun j hj => ?_⟩
    rw [sub_get (by omega), Nat.zero_add]
    exact b j hj
  · rintro ⟨a, b⟩
    refine ⟨⟨by omega, fun j hj => ?_⟩, ?_⟩
    · have := b j hj
      rw [sub_get (by omega), Nat.zero_add] at this
      exact this
    · by_cases d : wEn bs < bs.length
      · right; rw [← a]; exact wEn_at d
      · left; omega
theorem eqW_u {x w1 w2 : List Nat} (h1 : lwc w1) (h2 : lwc w2) (e1 : eqW x w1 = true) (e2 : eqW x w2 = true) : w1 = w2 := by
  rw [eqW_r h1, Bool.and_eq_true, decide_eq_true_eq, decide_eq_true_eq] at e1
  rw [eqW_r h2, Bool.and_eq_true, decide_eq_true_eq, decide_eq_true_eq] at e2
  have hl : w1.length = w2.length := e1.1.symm.trans e2.1
  refine List.ext_getElem hl (fun j y1 y2 => ?_)
  have a := e1.2 j y1
  have b := e2.2 j y2
  rw [getD_ge _ _ y1] at a
  rw [getD_ge _ _ y2] at b
  exact a.symm.trans b
/-- the seven words, in the class's order -/
def W7 : List (List Nat) := [kW_166, kW_172, kW_173, kW_174, kW_169, kW_167, kW_170]
theorem W7_ok : ∀ w ∈ W7, lwc w ∧ w.length = 4 ∧ ∀ j : Nat, j < 4 → w.getD j 0 ≠ 32 := by unfold W7 lwc; decide +kernel
theorem c_W7 (bs : List Nat) : plc bs kW_15 0 0 true = wix bs W7 0 := by
  rw [plc_wix, ← wix_lo]
  rfl
theorem wix_7 {x : List Nat} : ∀ (ws : List (List Nat)) (i : Nat), (∀ w ∈ ws, lwc w) → ws.Nodup → ∀ q : Nat, q < ws.length → (eqW x (ws.getD q []) = decide (wix x ws i = some (i + q)))
  | [], _, _, _, q, hq => absurd hq (Nat.not_lt_zero _)
  | w :: ws, i, hw, hd, q, hq => by
    have hd2 := List.nodup_cons.mp hd
    cases q with
    | zero =>
      show eqW x w = _
      unfold wix
      cases c : eqW x w with
      | true => rw [if_pos rfl]; exact (decide_eq_true rfl).symm
      | false =>
        rw [if_neg (by decide)]
        refine (decide_eq_false (fun z => ?_)).symm
        have := wix_lt z
        omega
    | succ q =>
      show eqW x (ws.getD q []) = _
      have hq2 : q < ws.length := by have : q + 1 < ws.length + 1 := hq; omega
      unfold wix
      cases c : eqW x w with
      | true =>
        rw [if_pos rfl]
        rw [show decide (some i = some (i + (q + 1))) = false from decide_eq_false (fun z => by have := Option.some.inj z; omega)]
        cases d : eqW x (ws.getD q []) with
        | false => rfl
        | true =>
          have hm : ws.getD q [] ∈ ws := by rw [getD_ge _ _ hq2]; exact List.getElem_mem _
          have := eqW_u (hw _ (List.mem_cons_self ..)) (hw _ (List.mem_cons_of_mem _ hm)) c d
          exact absurd (this ▸ hm) hd2.1
      | false =>
        rw [if_neg (by decide), wix_7 ws (i + 1) (fun w hw2 => hw w (List.mem_cons_of_mem _ hw2)) hd2.2 q hq2, show i + 1 + q = i + (q + 1) by omega]
theorem W7_nd : W7.Nodup := by unfold W7; decide +kernel
theorem frB_7 {bs : List Nat} {q : Nat} (hq : q < 7) : frB bs (W7.getD q []) = decide (wix (sub bs 0 (wEn bs)) W7 0 = some q) := by
  have hm : W7.getD q [] ∈ W7 := by rw [getD_ge _ _ (show q < W7.length from hq)]; exact List.getElem_mem _
  obtain ⟨a, b, c⟩ := W7_ok _ hm
  rw [frB_eq a (fun j hj => c j (by omega)), wix_7 W7 0 (fun w hw => (W7_ok w hw).1) W7_nd q hq, Nat.zero_add]
