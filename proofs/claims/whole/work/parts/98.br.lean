/-! the reference: what lies between tokens -/
def rsI (k f : Nat) : Prop := k = 1079 ∧ f = 30
theorem skx_mono {x : List Nat} : ∀ (n p : Nat), x.length < p + n → skx x (n + 1) p = skx x n p := by
  intro n
  induction n with
  | zero =>
    intro p h
    unfold skx
    rw [if_pos (by omega)]
  | succ n ih =>
    intro p h
    show (if x.length ≤ p then _ else if _ then skx x (n + 1) (p + 1) else if x.getD p 0 = 35 then skx x (n + 1) (lfx x 10 p) else if _ then (match cend x x.length (p + 2) with | none => (false, p) | some q => skx x (n + 1) q) else _) = (if x.length ≤ p then _ else if _ then skx x n (p + 1) else if x.getD p 0 = 35 then skx x n (lfx x 10 p) else if _ then (match cend x x.length (p + 2) with | none => (false, p) | some q => skx x n q) else _)
    by_cases c : x.length ≤ p
    · rw [if_pos c, if_pos c]
    · rw [if_neg c, if_neg c, ih (p + 1) (by omega)]
      by_cases d : x.getD p 0 = 35
      · have hl := lfx_s (b := 10) (show p < x.length by omega)
        rw [if_neg (by omega)] at hl
        have hle := lfx_le (x := x) (b := 10) (p := p + 1) (by omega)
        rw [if_pos d, if_pos d, ih (lfx x 10 p) (by omega)]
      · rw [if_neg d, if_neg d]
        cases hv : cend x x.length (p + 2) with
        | none => rfl
        | some q =>
          have hq := cend_lt hv
          dsimp only
          rw [ih q (by omega)]
theorem skx_add {x : List Nat} {n p : Nat} (h : x.length < p + n) : ∀ d : Nat, skx x (n + d) p = skx x n p := by
  intro d
  induction d with
  | zero => rfl
  | succ d ih => rw [show n + (d + 1) = (n + d) + 1 by omega, skx_mono _ _ (by omega), ih]
/-- to a byte or to the end -/
theorem r_skip55 {x : List Nat} (K2 : Bool → uS → Option (uS × Bool)) (b : Bool) : ∀ (n p : Nat) (t : uS), lxR t x p → x.length < p + n → fn_X12_skip_55 K2 n b t = K2 b (if lfx x 10 p = p then t else wI t 1079 30 (nI (lfx x 10 p))) := by
  intro n
  induction n with
  | zero => intro p t h a; have := h.2.2.2.2.2; omega
  | succ n ih =>
    intro p t h a
    have hp := h.2.2.2.2.2
    have h4 := h.2.2.2.1
    unfold fn_X12_skip_55 fb_X12_skip_55
    rw [h.peek0, Option.bind_some]
    by_cases c : p < x.length
    · have b1 := h.2.2.1 p
      rw [if_pos c, if_neg (nI_pos (by omega)), Option.bind_some, lfx_s c]
      by_cases d : x.getD p 0 = 10
      · rw [if_pos (show nI (x.getD p 0) = 10 by rw [d]; rfl), if_pos d, if_pos rfl]
      · rw [if_neg (show ¬ nI (x.getD p 0) = 10 by show ¬ nI (x.getD p 0) = nI 10; rw [nI_eq (by omega) (by omega)]; exact d), if_neg d, h.2.2.2.2.1, nI_1, ih (p + 1) _ (h.to (by omega)) (by omega)]
        have hle := lfx_le (x := x) (b := 10) (p := p + 1) (by omega)
        rw [if_neg (show ¬ lfx x 10 (p + 1) = p by omega)]
        by_cases e : lfx x 10 (p + 1) = p + 1
        · rw [if_pos e, e]
        · rw [if_neg e]
          congr 1
          have : uw2 (uw2 t.I 1079 30 (nI (p + 1))) 1079 30 (nI (lfx x 10 (p + 1))) = uw2 t.I 1079 30 (nI (lfx x 10 (p + 1))) := by
            funext a b
            unfold uw2
            split <;> rfl
          show (_, uw2 (uw2 t.I 1079 30 (nI (p + 1))) 1079 30 (nI (lfx x 10 (p + 1))), _) = _
          rw [this]
          rfl
    · rw [if_neg c, if_pos (show (-1 : Int32) < 0 by decide), lfx_e (by omega), if_pos (by omega)]
theorem r_skip109 {x : List Nat} {p : Nat} {t : uS} (h : lxR t x p) (K2 : Bool → uS → Option (uS × Bool)) (b : Bool) : ∀ (n i : Nat), x.length ≤ i + n → i ≤ x.length + 2 → fn_X12_skip_109 K2 (n + 1) b (nI i) t = (match cend x n i with | none => some (t, false) | some q => K2 b (wI t 1079 30 (nI q))) := by
  have h4 := h.2.2.2.1
  intro n
  induction n with
  | zero =>
    intro i a c
    unfold fn_X12_skip_109 fb_X12_skip_109 fb_X12_skip_150
    rw [h.1, nI_1, if_pos (nI_le (by omega) (by omega)), if_neg (nI_nlt (by omega) (by omega))]
    rfl
  | succ n ih =>
    intro i a c
    show fb_X12_skip_109 K2 (fn_X12_skip_109 K2 (n + 1)) b (nI i) t = _
    unfold fb_X12_skip_109 fb_X12_skip_150 cend
    rw [h.1, nI_1]
    by_cases d : x.length ≤ i + 1
    · rw [if_pos (nI_le (by omega) (by omega)), if_neg (nI_nlt (by omega) (by omega)), if_pos d]
    · have b1 := h.2.2.1 i
      have b2 := h.2.2.1 (i + 1)
      have e1 : nI (x.getD i 0) = (42 : Int32) ↔ x.getD i 0 = 42 := nI_eq (by omega) (by decide)
      have e2 : nI (x.getD (i + 1) 0) = (47 : Int32) ↔ x.getD (i + 1) 0 = 47 := nI_eq (by omega) (by decide)
      rw [if_neg (nI_ge (by omega) (by omega)), if_neg d, g_1096 (by omega), Option.bind_some, h.2.1 i (by omega), g_1096 (by omega), Option.bind_some, h.2.1 (i + 1) (by omega), if_pos (nI_lt (show i + 1 < x.length by omega) (by omega)), show nI i + 2 = nI (i + 2) from nI_add i 2]
      by_cases e : x.getD i 0 = 42
      · rw [if_pos (e1.mpr e)]
        by_cases f : x.getD (i + 1) 0 = 47
        · rw [if_pos (e2.mpr f), if_pos ⟨e, f⟩]
        · rw [if_neg (fun z => f (e2.mp z)), if_neg (fun z => f z.2)]; exact ih (i + 1) (by omega) (by omega)
      · rw [if_neg (fun z => e (e1.mp z)), if_neg (fun z => e z.1)]; exact ih (i + 1) (by omega) (by omega)
theorem cend_mono {x : List Nat} : ∀ (m i : Nat), x.length ≤ i + m → cend x m i = cend x (m + 1) i := by
  intro m
  induction m with
  | zero => intro i hi; unfold cend; rw [if_pos (by omega)]
  | succ m ihm =>
    intro i hi
    show (if x.length ≤ i + 1 then none else if _ then _ else cend x m (i + 1)) = (if x.length ≤ i + 1 then none else if _ then _ else cend x (m + 1) (i + 1))
    rw [ihm (i + 1) (by omega)]
theorem cend_add {x : List Nat} {i : Nat} : ∀ d : Nat, cend x (x.length + d) i = cend x x.length i := by
  intro d
  induction d with
  | zero => rfl
  | succ d ihd => rw [← ihd, show x.length + (d + 1) = (x.length + d) + 1 by omega]; exact (cend_mono _ _ (by omega)).symm
theorem r_skip {x : List Nat} : ∀ (n p : Nat) (t : uS), lxR t x p → x.length + 1 < p + n → ∃ t1 : uS, fn_X12_skip_2 n true t = some (t1, (skx x n p).1) ∧ out rsI rNo t t1 ∧ lxR t1 x (skx x n p).2 := by
  intro n
  induction n with
  | zero => intro p t h a; have := h.2.2.2.2.2; omega
  | succ n ih =>
    intro p t h a
    have hp := h.2.2.2.2.2
    have h4 := h.2.2.2.1
    have h5 := h.2.2.2.2.1
    show ∃ t1 : uS, fb_X12_skip_2 (fn_X12_skip_2 n) true t = _ ∧ _
    unfold fb_X12_skip_2 fb_X12_skip_36
    rw [if_pos rfl, h.peek0, Option.bind_some, h5, nI_1]
    have fin : ∃ t1 : uS, fn_X12_skip_2 n false t = some (t1, true) ∧ out rsI rNo t t1 ∧ lxR t1 x p := by
      cases n with
      | zero => omega
      | succ n => exact ⟨t, rfl, out_r, h⟩
    have go : ∀ q : Nat, q ≤ x.length → p < q → ∃ t1 : uS, fn_X12_skip_2 n true (wI t 1079 30 (nI q)) = some (t1, (skx x n q).1) ∧ out rsI rNo t t1 ∧ lxR t1 x (skx x n q).2 := by
      intro q hq hpq
      obtain ⟨t1, a1, a2, a3⟩ := ih q _ (h.to hq) (by omega)
      exact ⟨t1, a1, out_t (out_I out_r ⟨rfl, rfl⟩) a2, a3⟩
    unfold skx
    by_cases c : x.length ≤ p
    · rw [if_neg (show ¬ p < x.length by omega), if_neg (show ¬ (-1 : Int32) = 9 by decide), if_neg (show ¬ (-1 : Int32) = 10 by decide), if_neg (show ¬ (-1 : Int32) = 13 by decide), if_neg (show ¬ (-1 : Int32) = 32 by decide), if_neg (show ¬ (-1 : Int32) = 35 by decide), if_neg (show ¬ (-1 : Int32) = 47 by decide), if_pos c]
      exact fin
    · have b1 := h.2.2.1 p
      have e : ∀ c : Nat, c < 128 → (nI (x.getD p 0) = nI c ↔ x.getD p 0 = c) := fun c hc => nI_eq (by omega) (by omega)
      have e9 : nI (x.getD p 0) = (9 : Int32) ↔ x.getD p 0 = 9 := e 9 (by decide)
      have e10 : nI (x.getD p 0) = (10 : Int32) ↔ x.getD p 0 = 10 := e 10 (by decide)
      have e13 : nI (x.getD p 0) = (13 : Int32) ↔ x.getD p 0 = 13 := e 13 (by decide)
      have e32 : nI (x.getD p 0) = (32 : Int32) ↔ x.getD p 0 = 32 := e 32 (by decide)
      have e35 : nI (x.getD p 0) = (35 : Int32) ↔ x.getD p 0 = 35 := e 35 (by decide)
      have e47 : nI (x.getD p 0) = (47 : Int32) ↔ x.getD p 0 = 47 := e 47 (by decide)
      rw [if_neg c, if_pos (show p < x.length by omega)]
      simp only [e9, e10, e13, e32, e35, e47]
      by_cases w : x.getD p 0 = 9 ∨ x.getD p 0 = 10 ∨ x.getD p 0 = 13 ∨ x.getD p 0 = 32
      · rw [if_pos w]
        have g := go (p + 1) (by omega) (by omega)
        by_cases w1 : x.getD p 0 = 9
        · rw [if_pos w1]; exact g
        · rw [if_neg w1]
          by_cases w2 : x.getD p 0 = 10
          · rw [if_pos w2]; exact g
          · rw [if_neg w2]
            by_cases w3 : x.getD p 0 = 13
            · rw [if_pos w3]; exact g
            · rw [if_neg w3, if_pos (by omega)]; exact g
      · rw [if_neg w, if_neg (by omega), if_neg (by omega), if_neg (by omega), if_neg (by omega)]
        by_cases w5 : x.getD p 0 = 35
        · rw [if_pos w5, if_pos w5, r_skip55 _ _ uFu p t h (by show _ < p + 1000000; omega)]
          have hl := lfx_s (b := 10) (show p < x.length by omega)
          rw [if_neg (by omega)] at hl
          have hle := lfx_le (x := x) (b := 10) (p := p + 1) (by omega)
          rw [if_neg (show ¬ lfx x 10 p = p by omega)]
          exact go (lfx x 10 p) (by omega) (by omega)
        · rw [if_neg w5, if_neg w5]
          by_cases w6 : x.getD p 0 = 47
          · rw [if_pos w6, h.peek1, Option.bind_some]
            by_cases w7 : p + 1 < x.length ∧ x.getD (p + 1) 0 = 42
            · have b2 := h.2.2.1 (p + 1)
              rw [if_pos w7.1, if_pos (show nI (x.getD (p + 1) 0) = (42 : Int32) by rw [w7.2]; rfl), if_pos ⟨w6, w7⟩]
              have := r_skip109 h (fn_X12_skip_2 n) true (x.length + (999999 - x.length)) (p + 2) (by omega) (by omega)
              rw [cend_add, show x.length + (999999 - x.length) + 1 = 1000000 by omega] at this
              have t2 : fn_X12_skip_109 (fn_X12_skip_2 n) uFu true (nI (p + 2)) t = _ := this
              rw [show nI p + 2 = nI (p + 2) from nI_add p 2, t2]
              cases hv : cend x x.length (p + 2) with
              | none => exact ⟨t, rfl, out_r, h⟩
              | some q =>
                have hq := cend_lt hv
                exact go q hq.2 (by omega)
            · rw [if_neg (show ¬ (x.getD p 0 = 47 ∧ p + 1 < x.length ∧ x.getD (p + 1) 0 = 42) from fun z => w7 z.2)]
              have hne : ¬ (if p + 1 < x.length then nI (x.getD (p + 1) 0) else -1) = (42 : Int32) := by
                by_cases w8 : p + 1 < x.length
                · have b2 := h.2.2.1 (p + 1)
                  rw [if_pos w8]
                  exact fun z => w7 ⟨w8, (nI_eq (by omega) (by decide)).mp (show nI (x.getD (p + 1) 0) = nI 42 from z)⟩
                · rw [if_neg w8]; decide
              rw [if_neg hne]
              exact fin
          · rw [if_neg w6, if_neg (show ¬ (x.getD p 0 = 47 ∧ p + 1 < x.length ∧ x.getD (p + 1) 0 = 42) from fun z => w6 z.1)]
            exact fin
