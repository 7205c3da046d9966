/-! the lexers: where a token begins -/
def lxC (s : uS) (k fr : Nat) (x : List Nat) (p : Nat) : Prop := s.R 7 1 = some k ∧ rdC s k fr x ∧ x.length ≤ 2000 ∧ fr ≤ 10000 ∧ s.I 7 4 = nI fr ∧ s.I 7 5 = nI (fr + x.length) ∧ s.I 7 8 = nI (fr + p) ∧ p ≤ x.length
def lxR (t : uS) (x : List Nat) (p : Nat) : Prop := t.I 1079 29 = nI x.length ∧ (∀ j : Nat, j < x.length → t.F 1096 j = nI (x.getD j 0)) ∧ bys x ∧ x.length ≤ 2000 ∧ t.I 1079 30 = nI p ∧ p ≤ x.length
theorem lxC.at {s : uS} {k fr p q : Nat} {x : List Nat} (h : lxC s k fr x p) (hq : q < x.length) : iget 21 s k (nI (fr + q)) = some (sb (x.getD q 0)) := h.2.1.2.2 q hq
theorem lxC.by {s : uS} {k fr p : Nat} {x : List Nat} (h : lxC s k fr x p) : bys x := h.2.1.2.1
theorem lxC.byteAt {s : uS} {k fr p q : Nat} {x : List Nat} (h : lxC s k fr x p) (hq : q < 20000) : fn_X2_byteAt (nI (fr + q)) s = some (if q < x.length then sb (x.getD q 0) else -1) := by
  have h1 := h.2.2.1
  have h2 := h.2.2.2.1
  unfold fn_X2_byteAt
  rw [h.2.2.2.2.2.1]
  by_cases c : q < x.length
  · rw [if_neg (nI_ge (by omega) (by omega)), if_pos c, h.1, Option.bind_some, h.at c, Option.bind_some]
  · rw [if_pos (nI_le (by omega) (by omega)), if_neg c]
theorem lxR.peek {t : uS} {p q : Nat} {x : List Nat} (h : lxR t x p) (hq : q < 20000) : fn_X12_peek (nI q) t = some (if p + q < x.length then nI (x.getD (p + q) 0) else -1) := by
  obtain ⟨h1, h2, h3, h4, h5, h6⟩ := h
  unfold fn_X12_peek
  rw [h1, h5, nI_add]
  by_cases c : p + q < x.length
  · rw [if_neg (nI_ge (by omega) (by omega)), if_pos c, g_1096 (by omega), Option.bind_some, h2 _ c]
  · rw [if_pos (nI_le (by omega) (by omega)), if_neg c]
theorem lxR.peek0 {t : uS} {p : Nat} {x : List Nat} (h : lxR t x p) : fn_X12_peek 0 t = some (if p < x.length then nI (x.getD p 0) else -1) := h.peek (q := 0) (by decide)
theorem lxR.peek1 {t : uS} {p : Nat} {x : List Nat} (h : lxR t x p) : fn_X12_peek 1 t = some (if p + 1 < x.length then nI (x.getD (p + 1) 0) else -1) := h.peek (q := 1) (by decide)
theorem lxC.to {s : uS} {k fr p q : Nat} {x : List Nat} (h : lxC s k fr x p) (hq : q ≤ x.length) : lxC (wI s 7 8 (nI (fr + q))) k fr x q := by
  obtain ⟨a1, a2, a3, a4, a5, a6, a7, a8⟩ := h
  exact ⟨a1, a2, a3, a4, (wI_o (by omega)).trans a5, (wI_o (by omega)).trans a6, wI_e _ _ _ _, hq⟩
theorem lxC.I {s : uS} {k fr p f : Nat} {v : Int32} {x : List Nat} (h : lxC s k fr x p) (hf : f ≠ 4 ∧ f ≠ 5 ∧ f ≠ 8) : lxC (wI s 7 f v) k fr x p := by
  obtain ⟨a1, a2, a3, a4, a5, a6, a7, a8⟩ := h
  exact ⟨a1, a2, a3, a4, (wI_o (by omega)).trans a5, (wI_o (by omega)).trans a6, (wI_o (by omega)).trans a7, a8⟩
theorem lxR.to {t : uS} {p q : Nat} {x : List Nat} (h : lxR t x p) (hq : q ≤ x.length) : lxR (wI t 1079 30 (nI q)) x q := by
  obtain ⟨a1, a2, a3, a4, a5, a6⟩ := h
  exact ⟨(wI_o (by omega)).trans a1, a2, a3, a4, wI_e _ _ _ _, hq⟩
/-- the first place from p on of a byte, or the end -/
def lfx (x : List Nat) (b p : Nat) : Nat := (fnb x b p (x.length - p)).getD x.length
theorem lfx_s {x : List Nat} {b p : Nat} (hp : p < x.length) : lfx x b p = if x.getD p 0 = b then p else lfx x b (p + 1) := by
  unfold lfx
  rw [show x.length - p = (x.length - (p + 1)) + 1 by omega]
  show (if x.getD p 0 = b then some p else fnb x b (p + 1) (x.length - (p + 1))).getD _ = _
  split <;> rfl
theorem lfx_e {x : List Nat} {b p : Nat} (hp : x.length ≤ p) : lfx x b p = x.length := by
  unfold lfx
  rw [show x.length - p = 0 by omega]
  rfl
theorem lfx_le {x : List Nat} {b p : Nat} (hp : p ≤ x.length) : p ≤ lfx x b p ∧ lfx x b p ≤ x.length := by
  unfold lfx
  cases h : fnb x b p (x.length - p) with
  | none => exact ⟨hp, Nat.le_refl _⟩
  | some q => have := fnb_some h; exact ⟨this.1, by show q ≤ _; omega⟩
/-- the end of a comment -/
def cend (x : List Nat) : Nat → Nat → Option Nat
  | 0, _ => none
  | n + 1, i => if x.length ≤ i + 1 then none else if x.getD i 0 = 42 ∧ x.getD (i + 1) 0 = 47 then some (i + 2) else cend x n (i + 1)
def skx (x : List Nat) : Nat → Nat → Bool × Nat
  | 0, p => (true, p)
  | n + 1, p => if x.length ≤ p then (true, p) else if x.getD p 0 = 9 ∨ x.getD p 0 = 10 ∨ x.getD p 0 = 13 ∨ x.getD p 0 = 32 then skx x n (p + 1) else if x.getD p 0 = 35 then skx x n (lfx x 10 p) else if x.getD p 0 = 47 ∧ p + 1 < x.length ∧ x.getD (p + 1) 0 = 42 then (match cend x x.length (p + 2) with | none => (false, p) | some q => skx x n q) else (true, p)
theorem cend_lt {x : List Nat} : ∀ {n i q : Nat}, cend x n i = some q → i + 2 ≤ q ∧ q ≤ x.length := by
  intro n
  induction n with
  | zero => intro i q h; cases h
  | succ n ih =>
    intro i q h
    unfold cend at h
    split at h
    · cases h
    · split at h
      · cases h; omega
      · have := ih h; omega
theorem skx_le {x : List Nat} : ∀ {n p : Nat}, p ≤ x.length → p ≤ (skx x n p).2 ∧ (skx x n p).2 ≤ x.length := by
  intro n
  induction n with
  | zero => intro p h; exact ⟨Nat.le_refl _, h⟩
  | succ n ih =>
    intro p h
    unfold skx
    split
    · exact ⟨Nat.le_refl _, h⟩
    · split
      · have := ih (p := p + 1) (by omega); omega
      · split
        · have h1 := lfx_le (x := x) (b := 10) h
          have := ih (p := lfx x 10 p) h1.2; omega
        · split
          · split
            · exact ⟨Nat.le_refl _, h⟩
            · rename_i q hq
              have h1 := cend_lt hq
              have := ih (p := q) h1.2; omega
          · exact ⟨Nat.le_refl _, h⟩
/-- the class looks for a comment's end -/
theorem c_cend {s : uS} {k fr p : Nat} {x : List Nat} (h : lxC s k fr x p) : ∀ (n i : Nat), x.length ≤ i + n → i ≤ x.length + 2 → fn_X2_commentEnd_2 (n + 1) (nI (fr + i)) s = some (match cend x n i with | none => -1 | some q => nI (fr + q)) := by
  have h1 := h.2.2.1
  have h2 := h.2.2.2.1
  intro n
  induction n with
  | zero =>
    intro i a b
    unfold fn_X2_commentEnd_2 fb_X2_commentEnd_2
    rw [h.2.2.2.2.2.1, nI_1, if_pos (nI_le (by omega) (by omega))]
    rfl
  | succ n ih =>
    intro i a b
    show fb_X2_commentEnd_2 (fn_X2_commentEnd_2 (n + 1)) _ _ = _
    unfold fb_X2_commentEnd_2 cend
    rw [h.2.2.2.2.2.1, nI_1]
    by_cases c : x.length ≤ i + 1
    · rw [if_pos (nI_le (by omega) (by omega)), if_pos c]
    · have b1 := h.by i
      have b2 := h.by (i + 1)
      have g2 := h.at (q := i + 1) (by omega)
      rw [show fr + (i + 1) = fr + i + 1 by omega] at g2
      have nx := ih (i + 1) (by omega) (by omega)
      rw [show fr + (i + 1) = fr + i + 1 by omega] at nx
      rw [if_neg (nI_ge (by omega) (by omega)), if_neg c, h.1, Option.bind_some, h.at (q := i) (by omega), Option.bind_some, Option.bind_some, g2, Option.bind_some, show (2 : Int32) = nI 2 from rfl, nI_add]
      have e1 : sb (x.getD i 0) = (42 : Int32) ↔ x.getD i 0 = 42 := sb_e b1 (by decide)
      have e2 : sb (x.getD (i + 1) 0) = (47 : Int32) ↔ x.getD (i + 1) 0 = 47 := sb_e b2 (by decide)
      by_cases d : x.getD i 0 = 42
      · rw [if_pos (e1.mpr d)]
        by_cases e : x.getD (i + 1) 0 = 47
        · rw [if_pos (e2.mpr e), if_pos ⟨d, e⟩, show fr + i + 2 = fr + (i + 2) by omega]
        · rw [if_neg (fun z => e (e2.mp z)), if_neg (fun z => e z.2)]; exact nx
      · rw [if_neg (fun z => d (e1.mp z)), if_neg (fun z => d z.1)]; exact nx
def sbI (k f : Nat) : Prop := k = 7 ∧ (f = 6 ∨ f = 8)
theorem m1_lt {n : Nat} (h : n < 2 ^ 31) : (0 : Int32) ≤ nI n := nI_pos' h
/-- the class: what lies between tokens -/
theorem c_skip {k fr : Nat} {x : List Nat} : ∀ (n p : Nat) (s : uS), lxC s k fr x p → x.length < p + n → ∃ s1 : uS, fn_X2_skipBetween_0 n s = some (s1, (skx x n p).1) ∧ out sbI rNo s s1 ∧ ((skx x n p).1 = true ∧ lxC s1 k fr x (skx x n p).2 ∨ (skx x n p).1 = false ∧ s1.I 7 6 = nI (fr + (skx x n p).2)) := by
  intro n
  induction n with
  | zero => intro p s h a; have := h.2.2.2.2.2.2.2; omega
  | succ n ih =>
    intro p s h a
    have h1 := h.2.2.1
    have h2 := h.2.2.2.1
    have hp := h.2.2.2.2.2.2.2
    have h7 := h.2.2.2.2.2.2.1
    have h6 := h.2.2.2.2.2.1
    show ∃ s1 : uS, fb_X2_skipBetween_0 (fn_X2_skipBetween_0 n) s = _ ∧ _
    unfold fb_X2_skipBetween_0 fb_X2_skipBetween_45 skx
    rw [h6, h7]
    by_cases c : x.length ≤ p
    · rw [if_pos (nI_le (by omega) (by omega)), if_pos c]
      exact ⟨s, rfl, out_r, Or.inl ⟨rfl, h⟩⟩
    · have b1 := h.by p
      have e : ∀ c : Nat, c < 128 → (sb (x.getD p 0) = nI c ↔ x.getD p 0 = c) := fun c hc => sb_e b1 hc
      rw [if_neg (nI_ge (by omega) (by omega)), if_neg c, h.1, Option.bind_some, h.at (by omega), Option.bind_some]
      have e9 : sb (x.getD p 0) = (9 : Int32) ↔ x.getD p 0 = 9 := e 9 (by decide)
      have e10 : sb (x.getD p 0) = (10 : Int32) ↔ x.getD p 0 = 10 := e 10 (by decide)
      have e13 : sb (x.getD p 0) = (13 : Int32) ↔ x.getD p 0 = 13 := e 13 (by decide)
      have e32 : sb (x.getD p 0) = (32 : Int32) ↔ x.getD p 0 = 32 := e 32 (by decide)
      have e35 : sb (x.getD p 0) = (35 : Int32) ↔ x.getD p 0 = 35 := e 35 (by decide)
      have e47 : sb (x.getD p 0) = (47 : Int32) ↔ x.getD p 0 = 47 := e 47 (by decide)
      simp only [e9, e10, e13, e32, e35, e47]
      have go : ∀ q : Nat, q ≤ x.length → p < q → ∃ s1 : uS, fn_X2_skipBetween_0 n (wI s 7 8 (nI (fr + q))) = some (s1, (skx x n q).1) ∧ out sbI rNo s s1 ∧ ((skx x n q).1 = true ∧ lxC s1 k fr x (skx x n q).2 ∨ (skx x n q).1 = false ∧ s1.I 7 6 = nI (fr + (skx x n q).2)) := by
        intro q hq hpq
        obtain ⟨s1, a1, a2, a3⟩ := ih q _ (h.to hq) (by omega)
        exact ⟨s1, a1, out_t (out_I out_r ⟨rfl, Or.inr rfl⟩) a2, a3⟩
      by_cases w : x.getD p 0 = 9 ∨ x.getD p 0 = 10 ∨ x.getD p 0 = 13 ∨ x.getD p 0 = 32
      · rw [if_pos w]
        have g := go (p + 1) (by omega) (by omega)
        rw [nI_1, show fr + p + 1 = fr + (p + 1) by omega]
        by_cases w1 : x.getD p 0 = 9
        · rw [if_pos w1]; exact g
        · rw [if_neg w1]
          by_cases w2 : x.getD p 0 = 10
          · rw [if_pos w2]; exact g
          · rw [if_neg w2]
            by_cases w3 : x.getD p 0 = 13
            · rw [if_pos w3]; exact g
            · rw [if_neg w3, if_pos (by omega)]; exact g
      · rw [if_neg w, if_neg (by omega), if_neg (by omega), if_neg (by omega), if_neg (by omega)]
        by_cases w5 : x.getD p 0 = 35
        · rw [if_pos w5, if_pos w5]
          have hf := c_findL h.2.1 (show 10 < 128 by decide) uFu p (by show _ < p + 1000000; omega) hp
          have hf' : fn_X9_find k (nI (fr + p)) (nI (fr + x.length)) 10 s = some (match fnb x 10 p (x.length - p) with | none => -1 | some j => nI (fr + j)) := hf
          rw [Option.bind_some, hf', Option.bind_some]
          have hl := lfx_s (b := 10) (show p < x.length by omega)
          rw [if_neg (by omega)] at hl
          have hle := lfx_le (x := x) (b := 10) (p := p + 1) (by omega)
          have g := go (lfx x 10 p) (by omega) (by omega)
          have hd : lfx x 10 p = (fnb x 10 p (x.length - p)).getD x.length := rfl
          cases hv : fnb x 10 p (x.length - p) with
          | none =>
            rw [hv] at hd
            dsimp only
            rw [if_neg (show ¬ (0 : Int32) ≤ -1 by decide)]
            rw [hd] at g ⊢
            exact g
          | some j =>
            rw [hv] at hd
            have hj := fnb_some hv
            dsimp only
            rw [if_pos (show (0 : Int32) ≤ nI (fr + j) from nI_pos' (by omega))]
            rw [hd] at g ⊢
            exact g
        · rw [if_neg w5, if_neg w5]
          by_cases w6 : x.getD p 0 = 47
          · have hb := h.byteAt (q := p + 1) (by omega)
            rw [if_pos w6, nI_1, show fr + p + 1 = fr + (p + 1) by omega, hb, Option.bind_some]
            by_cases w7 : p + 1 < x.length ∧ x.getD (p + 1) 0 = 42
            · have b2 := h.by (p + 1)
              rw [if_pos w7.1, if_pos (show sb (x.getD (p + 1) 0) = (42 : Int32) from (sb_e b2 (by decide)).mpr w7.2), if_pos ⟨w6, w7⟩]
              have hc := c_cend (h.I (f := 6) (v := nI (fr + p)) (by decide)) x.length (p + 2) (by omega) (by omega)
              have hc' : fn_X2_commentEnd (nI (fr + (p + 2))) (wI s 7 6 (nI (fr + p))) = some (match cend x x.length (p + 2) with | none => -1 | some q => nI (fr + q)) := by
                have mono : ∀ (m : Nat), x.length ≤ m → fn_X2_commentEnd_2 (m + 1) (nI (fr + (p + 2))) (wI s 7 6 (nI (fr + p))) = some (match cend x m (p + 2) with | none => -1 | some q => nI (fr + q)) := fun m hm => c_cend (h.I (f := 6) (v := nI (fr + p)) (by decide)) m (p + 2) (by omega) (by omega)
                have same : ∀ (m i : Nat), x.length ≤ i + m → cend x m i = cend x (m + 1) i := by
                  intro m
                  induction m with
                  | zero => intro i hi; unfold cend; rw [if_pos (by omega)]
                  | succ m ihm =>
                    intro i hi
                    show (if x.length ≤ i + 1 then none else if _ then _ else cend x m (i + 1)) = (if x.length ≤ i + 1 then none else if _ then _ else cend x (m + 1) (i + 1))
                    rw [ihm (i + 1) (by omega)]
                have same2 : ∀ d : Nat, cend x (x.length + d) (p + 2) = cend x x.length (p + 2) := by
                  intro d
                  induction d with
                  | zero => rfl
                  | succ d ihd => rw [← ihd, show x.length + (d + 1) = (x.length + d) + 1 by omega]; exact (same _ _ (by omega)).symm
                have := mono 999999 (by omega)
                rw [show 999999 = x.length + (999999 - x.length) by omega, same2] at this
                rw [show x.length + (999999 - x.length) + 1 = 1000000 by omega] at this
                exact this
              rw [wI_o (show ¬ (7 = 7 ∧ 8 = 6) by decide), h7, show nI (fr + p) + 2 = nI (fr + p + 2) from nI_add _ 2, show fr + p + 2 = fr + (p + 2) by omega, hc', Option.bind_some]
              simp only [wI_e]
              cases hv : cend x x.length (p + 2) with
              | none =>
                dsimp only
                rw [if_neg (show ¬ (0 : Int32) ≤ -1 by decide)]
                refine ⟨_, rfl, out_I (out_I out_r ⟨rfl, Or.inl rfl⟩) ⟨rfl, Or.inr rfl⟩, Or.inr ⟨rfl, ?_⟩⟩
                show (wI (wI s 7 6 (nI (fr + p))) 7 8 _).I 7 6 = nI (fr + p)
                rw [wI_o (by decide), wI_e]
              | some q =>
                have hq := cend_lt hv
                dsimp only
                rw [if_pos (show (0 : Int32) ≤ nI (fr + q) from nI_pos' (by omega))]
                obtain ⟨s1, a1, a2, a3⟩ := ih q _ ((h.I (f := 6) (v := nI (fr + p)) (by decide)).to hq.2) (by omega)
                exact ⟨s1, a1, out_t (out_I (out_I out_r ⟨rfl, Or.inl rfl⟩) ⟨rfl, Or.inr rfl⟩) a2, a3⟩
            · rw [if_neg (show ¬ (x.getD p 0 = 47 ∧ p + 1 < x.length ∧ x.getD (p + 1) 0 = 42) from fun z => w7 z.2)]
              have hne : ¬ (if p + 1 < x.length then sb (x.getD (p + 1) 0) else -1) = (42 : Int32) := by
                by_cases w8 : p + 1 < x.length
                · have b2 := h.by (p + 1)
                  rw [if_pos w8]
                  exact fun z => w7 ⟨w8, (sb_e b2 (by decide)).mp z⟩
                · rw [if_neg w8]; decide
              rw [if_neg hne]
              exact ⟨s, rfl, out_r, Or.inl ⟨rfl, h⟩⟩
          · rw [if_neg w6, if_neg (show ¬ (x.getD p 0 = 47 ∧ p + 1 < x.length ∧ x.getD (p + 1) 0 = 42) from fun z => w6 z.1)]
            exact ⟨s, rfl, out_r, Or.inl ⟨rfl, h⟩⟩
