/-! the header of a message: the reference -/
def rTt (t : uS) (tx : List Nat) : Prop := tx.length ≤ 4000 ∧ bys tx ∧ t.I 1079 13 = nI tx.length ∧ ∀ j : Nat, j < tx.length → t.F 1087 j = nI (tx.getD j 0)
def rhI (k f : Nat) : Prop := k = 1079 ∧ f = 14
def rhF (k _f : Nat) : Prop := 1088 ≤ k ∧ k ≤ 1092
theorem rTt.h {t t1 : uS} {tx : List Nat} (h : rTt t tx) (o : out rhI rhF t t1) : rTt t1 tx := ⟨h.1, h.2.1, (o.2.1 _ _ (by unfold rhI; omega)).trans h.2.2.1, fun j hj => (o.2.2 _ _ (by unfold rhF; omega)).trans (h.2.2.2 j hj)⟩
theorem rTt.e {t : uS} {tx : List Nat} (h : rTt t tx) {j c : Nat} (hj : j < tx.length) (hc : c < 256) : t.F 1087 j = nI c ↔ tx.getD j 0 = c := by
  have := h.2.1 j
  rw [h.2.2.2 j hj]
  exact nI_eq (by omega) (by omega)
theorem r_lnE {t : uS} {tx : List Nat} (h : rTt t tx) : ∀ (d N a : Nat), tx.length = a + d → d + 1 ≤ N → lnE tx d a + 1 < tx.length → fn_X12_lineEnd_2 N (nI a) t = some (nI (lnE tx d a)) := by
  have hl := h.1
  intro d
  induction d with
  | zero =>
    intro N a hd hN hx
    unfold lnE at hx
    omega
  | succ d ih =>
    intro N a hd hN hx
    obtain ⟨M, rfl⟩ : ∃ M, N = M + 1 := ⟨N - 1, by omega⟩
    show fb_X12_lineEnd_2 (fn_X12_lineEnd_2 M) (nI a) t = _
    unfold fb_X12_lineEnd_2
    unfold lnE at hx ⊢
    by_cases c : tx.length ≤ a + 1
    · rw [if_pos c] at hx
      omega
    · rw [if_neg c] at hx ⊢
      rw [g_1087 (by omega), Option.bind_some, nI_1]
      by_cases c1 : tx.getD a 0 = 13
      · rw [if_pos (show t.F 1087 a = 13 from (h.e (c := 13) (by omega) (by decide)).mpr c1), h.2.2.1, if_neg (nI_ge (by omega) (by omega)), g_1087 (by omega), Option.bind_some]
        by_cases c2 : tx.getD (a + 1) 0 = 10
        · rw [if_pos (show t.F 1087 (a + 1) = 10 from (h.e (c := 10) (by omega) (by decide)).mpr c2), if_pos ⟨c1, c2⟩]
        · rw [if_neg (fun z => c2 z.2)] at hx
          rw [if_neg (show ¬ t.F 1087 (a + 1) = 10 from fun z => c2 ((h.e (c := 10) (by omega) (by decide)).mp z)), if_neg (show ¬ (tx.getD a 0 = 13 ∧ tx.getD (a + 1) 0 = 10) from fun z => c2 z.2)]
          exact ih M (a + 1) (by omega) (by omega) hx
      · rw [if_neg (fun z => c1 z.1)] at hx
        rw [if_neg (show ¬ t.F 1087 a = 13 from fun z => c1 ((h.e (c := 13) (by omega) (by decide)).mp z)), if_neg (show ¬ (tx.getD a 0 = 13 ∧ tx.getD (a + 1) 0 = 10) from fun z => c1 z.1)]
        exact ih M (a + 1) (by omega) (by omega) hx
theorem r_lineE {t : uS} {tx : List Nat} (h : rTt t tx) (hE : crE tx) {a : Nat} (ha : a + 2 ≤ tx.length) : fn_X12_lineEnd (nI a) t = some (nI (lE tx a)) := by
  have := h.1
  exact r_lnE h (tx.length - a) uFu a (by omega) (by show _ ≤ 1000000; omega) (crE_at hE ha).1
theorem isBl_iff {b : Nat} : isBl b = true ↔ b = 32 ∨ b = 9 := by unfold isBl; exact decide_eq_true_iff
/-- a byte is a blank -/
theorem r_blk {α : Type} {t : uS} {tx : List Nat} (h : rTt t tx) {a : Nat} (ha : a < tx.length) (A B : Option α) : ((iget 20 t 1087 (nI a)).bind fun v2 => if v2 = 32 then A else ((iget 20 t 1087 (nI a)).bind fun v5 => if v5 = 9 then A else B)) = if isBl (tx.getD a 0) = true then A else B := by
  have hl := h.1
  rw [g_1087 (by omega), Option.bind_some, Option.bind_some]
  by_cases c : isBl (tx.getD a 0) = true
  · rw [if_pos c]
    cases isBl_iff.mp c with
    | inl z => rw [if_pos (show t.F 1087 a = 32 from (h.e (c := 32) ha (by decide)).mpr z)]
    | inr z =>
      rw [if_pos (show t.F 1087 a = 9 from (h.e (c := 9) ha (by decide)).mpr z), ite_self]
  · rw [if_neg c, if_neg (show ¬ t.F 1087 a = 32 from fun z => c (isBl_iff.mpr (Or.inl ((h.e (c := 32) ha (by decide)).mp z)))), if_neg (show ¬ t.F 1087 a = 9 from fun z => c (isBl_iff.mpr (Or.inr ((h.e (c := 9) ha (by decide)).mp z))))]
theorem r_f52 {t : uS} {tx : List Nat} (h : rTt t tx) {a e x4 : Nat} (he : e ≤ tx.length) : ∀ (d N c : Nat), c + d = e → d + 1 ≤ N → fn_X12_fieldOf_52 N (nI a) (nI e) (nI c) (nI x4) t = fb_X12_fieldOf_86 (nI a) (nI e) (nI (blE tx e d c)) (nI x4) t := by
  have hl := h.1
  intro d
  induction d with
  | zero =>
    intro N c hd hN
    obtain ⟨M, rfl⟩ : ∃ M, N = M + 1 := ⟨N - 1, by omega⟩
    show fb_X12_fieldOf_52 (fn_X12_fieldOf_52 M) (nI a) (nI e) (nI c) (nI x4) t = _
    unfold fb_X12_fieldOf_52
    rw [if_pos (nI_le (by omega) (by omega))]
    rfl
  | succ d ih =>
    intro N c hd hN
    obtain ⟨M, rfl⟩ : ∃ M, N = M + 1 := ⟨N - 1, by omega⟩
    show fb_X12_fieldOf_52 (fn_X12_fieldOf_52 M) (nI a) (nI e) (nI c) (nI x4) t = _
    unfold fb_X12_fieldOf_52 blE
    rw [if_neg (nI_ge (by omega) (by omega)), if_neg (show ¬ e ≤ c by omega), r_blk h (by omega), nI_1]
    cases isBl (tx.getD c 0) with
    | false => rw [if_neg (by decide), if_neg (by decide)]
    | true => rw [if_pos rfl, if_pos rfl]; exact ih M (c + 1) (by omega) (by omega)
theorem r_f2 {t : uS} {tx : List Nat} (h : rTt t tx) {a e : Nat} (he : e ≤ tx.length) : ∀ (d N c : Nat), c + d = e → d + 1 ≤ N → a ≤ c → fn_X12_fieldOf_2 N (nI a) (nI e) (nI c) t = fn_X12_fieldOf_52 uFu (nI a) (nI e) (nI (nmE tx e d c)) (nI (nmE tx e d c - a)) t := by
  have hl := h.1
  intro d
  induction d with
  | zero =>
    intro N c hd hN ha
    obtain ⟨M, rfl⟩ : ∃ M, N = M + 1 := ⟨N - 1, by omega⟩
    show fb_X12_fieldOf_2 (fn_X12_fieldOf_2 M) (nI a) (nI e) (nI c) t = _
    unfold fb_X12_fieldOf_2
    rw [if_pos (nI_le (by omega) (by omega)), nI_sub ha]
    rfl
  | succ d ih =>
    intro N c hd hN ha
    obtain ⟨M, rfl⟩ : ∃ M, N = M + 1 := ⟨N - 1, by omega⟩
    have hb := h.2.1 c
    show fb_X12_fieldOf_2 (fn_X12_fieldOf_2 M) (nI a) (nI e) (nI c) t = _
    unfold fb_X12_fieldOf_2 nmE
    rw [if_neg (nI_ge (by omega) (by omega)), if_neg (show ¬ e ≤ c by omega), g_1087 (by omega), Option.bind_some, Option.bind_some, Option.bind_some, h.2.2.2 c (by omega), nI_1, nI_sub ha]
    by_cases k : nch (tx.getD c 0) = true
    · have k' := of_decide_eq_true k
      rw [if_neg (show ¬ nI (tx.getD c 0) ≤ 32 from nI_ge (a := 32) (by omega) (by omega)), if_neg (show ¬ (127 : Int32) ≤ nI (tx.getD c 0) from nI_ge (a := tx.getD c 0) (b := 127) (by omega) (by omega)), if_neg (show ¬ nI (tx.getD c 0) = 58 from nI_ne (b := 58) (by omega) (by omega) k'.2.2), if_pos k]
      exact ih M (c + 1) (by omega) (by omega) (by omega)
    · have k' : ¬ (32 < tx.getD c 0 ∧ tx.getD c 0 < 127 ∧ tx.getD c 0 ≠ 58) := fun z => k (decide_eq_true z)
      rw [if_neg k]
      by_cases x1 : tx.getD c 0 ≤ 32
      · rw [if_pos (show nI (tx.getD c 0) ≤ 32 from nI_le (b := 32) x1 (by omega))]
      · rw [if_neg (show ¬ nI (tx.getD c 0) ≤ 32 from nI_ge (a := 32) (by omega) (by omega))]
        by_cases x2 : 127 ≤ tx.getD c 0
        · rw [if_pos (show (127 : Int32) ≤ nI (tx.getD c 0) from nI_le (a := 127) x2 (by omega))]
        · rw [if_neg (show ¬ (127 : Int32) ≤ nI (tx.getD c 0) from nI_ge (a := tx.getD c 0) (b := 127) (by omega) (by omega)), if_pos (show nI (tx.getD c 0) = 58 from (by rw [show tx.getD c 0 = 58 by omega]; rfl))]
/-- a line that begins a field, or does not -/
theorem r_fOf {t : uS} {tx : List Nat} (h : rTt t tx) {a e k : Nat} (ha : a ≤ e) (he : e ≤ tx.length) (hk : t.I 1079 14 = nI k) (hk2 : k < 2100) : fn_X12_fieldOf (nI a) (nI e) t = if fldB tx a e = true then some (wF (wF t 1088 k (nI a)) 1089 k (nI (fldN tx a e - a)), nI (fldC tx a e + 1)) else some (t, -1) := by
  have hl := h.1
  have g := fld_ge (tx := tx) ha
  unfold fn_X12_fieldOf
  rw [r_f2 h he (e - a) uFu a (by omega) (by show _ ≤ 1000000; omega) (Nat.le_refl _)]
  rw [show nmE tx e (e - a) a = fldN tx a e from rfl, r_f52 h he (e - fldN tx a e) uFu (fldN tx a e) (by omega) (by show _ ≤ 1000000; omega), show blE tx e (e - fldN tx a e) (fldN tx a e) = fldC tx a e from rfl]
  unfold fb_X12_fieldOf_86 fldB
  have ff : fb_X12_fieldOf_119 (nI a) (nI (fldC tx a e)) (nI (fldN tx a e - a)) false t = some (t, -1) := rfl
  rw [ff]
  by_cases c1 : fldN tx a e = a
  · rw [if_pos (show nI (fldN tx a e - a) ≤ 0 from nI_le (b := 0) (by omega) (by omega)), decide_eq_false (fun z => z.1 c1), if_neg (by decide)]
  · rw [if_neg (show ¬ nI (fldN tx a e - a) ≤ 0 from nI_ge (a := 0) (by omega) (by omega))]
    by_cases c2 : 60 < fldN tx a e - a
    · rw [if_pos (show (60 : Int32) < nI (fldN tx a e - a) from nI_lt (a := 60) c2 (by omega)), decide_eq_false (fun z => by omega), if_neg (by decide)]
    · rw [if_neg (show ¬ (60 : Int32) < nI (fldN tx a e - a) from nI_nlt (a := 60) (by omega) (by decide))]
      by_cases c3 : e ≤ fldC tx a e
      · rw [if_pos (nI_le c3 (by omega)), decide_eq_false (fun z => by omega), if_neg (by decide)]
      · rw [if_neg (nI_ge (by omega) (by omega)), g_1087 (by omega), Option.bind_some]
        by_cases c4 : tx.getD (fldC tx a e) 0 = 58
        · rw [if_pos (show t.F 1087 (fldC tx a e) = 58 from (h.e (c := 58) (by omega) (by decide)).mpr c4), decide_eq_true ⟨c1, by omega, by omega, c4⟩, if_pos rfl]
          unfold fb_X12_fieldOf_119
          have hk' : (wF t 1088 k (nI a)).I 1079 14 = nI k := hk
          rw [if_pos rfl, hk, p_1088 hk2, Option.bind_some, hk', p_1089 hk2, Option.bind_some, nI_1]
        · rw [if_neg (show ¬ t.F 1087 (fldC tx a e) = 58 from fun z => c4 ((h.e (c := 58) (by omega) (by decide)).mp z)), decide_eq_false (fun z => c4 z.2.2.2), if_neg (by decide)]
/-- bytes copied from the message to the values -/
theorem cp2 {tx : List Nat} {F : Nat → Int32 → Int32 → uS → Option uS} {G : Int32 → uS → Option uS} {e : Nat} (hF : ∀ (n : Nat) (x b : Int32) (t : uS), F (n + 1) x b t = if nI e ≤ b then G x t else ((iget 20 t 1087 b).bind fun v2 => (iput 20 t 1092 x v2).bind fun s4 => F n (x + 1) (b + 1) s4)) (he : e ≤ tx.length) : ∀ (d N x b : Nat) (t : uS), b + d = e → x + d ≤ 4100 → d + 1 ≤ N → rTt t tx → ∃ t1 : uS, F N (nI x) (nI b) t = G (nI (x + d)) t1 ∧ out rNo (fun k f => k = 1092 ∧ x ≤ f) t t1 ∧ ∀ j : Nat, j < d → t1.F 1092 (x + j) = nI (tx.getD (b + j) 0) := by
  intro d
  induction d with
  | zero =>
    intro N x b t hd hx hN h
    obtain ⟨M, rfl⟩ : ∃ M, N = M + 1 := ⟨N - 1, by omega⟩
    have hl := h.1
    refine ⟨t, ?_, out_r, fun j hj => by omega⟩
    rw [hF, if_pos (nI_le (by omega) (by omega))]
    rfl
  | succ d ih =>
    intro N x b t hd hx hN h
    obtain ⟨M, rfl⟩ : ∃ M, N = M + 1 := ⟨N - 1, by omega⟩
    have hl := h.1
    obtain ⟨t1, a1, a2, a3⟩ := ih M (x + 1) (b + 1) (wF t 1092 x (nI (tx.getD b 0))) (by omega) (by omega) (by omega) (h.h (out_F out_r (by unfold rhF; omega)))
    refine ⟨t1, ?_, out_t (out_F out_r ⟨rfl, Nat.le_refl _⟩) (out_w a2 (fun _ _ z => z) (fun k f z => ⟨z.1, by omega⟩)), fun j hj => ?_⟩
    · rw [hF, if_neg (nI_ge (by omega) (by omega)), g_1087 (by omega), Option.bind_some, p_1092 (by omega), Option.bind_some, nI_1, nI_1, h.2.2.2 b (by omega), a1, show x + 1 + d = x + (d + 1) by omega]
    · cases j with
      | zero =>
        rw [Nat.add_zero, Nat.add_zero, a2.2.2 _ _ (by omega)]
        exact wF_e _ _ _ _
      | succ j =>
        have := a3 j (by omega)
        rw [show x + (j + 1) = x + 1 + j by omega, show b + (j + 1) = b + 1 + j by omega]
        exact this
