/-! patterns: sets of places -/
def clo (k : List Nat) (A : Nat → Bool) : Nat → Bool
  | 0 => A 0
  | p + 1 => A (p + 1) || (clo k A p && decide (p < k.length ∧ k.getD p 0 = 42))
def stF (k : List Nat) (A : Nat → Bool) (c : Nat) : Nat → Nat → Bool
  | 0, _ => false
  | m + 1, q => stF k A c m q || (A m && (if k.getD m 0 = 42 then decide (q = m) else (mtp k m c && decide (q = nxp k m))))
def sS (k v : List Nat) : Nat → Nat → Bool
  | 0 => clo k (fun p => decide (p = 0))
  | i + 1 => clo k (stF k (sS k v i) (v.getD i 0) k.length)
theorem clo_i {k : List Nat} {A : Nat → Bool} : ∀ {p : Nat}, A p = true → clo k A p = true
  | 0, h => h
  | p + 1, h => by unfold clo; rw [h]; rfl
theorem clo_s {k : List Nat} {A : Nat → Bool} {p : Nat} (h : clo k A p = true) (hp : p < k.length) (h2 : k.getD p 0 = 42) : clo k A (p + 1) = true := by
  unfold clo
  rw [h, decide_eq_true ⟨hp, h2⟩, Bool.and_true, Bool.or_true]
theorem clo_e {k : List Nat} {A : Nat → Bool} {p : Nat} (h : clo k A (p + 1) = true) : A (p + 1) = true ∨ (clo k A p = true ∧ p < k.length ∧ k.getD p 0 = 42) := by
  unfold clo at h
  rw [Bool.or_eq_true, Bool.and_eq_true, decide_eq_true_eq] at h
  exact h
theorem stF_i {k : List Nat} {A : Nat → Bool} {c q : Nat} : ∀ {m p : Nat}, p < m → A p = true → (if k.getD p 0 = 42 then decide (q = p) else (mtp k p c && decide (q = nxp k p))) = true → stF k A c m q = true
  | 0, p, h, _, _ => by omega
  | m + 1, p, h, h1, h2 => by
    unfold stF
    by_cases z : p = m
    · subst z; rw [h1, h2, Bool.and_true, Bool.or_true]
    · rw [stF_i (m := m) (by omega) h1 h2]; rfl
theorem stF_e {k : List Nat} {A : Nat → Bool} {c q : Nat} : ∀ {m : Nat}, stF k A c m q = true → ∃ p : Nat, p < m ∧ A p = true ∧ (if k.getD p 0 = 42 then decide (q = p) else (mtp k p c && decide (q = nxp k p))) = true
  | 0, h => by cases h
  | m + 1, h => by
    unfold stF at h
    rw [Bool.or_eq_true, Bool.and_eq_true] at h
    rcases h with h | h
    · obtain ⟨p, h1, h2, h3⟩ := stF_e h
      exact ⟨p, by omega, h2, h3⟩
    · exact ⟨m, by omega, h.1, h.2⟩
/-- what was reached leads to the end as the beginning does -/
def sR (k v : List Nat) (i : Nat) : Prop := ∃ p : Nat, p ≤ k.length ∧ sS k v i p = true ∧ gA k v i p
theorem sS_s {k v : List Nat} {i p : Nat} (h : sS k v i p = true) (hp : p < k.length) (h2 : k.getD p 0 = 42) : sS k v i (p + 1) = true := by
  cases i with
  | zero => exact clo_s h hp h2
  | succ i => exact clo_s h hp h2
theorem gA_up {k v : List Nat} {i p : Nat} (hi : i ≤ v.length) (hp : p < k.length) (h2 : k.getD p 0 = 42) (h : gA k v i (p + 1)) : gA k v i p := by
  rw [gA_star hp h2]; exact ⟨i, Nat.le_refl _, hi, h⟩
theorem sR_0 {k v : List Nat} : gA k v 0 0 ↔ sR k v 0 := by
  refine ⟨fun h => ⟨0, Nat.zero_le _, clo_i (by simp), h⟩, fun ⟨p, h1, h2, h3⟩ => ?_⟩
  have : ∀ p : Nat, p ≤ k.length → clo k (fun p => decide (p = 0)) p = true → gA k v 0 p → gA k v 0 0 := by
    intro p
    induction p with
    | zero => intro _ _ h; exact h
    | succ p ih =>
      intro h1 h2 h3
      rcases clo_e h2 with z | ⟨z1, z2, z3⟩
      · simp at z
      · exact ih (by omega) z1 (gA_up (Nat.zero_le _) z2 z3 h3)
  exact this p h1 h2 h3
theorem sR_1 {k v : List Nat} {i : Nat} (hi : i < v.length) : sR k v i ↔ sR k v (i + 1) := by
  refine ⟨fun ⟨p, h1, h2, h3⟩ => ?_, fun ⟨q, h1, h2, h3⟩ => ?_⟩
  · have : ∀ (d p : Nat), p + d = k.length → sS k v i p = true → gA k v i p → sR k v (i + 1) := by
      intro d
      induction d with
      | zero => intro p hp _ h3; rw [gA_end (by omega)] at h3; omega
      | succ d ih =>
        intro p hp h2 h3
        by_cases z : k.getD p 0 = 42
        · rw [gA_star (by omega) z] at h3
          obtain ⟨j, y1, y2, y3⟩ := h3
          by_cases w : j = i
          · subst w
            exact ih (p + 1) (by omega) (sS_s h2 (by omega) z) y3
          · refine ⟨p, by omega, clo_i (stF_i (p := p) (by omega) h2 (by rw [if_pos z]; exact decide_eq_true rfl)), ?_⟩
            rw [gA_star (by omega) z]
            exact ⟨j, by omega, y2, y3⟩
        · rw [gA_tok (by omega) z] at h3
          obtain ⟨y1, y2, y3⟩ := h3
          exact ⟨nxp k p, nxp_le (by omega), clo_i (stF_i (p := p) (by omega) h2 (by rw [if_neg z, y2, decide_eq_true rfl]; rfl)), y3⟩
    exact this (k.length - p) p (by omega) h2 h3
  · have : ∀ q : Nat, q ≤ k.length → clo k (stF k (sS k v i) (v.getD i 0) k.length) q = true → gA k v (i + 1) q → sR k v i := by
      intro q
      have base : ∀ q : Nat, stF k (sS k v i) (v.getD i 0) k.length q = true → gA k v (i + 1) q → sR k v i := by
        intro q h2 h3
        obtain ⟨p, y1, y2, y3⟩ := stF_e h2
        by_cases z : k.getD p 0 = 42
        · rw [if_pos z, decide_eq_true_eq] at y3
          subst y3
          refine ⟨q, by omega, y2, ?_⟩
          rw [gA_star y1 z] at h3 ⊢
          obtain ⟨j, w1, w2, w3⟩ := h3
          exact ⟨j, by omega, w2, w3⟩
        · rw [if_neg z, Bool.and_eq_true, decide_eq_true_eq] at y3
          refine ⟨p, by omega, y2, ?_⟩
          rw [gA_tok y1 z]
          exact ⟨hi, y3.1, by rw [← y3.2]; exact h3⟩
      induction q with
      | zero => intro _ h2 h3; exact base 0 h2 h3
      | succ q ih =>
        intro h1 h2 h3
        rcases clo_e h2 with z | ⟨z1, z2, z3⟩
        · exact base _ z h3
        · exact ih (by omega) z1 (gA_up hi z2 z3 h3)
    exact this q h1 h2 h3
theorem sR_n {k v : List Nat} : sR k v v.length ↔ sS k v v.length k.length = true := by
  refine ⟨fun ⟨p, h1, h2, h3⟩ => ?_, fun h => ⟨k.length, Nat.le_refl _, h, by rw [gA_end (Nat.le_refl _)]⟩⟩
  have : ∀ (d p : Nat), p + d = k.length → sS k v v.length p = true → gA k v v.length p → sS k v v.length k.length = true := by
    intro d
    induction d with
    | zero => intro p hp h2 _; rw [show k.length = p by omega]; exact h2
    | succ d ih =>
      intro p hp h2 h3
      by_cases z : k.getD p 0 = 42
      · rw [gA_star (by omega) z] at h3
        obtain ⟨j, y1, y2, y3⟩ := h3
        rw [show j = v.length by omega] at y3
        exact ih (p + 1) (by omega) (sS_s h2 (by omega) z) y3
      · rw [gA_tok (by omega) z] at h3; omega
  exact this (k.length - p) p (by omega) h2 h3
theorem sS_all {k v : List Nat} : sS k v v.length k.length = true ↔ gA k v 0 0 := by
  rw [← sR_n, sR_0]
  have : ∀ i : Nat, i ≤ v.length → (sR k v 0 ↔ sR k v i) := by
    intro i
    induction i with
    | zero => intro _; exact Iff.rfl
    | succ i ih => intro h; exact (ih (by omega)).trans (sR_1 (by omega))
  exact (this v.length (Nat.le_refl _)).symm
