/-! patterns: what they mean -/
def esc (k : List Nat) (p : Nat) : Bool := decide (k.getD p 0 = 92 ∧ p + 1 < k.length)
def nxp (k : List Nat) (p : Nat) : Nat := if esc k p = true then p + 2 else p + 1
def mtp (k : List Nat) (p c : Nat) : Bool := if k.getD p 0 = 63 then true else if esc k p = true then decide (k.getD (p + 1) 0 = c) else decide (k.getD p 0 = c)
def gacc (k v : List Nat) : Nat → Nat → Nat → Prop
  | 0, i, _ => i = v.length
  | d + 1, i, p => (k.length ≤ p ∧ i = v.length) ∨ (p < k.length ∧ k.getD p 0 = 42 ∧ ∃ j : Nat, i ≤ j ∧ j ≤ v.length ∧ gacc k v d j (p + 1)) ∨ (p < k.length ∧ k.getD p 0 ≠ 42 ∧ i < v.length ∧ mtp k p (v.getD i 0) = true ∧ gacc k v d (i + 1) (nxp k p))
theorem nxp_gt {k : List Nat} {p : Nat} : p + 1 ≤ nxp k p := by unfold nxp; split <;> omega
theorem nxp_le {k : List Nat} {p : Nat} (h : p < k.length) : nxp k p ≤ k.length := by
  unfold nxp esc
  by_cases z : k.getD p 0 = 92 ∧ p + 1 < k.length
  · rw [decide_eq_true z, if_pos rfl]; omega
  · rw [decide_eq_false z, if_neg (by decide)]; omega
theorem gacc_f {k v : List Nat} : ∀ (d d' i p : Nat), k.length ≤ p + d → k.length ≤ p + d' → (gacc k v d i p ↔ gacc k v d' i p) := by
  have z0 : ∀ (d i p : Nat), k.length ≤ p → (gacc k v d i p ↔ i = v.length) := by
    intro d i p h
    cases d with
    | zero => exact Iff.rfl
    | succ d =>
      refine ⟨fun y => ?_, fun y => Or.inl ⟨h, y⟩⟩
      rcases y with y | y | y
      · exact y.2
      · omega
      · omega
  intro d
  induction d with
  | zero => intro d' i p h1 h2; rw [z0 0 i p (by omega), z0 d' i p (by omega)]
  | succ d ih =>
    intro d' i p h1 h2
    cases d' with
    | zero => rw [z0 (d + 1) i p (by omega), z0 0 i p (by omega)]
    | succ d' =>
      have g := nxp_gt (k := k) (p := p)
      refine ⟨fun y => ?_, fun y => ?_⟩
      · rcases y with y | ⟨y1, y2, j, y3, y4, y5⟩ | ⟨y1, y2, y3, y4, y5⟩
        · exact Or.inl y
        · exact Or.inr (Or.inl ⟨y1, y2, j, y3, y4, (ih d' j (p + 1) (by omega) (by omega)).mp y5⟩)
        · exact Or.inr (Or.inr ⟨y1, y2, y3, y4, (ih d' (i + 1) (nxp k p) (by omega) (by omega)).mp y5⟩)
      · rcases y with y | ⟨y1, y2, j, y3, y4, y5⟩ | ⟨y1, y2, y3, y4, y5⟩
        · exact Or.inl y
        · exact Or.inr (Or.inl ⟨y1, y2, j, y3, y4, (ih d' j (p + 1) (by omega) (by omega)).mpr y5⟩)
        · exact Or.inr (Or.inr ⟨y1, y2, y3, y4, (ih d' (i + 1) (nxp k p) (by omega) (by omega)).mpr y5⟩)
def gA (k v : List Nat) (i p : Nat) : Prop := gacc k v (k.length + 1) i p
theorem gA_end {k v : List Nat} {i p : Nat} (h : k.length ≤ p) : gA k v i p ↔ i = v.length := by
  unfold gA
  refine ⟨fun y => ?_, fun y => Or.inl ⟨h, y⟩⟩
  rcases y with y | y | y
  · exact y.2
  · omega
  · omega
theorem gA_star {k v : List Nat} {i p : Nat} (h : p < k.length) (h2 : k.getD p 0 = 42) : gA k v i p ↔ ∃ j : Nat, i ≤ j ∧ j ≤ v.length ∧ gA k v j (p + 1) := by
  unfold gA
  refine ⟨fun y => ?_, fun ⟨j, y3, y4, y5⟩ => Or.inr (Or.inl ⟨h, h2, j, y3, y4, (gacc_f _ _ _ _ (by omega) (by omega)).mp y5⟩)⟩
  rcases y with y | ⟨y1, y2, j, y3, y4, y5⟩ | y
  · omega
  · exact ⟨j, y3, y4, (gacc_f _ _ _ _ (by omega) (by omega)).mp y5⟩
  · exact absurd h2 y.2.1
theorem gA_tok {k v : List Nat} {i p : Nat} (h : p < k.length) (h2 : k.getD p 0 ≠ 42) : gA k v i p ↔ i < v.length ∧ mtp k p (v.getD i 0) = true ∧ gA k v (i + 1) (nxp k p) := by
  unfold gA
  have g := nxp_gt (k := k) (p := p)
  refine ⟨fun y => ?_, fun ⟨y3, y4, y5⟩ => Or.inr (Or.inr ⟨h, h2, y3, y4, (gacc_f _ _ _ _ (by omega) (by omega)).mp y5⟩)⟩
  rcases y with y | y | ⟨y1, y2, y3, y4, y5⟩
  · omega
  · exact absurd y.2.1 h2
  · exact ⟨y3, y4, (gacc_f _ _ _ _ (by omega) (by omega)).mp y5⟩
theorem gA_le {k v : List Nat} : ∀ (d i p : Nat), k.length ≤ p + d → gA k v i p → i ≤ v.length := by
  intro d
  induction d with
  | zero => intro i p h y; rw [gA_end (by omega)] at y; omega
  | succ d ih =>
    intro i p h y
    by_cases z : k.length ≤ p
    · rw [gA_end z] at y; omega
    · by_cases w : k.getD p 0 = 42
      · rw [gA_star (by omega) w] at y
        obtain ⟨j, y1, y2, -⟩ := y
        omega
      · rw [gA_tok (by omega) w] at y; omega
/-- tokens that are no stars, d of them, from the place q of the pattern and a of the text on, up to p -/
def sgm (k v : List Nat) : Nat → Nat → Nat → Nat → Prop
  | 0, q, _, p => q = p
  | d + 1, q, a, p => q < k.length ∧ k.getD q 0 ≠ 42 ∧ mtp k q (v.getD a 0) = true ∧ sgm k v d (nxp k q) (a + 1) p
theorem sgm_sn {k v : List Nat} : ∀ {d q a p : Nat}, sgm k v d q a p → p < k.length → k.getD p 0 ≠ 42 → mtp k p (v.getD (a + d) 0) = true → sgm k v (d + 1) q a (nxp k p)
  | 0, q, a, p, h, h1, h2, h3 => by
    have h : q = p := h
    subst h
    exact ⟨h1, h2, h3, rfl⟩
  | d + 1, q, a, p, h, h1, h2, h3 => ⟨h.1, h.2.1, h.2.2.1, sgm_sn h.2.2.2 h1 h2 (by rw [show a + 1 + d = a + (d + 1) by omega]; exact h3)⟩
theorem sgm_A {k v : List Nat} : ∀ {d q a p j : Nat}, sgm k v d q a p → gA k v j q → gA k v (j + d) p
  | 0, q, a, p, j, h, y => by
    have h : q = p := h
    subst h; exact y
  | d + 1, q, a, p, j, h, y => by
    rw [gA_tok h.1 h.2.1] at y
    have := sgm_A h.2.2.2 y.2.2
    rw [show j + 1 + d = j + (d + 1) by omega] at this
    exact this
theorem sgm_B {k v : List Nat} : ∀ {d q a p : Nat}, sgm k v d q a p → a + d ≤ v.length → gA k v (a + d) p → gA k v a q
  | 0, q, a, p, h, _, y => by
    have h : q = p := h
    subst h; exact y
  | d + 1, q, a, p, h, hl, y => by
    rw [gA_tok h.1 h.2.1]
    exact ⟨by omega, h.2.2.1, sgm_B h.2.2.2 (by omega) (by rw [show a + 1 + d = a + (d + 1) by omega]; exact y)⟩
/-- the state of the class's search: σ the place behind the last star, a where its text goes on -/
def gI (k v : List Nat) (i p : Nat) (σ : Option Nat) (a : Nat) : Prop := i ≤ v.length ∧ p ≤ k.length ∧ a ≤ i ∧ match σ with | none => (gA k v 0 0 ↔ gA k v i p) | some q => q ≤ k.length ∧ (gA k v 0 0 ↔ ∃ j : Nat, a ≤ j ∧ j ≤ v.length ∧ gA k v j q) ∧ sgm k v (i - a) q a p
theorem gI_star {k v : List Nat} {i p a : Nat} {σ : Option Nat} (h : gI k v i p σ a) (hp : p < k.length) (h2 : k.getD p 0 = 42) : gI k v i (p + 1) (some (p + 1)) i := by
  obtain ⟨h1, h3, h4, h5⟩ := h
  refine ⟨h1, by omega, Nat.le_refl _, by omega, ?_, by rw [Nat.sub_self]; rfl⟩
  cases σ with
  | none =>
    have h5 : gA k v 0 0 ↔ gA k v i p := h5
    rw [h5, gA_star hp h2]
  | some q =>
    obtain ⟨h6, h7, h8⟩ := h5
    rw [h7]
    refine ⟨fun ⟨j, y1, y2, y3⟩ => ?_, fun ⟨j, y1, y2, y3⟩ => ⟨a, Nat.le_refl _, by omega, ?_⟩⟩
    · have := sgm_A h8 y3
      rw [gA_star hp h2] at this
      obtain ⟨j', w1, w2, w3⟩ := this
      exact ⟨j', by omega, w2, w3⟩
    · refine sgm_B h8 (by omega) ?_
      rw [show a + (i - a) = i by omega, gA_star hp h2]
      exact ⟨j, y1, y2, y3⟩
theorem gI_tok {k v : List Nat} {i p a : Nat} {σ : Option Nat} (h : gI k v i p σ a) (hp : p < k.length) (h2 : k.getD p 0 ≠ 42) (hi : i < v.length) (hm : mtp k p (v.getD i 0) = true) : gI k v (i + 1) (nxp k p) σ a := by
  obtain ⟨h1, h3, h4, h5⟩ := h
  refine ⟨hi, nxp_le hp, by omega, ?_⟩
  cases σ with
  | none =>
    have h5 : gA k v 0 0 ↔ gA k v i p := h5
    show gA k v 0 0 ↔ _
    rw [h5, gA_tok hp h2]
    exact ⟨fun y => y.2.2, fun y => ⟨hi, hm, y⟩⟩
  | some q =>
    obtain ⟨h6, h7, h8⟩ := h5
    refine ⟨h6, h7, ?_⟩
    rw [show i + 1 - a = (i - a) + 1 by omega]
    exact sgm_sn h8 hp h2 (by rw [show a + (i - a) = i by omega]; exact hm)
theorem gI_back {k v : List Nat} {i p a q : Nat} (h : gI k v i p (some q) a) (hi : i < v.length) (hn : ¬ gA k v i p) : gI k v (a + 1) q (some q) (a + 1) := by
  obtain ⟨h1, h3, h4, h6, h7, h8⟩ := h
  refine ⟨by omega, h6, Nat.le_refl _, h6, ?_, by rw [Nat.sub_self]; rfl⟩
  rw [h7]
  refine ⟨fun ⟨j, y1, y2, y3⟩ => ⟨j, ?_, y2, y3⟩, fun ⟨j, y1, y2, y3⟩ => ⟨j, by omega, y2, y3⟩⟩
  by_cases z : j = a
  · subst z
    have := sgm_A h8 y3
    rw [show j + (i - j) = i by omega] at this
    exact absurd this hn
  · omega
theorem gI_end {k v : List Nat} {p a : Nat} {σ : Option Nat} (h : gI k v v.length p σ a) : gA k v 0 0 ↔ gA k v v.length p := by
  obtain ⟨h1, h3, h4, h5⟩ := h
  cases σ with
  | none => exact h5
  | some q =>
    obtain ⟨h6, h7, h8⟩ := h5
    rw [h7]
    refine ⟨fun ⟨j, y1, y2, y3⟩ => ?_, fun y => ⟨a, Nat.le_refl _, by omega, sgm_B h8 (by omega) (by rw [show a + (v.length - a) = v.length by omega]; exact y)⟩⟩
    have w := sgm_A h8 y3
    have := gA_le (k.length + 1) _ _ (by omega) w
    rw [show j + (v.length - a) = v.length by omega] at w
    exact w
theorem gI_no {k v : List Nat} {i p a : Nat} (h : gI k v i p none a) (hn : ¬ gA k v i p) : ¬ gA k v 0 0 := fun y => hn (h.2.2.2.mp y)
