/-! the beginning -/
theorem u0_bx {u : Nat} (hu : u < 4) : pBx u u_0 u_0 := by
  refine ⟨[kW_59], 5, ⟨by decide, by decide, rfl, fun b => ?_⟩, ?_, by decide, ?_⟩
  · cases b with
    | zero => exact ⟨fun j => by
        by_cases c : j < 5
        · have : ∀ x : Fin 5, kW_59.getD x.1 0 < 256 := by decide
          exact this ⟨j, c⟩
        · rw [show ([kW_59].getD 0 []) = kW_59 from rfl, getDn_out (show kW_59.length ≤ j by show 5 ≤ j; omega)]; decide, by decide⟩
    | succ b => exact ⟨fun j => by rw [show ([kW_59].getD (b + 1) []) = [] from rfl]; exact bys_nil j, by show 0 ≤ 20; decide⟩
  · have hk : bys kW_59 := fun j => by
      by_cases c : j < 5
      · have : ∀ x : Fin 5, kW_59.getD x.1 0 < 256 := by decide
        exact this ⟨j, c⟩
      · rw [getDn_out (show kW_59.length ≤ j by show 5 ≤ j; omega)]; decide
    rcases (show u = 0 ∨ u = 1 ∨ u = 2 ∨ u = 3 by omega) with rfl | rfl | rfl | rfl
    · refine ⟨by decide +kernel, by decide, by decide +kernel, by decide +kernel, by decide, bys_nil, fun j hj => absurd hj (Nat.not_lt_zero _), fun i => if i = 0 then 0 else 5, rfl, fun i hi => ?_⟩
      have hi0 : i = 0 := by have : i < 1 := hi; omega
      subst hi0
      exact ⟨hk, by decide +kernel, by decide +kernel, by decide, by show ∀ j : Nat, j < 5 → _; decide +kernel⟩
    · refine ⟨by decide +kernel, by decide, by decide +kernel, by decide +kernel, by decide, bys_nil, fun j hj => absurd hj (Nat.not_lt_zero _), fun i => if i = 0 then 0 else 5, rfl, fun i hi => ?_⟩
      have hi0 : i = 0 := by have : i < 1 := hi; omega
      subst hi0
      exact ⟨hk, by decide +kernel, by decide +kernel, by decide, by show ∀ j : Nat, j < 5 → _; decide +kernel⟩
    · refine ⟨by decide +kernel, by decide, by decide +kernel, by decide +kernel, by decide, bys_nil, fun j hj => absurd hj (Nat.not_lt_zero _), fun i => if i = 0 then 0 else 5, rfl, fun i hi => ?_⟩
      have hi0 : i = 0 := by have : i < 1 := hi; omega
      subst hi0
      exact ⟨hk, by decide +kernel, by decide +kernel, by decide, by show ∀ j : Nat, j < 5 → _; decide +kernel⟩
    · refine ⟨by decide +kernel, by decide, by decide +kernel, by decide +kernel, by decide, bys_nil, fun j hj => absurd hj (Nat.not_lt_zero _), fun i => if i = 0 then 0 else 5, rfl, fun i hi => ?_⟩
      have hi0 : i = 0 := by have : i < 1 := hi; omega
      subst hi0
      exact ⟨hk, by decide +kernel, by decide +kernel, by decide, by show ∀ j : Nat, j < 5 → _; decide +kernel⟩
  · rcases (show u = 0 ∨ u = 1 ∨ u = 2 ∨ u = 3 by omega) with rfl | rfl | rfl | rfl
    · refine ⟨by decide +kernel, fun b hb => ?_⟩
      have hb0 : b = 0 := by have : b < 1 := hb; omega
      subst hb0
      exact ⟨by decide +kernel, by show ∀ j : Nat, j < 5 → _; decide +kernel⟩
    · refine ⟨by decide +kernel, fun b hb => ?_⟩
      have hb0 : b = 0 := by have : b < 1 := hb; omega
      subst hb0
      exact ⟨by decide +kernel, by show ∀ j : Nat, j < 5 → _; decide +kernel⟩
    · refine ⟨by decide +kernel, fun b hb => ?_⟩
      have hb0 : b = 0 := by have : b < 1 := hb; omega
      subst hb0
      exact ⟨by decide +kernel, by show ∀ j : Nat, j < 5 → _; decide +kernel⟩
    · refine ⟨by decide +kernel, fun b hb => ?_⟩
      have hb0 : b = 0 := by have : b < 1 := hb; omega
      subst hb0
      exact ⟨by decide +kernel, by show ∀ j : Nat, j < 5 → _; decide +kernel⟩
theorem u0_u : ∀ u : Nat, u < 4 → u_0.I (985 + 16 * u) 3 = 0 ∧ u_0.I (985 + 16 * u) 4 = 0 ∧ u_0.F 1129 u = 0 ∧ u_0.F 1149 u = 0 ∧ u_0.F 1150 u = -1 ∧ u_0.R (985 + 16 * u) 5 = none ∧ u_0.I (978 + 16 * u) 1 = 0 ∧ u_0.I (978 + 16 * u) 4 = 0 ∧ u_0.I (978 + 16 * u) 5 = 0 ∧ u_0.I (978 + 16 * u) 6 = 0 ∧ u_0.I (978 + 16 * u) 7 = 0 ∧ u_0.I (979 + 16 * u) 3 = 0 ∧ u_0.I (979 + 16 * u) 4 = 0 ∧ u_0.I (979 + 16 * u) 5 = 0 := by
  intro u hu
  rcases (show u = 0 ∨ u = 1 ∨ u = 2 ∨ u = 3 by omega) with rfl | rfl | rfl | rfl <;> exact ⟨rfl, rfl, rfl, rfl, by decide +kernel, rfl, rfl, rfl, rfl, rfl, rfl, rfl, rfl, rfl⟩
theorem u0_q : ∀ u : Nat, u < 5 → u_0.I (qk u) 1 = 0 ∧ u_0.I (qk u) 2 = 0 ∧ u_0.F 1086 u = 0 := by
  intro u hu
  rcases (show u = 0 ∨ u = 1 ∨ u = 2 ∨ u = 3 ∨ u = 4 by omega) with rfl | rfl | rfl | rfl | rfl <;> exact ⟨rfl, rfl, rfl⟩
theorem u0_w : wW 0 u_0 u_0 := by
  refine ⟨fun u hu => u0_bx hu, fun u hu => ?_, fun u hu => ?_, fun u hu => ?_, [], 0, ⟨by decide, rfl, rfl, rfl, fun i hi => absurd hi (Nat.not_lt_zero _)⟩, ⟨by decide, by decide, by decide, rfl, rfl, rfl, fun i hi => absurd hi (Nat.not_lt_zero _), fun k hk => absurd hk (Nat.not_lt_zero _)⟩, by decide, by decide⟩
  · obtain ⟨h1, h2, h3, -⟩ := u0_u u hu
    exact ⟨[], ⟨by decide, by decide, fun i j _ hj => absurd hj (Nat.not_lt_zero _), fun i hi => absurd hi (Nat.not_lt_zero _)⟩, ⟨by decide, h2, fun i hi => absurd hi (Nat.not_lt_zero _)⟩, h3, fun i hi => absurd hi (Nat.not_lt_zero _)⟩
  · obtain ⟨h1, h2, h3, h4, h5, h6, -⟩ := u0_u u hu
    exact ⟨[], none, ⟨[], rfl, by decide, h1, fun i hi => absurd hi (Nat.not_lt_zero _), fun i j hi => absurd hi (Nat.not_lt_zero _), Or.inl ⟨rfl, h6⟩⟩, [], rfl, by decide, h4, fun i hi => absurd hi (Nat.not_lt_zero _), fun i j hi => absurd hi (Nat.not_lt_zero _), Or.inl ⟨rfl, h5⟩⟩
  · obtain ⟨h1, h2, h3⟩ := u0_q u hu
    exact ⟨[], ⟨0, by decide, by decide, h1, h2, fun j hj => absurd hj (Nat.not_lt_zero _)⟩, ⟨by decide, h3, fun j hj => absurd hj (Nat.not_lt_zero _)⟩, fun j => rfl⟩
theorem u0_s : ∀ u : Nat, u < 4 → pS u u_0 u_0 := by
  intro u hu
  obtain ⟨h1, h2, h3, h4, h5, h6, h7, h8, h9, h10, h11, h12, h13, h14⟩ := u0_u u hu
  refine ⟨0, 0, 0, false, ⟨by decide, h9, rfl, h7, rfl, h10, rfl, by decide, by decide, h11, rfl⟩, Or.inr ⟨[], [], 0, [], ⟨by decide, bys_nil, h8, fun j _ hj => absurd hj (Nat.not_lt_zero _), rfl, fun j _ hj => absurd hj (Nat.not_lt_zero _)⟩, ⟨⟨?_, by decide, ?_, ?_, by decide, bys_nil, fun j hj => absurd hj (Nat.not_lt_zero _), fun _ => 0, rfl, fun i hi => absurd hi (Nat.not_lt_zero _)⟩, by decide, fun i hi => absurd hi (Nat.not_lt_zero _), rfl, rfl, fun p _ hp => absurd hp (Nat.not_lt_zero _)⟩, ?_⟩⟩
  · rw [show 978 + 16 * u + 1 = 979 + 16 * u by omega]; exact h12
  · rw [show 978 + 16 * u + 1 = 979 + 16 * u by omega]; exact h13
  · rw [show 978 + 16 * u + 1 = 979 + 16 * u by omega]; exact h14
  · unfold pE
    rw [if_pos rfl]
    exact ⟨rfl, rfl⟩
theorem inv_0 : gJ 0 u_0 u_0 := by
  refine gJ_mk (dy := 0) (κ := 0) (τ := 0) (pw := true) (bs := []) (w := fun _ => 0) (Nat.le_refl _) ⟨u0_w, ⟨0, 0, ⟨rfl, rfl, rfl, rfl, by decide⟩, rfl, rfl, rfl, rfl, by decide⟩, Nat.le_refl _, Nat.le_refl _, fun n hn => Or.inr ⟨0, by decide, rfl⟩, Or.inl ⟨rfl, rfl⟩, u0_s⟩ ⟨fun k hk => ?_, fun u v k _ _ _ z => ?_⟩ (gP_0 rfl rfl) (fun u hu => ⟨Nat.zero_le _, ?_⟩) (by decide) (by decide) (by decide)
  · rcases hk with ⟨i, z⟩ | ⟨v, i, hv, z⟩
    · cases z
    · cases z
  · obtain ⟨i, _, _, z⟩ := z
    cases z
  · exact (u0_u u hu).2.2.2.2.2.2.2.1
