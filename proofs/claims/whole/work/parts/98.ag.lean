/-- count: eight numbers, and three of each user -/
def a_cnt (c : Nat → Int32) (g : Nat → Nat → Int32) (w : Int32) : Int32 := if 0 ≤ w ∧ w ≤ 7 then c w.toNatClampNeg else if 10 ≤ w ∧ w ≤ 13 then g 1 (w.toNatClampNeg - 10) else if 20 ≤ w ∧ w ≤ 23 then g 2 (w.toNatClampNeg - 20) else if 30 ≤ w ∧ w ≤ 33 then g 3 (w.toNatClampNeg - 30) else -1
theorem i_lo {w : Int32} {a b : Nat} (ha : a < 2 ^ 31) (hb : b < 2 ^ 31) (h1 : nI a ≤ w) (h2 : w ≤ nI b) : ∃ n : Nat, a ≤ n ∧ n ≤ b ∧ w = nI n := by
  have h0 : ¬ w < 0 := fun e => by
    have h3 := Int32.lt_iff_toInt_lt.mp e
    have h4 := Int32.le_iff_toInt_le.mp h1
    rw [nI_toInt ha] at h4
    have h5 : w.toInt < 0 := h3
    omega
  obtain ⟨n, hn, rfl⟩ := nI_of h0
  exact ⟨n, (nI_leI ha hn).mp h1, (nI_leI hn hb).mp h2, rfl⟩
theorem c_cou {s : uS} {g : Nat → Nat → Int32} (h1 : ∀ u : Nat, u < 4 → s.I (985 + 16 * u) 3 = g 1 u) (h2 : ∀ u : Nat, u < 4 → s.I (985 + 16 * u) 4 = g 2 u) (h3 : ∀ u : Nat, u < 4 → s.I (988 + 16 * u) 3 = g 3 u) (w : Int32) : fn_X11_countOfUser (w / 10) (w - w / 10 * 10) s = some (if 10 ≤ w ∧ w ≤ 13 then g 1 (w.toNatClampNeg - 10) else if 20 ≤ w ∧ w ≤ 23 then g 2 (w.toNatClampNeg - 20) else if 30 ≤ w ∧ w ≤ 33 then g 3 (w.toNatClampNeg - 30) else -1) := by
  have hit : ∀ k u : Nat, 1 ≤ k → k ≤ 3 → u < 4 → w = nI (10 * k + u) → fn_X11_countOfUser (w / 10) (w - w / 10 * 10) s = some (g k u) := by
    intro k u hk1 hk3 hu hw
    obtain ⟨d1, d2⟩ := (cw_div w k hk1 hk3 u hu).mpr hw
    unfold fn_X11_countOfUser
    rw [d2, d1, if_neg (nI_pos (by omega)), if_pos (by rw [show (4 : Int32) = nI 4 by decide]; exact nI_lt hu (by decide)), pgt_usr hu]
    rcases (show k = 1 ∨ k = 2 ∨ k = 3 by omega) with e | e | e <;> subst e
    · rw [if_pos (by decide), Option.bind_some, if_pos (so_usr hu), h1 u hu]
    · rw [if_neg (by decide), if_pos (by decide), Option.bind_some, if_pos (so_usr hu), h2 u hu]
    · rw [if_neg (by decide), if_neg (by decide), if_pos (by decide), Option.bind_some, if_pos (so_usr hu), show 985 + 16 * u + 3 = 988 + 16 * u by omega, h3 u hu]
  by_cases a1 : (10 : Int32) ≤ w ∧ w ≤ 13
  · obtain ⟨n, n1, n2, rfl⟩ := i_lo (a := 10) (b := 13) (by decide) (by decide) a1.1 a1.2
    rw [if_pos a1, hit 1 (n - 10) (by decide) (by decide) (by omega) (by congr 1; omega), nI_clamp (by omega)]
  · rw [if_neg a1]
    by_cases a2 : (20 : Int32) ≤ w ∧ w ≤ 23
    · obtain ⟨n, n1, n2, rfl⟩ := i_lo (a := 20) (b := 23) (by decide) (by decide) a2.1 a2.2
      rw [if_pos a2, hit 2 (n - 20) (by decide) (by decide) (by omega) (by congr 1; omega), nI_clamp (by omega)]
    · rw [if_neg a2]
      by_cases a3 : (30 : Int32) ≤ w ∧ w ≤ 33
      · obtain ⟨n, n1, n2, rfl⟩ := i_lo (a := 30) (b := 33) (by decide) (by decide) a3.1 a3.2
        rw [if_pos a3, hit 3 (n - 30) (by decide) (by decide) (by omega) (by congr 1; omega), nI_clamp (by omega)]
      · rw [if_neg a3]
        have no : ∀ k u : Nat, 1 ≤ k → k ≤ 3 → u < 4 → ¬ (w / 10 = nI k ∧ w - w / 10 * 10 = nI u) := by
          intro k u hk1 hk3 hu e
          have hw := (cw_div w k hk1 hk3 u hu).mp e
          rcases (show k = 1 ∨ k = 2 ∨ k = 3 by omega) with e | e | e <;> subst e
          · exact a1 (by rw [hw, show (10 : Int32) = nI 10 by decide, show (13 : Int32) = nI 13 by decide]; exact ⟨nI_le (by omega) (by omega), nI_le (by omega) (by decide)⟩)
          · exact a2 (by rw [hw, show (20 : Int32) = nI 20 by decide, show (23 : Int32) = nI 23 by decide]; exact ⟨nI_le (by omega) (by omega), nI_le (by omega) (by decide)⟩)
          · exact a3 (by rw [hw, show (30 : Int32) = nI 30 by decide, show (33 : Int32) = nI 33 by decide]; exact ⟨nI_le (by omega) (by omega), nI_le (by omega) (by decide)⟩)
        unfold fn_X11_countOfUser
        by_cases b1 : w - w / 10 * 10 < 0
        · rw [if_pos b1]
        · rw [if_neg b1]
          by_cases b2 : w - w / 10 * 10 < 4
          · obtain ⟨u, hu, e⟩ := nI_of b1
            have hu4 : u < 4 := (nI_ltI hu (by decide)).mp (by rw [show nI 4 = 4 by decide, ← e]; exact b2)
            rw [if_pos b2, if_neg (show ¬ w / 10 = 1 from fun q => no 1 u (by decide) (by decide) hu4 ⟨q, e⟩), if_neg (show ¬ w / 10 = 2 from fun q => no 2 u (by decide) (by decide) hu4 ⟨q, e⟩), if_neg (show ¬ w / 10 = 3 from fun q => no 3 u (by decide) (by decide) hu4 ⟨q, e⟩)]
          · rw [if_neg b2]
theorem c_count {s : uS} {c : Nat → Int32} {g : Nat → Nat → Int32} (h0 : s.I 0 10 = c 0 ∧ s.I 0 11 = c 1 ∧ s.I 0 12 = c 2 ∧ s.I 0 13 = c 3 ∧ s.I 0 14 = c 4 ∧ s.I 0 9 = c 5 ∧ (s.I 0 16 = c 6 ∧ (c 6 = 0 ∨ c 6 = 1)) ∧ (s.I 1042 4 = c 7 ∧ (c 7 = 0 ∨ c 7 = 1))) (h1 : ∀ u : Nat, u < 4 → s.I (985 + 16 * u) 3 = g 1 u) (h2 : ∀ u : Nat, u < 4 → s.I (985 + 16 * u) 4 = g 2 u) (h3 : ∀ u : Nat, u < 4 → s.I (988 + 16 * u) 3 = g 3 u) (w : Int32) : fn_X11_count w s = some (a_cnt c g w) := by
  obtain ⟨z0, z1, z2, z3, z4, z5, ⟨z6, z6'⟩, z7, z7'⟩ := h0
  unfold fn_X11_count a_cnt
  by_cases hw : 0 ≤ w ∧ w ≤ 7
  · rw [if_pos hw]
    obtain ⟨n, -, n2, rfl⟩ := i_lo (a := 0) (b := 7) (by decide) (by decide) hw.1 hw.2
    rw [nI_clamp (by omega)]
    rcases (show n = 0 ∨ n = 1 ∨ n = 2 ∨ n = 3 ∨ n = 4 ∨ n = 5 ∨ n = 6 ∨ n = 7 by omega) with e | e | e | e | e | e | e | e <;> subst e
    · rw [if_pos (by decide), z0]
    · rw [if_neg (by decide), if_pos (by decide), z1]
    · rw [if_neg (by decide), if_neg (by decide), if_pos (by decide), z2]
    · rw [if_neg (by decide), if_neg (by decide), if_neg (by decide), if_pos (by decide), z3]
    · rw [if_neg (by decide), if_neg (by decide), if_neg (by decide), if_neg (by decide), if_pos (by decide), z4]
    · rw [if_neg (by decide), if_neg (by decide), if_neg (by decide), if_neg (by decide), if_neg (by decide), if_pos (by decide), z5]
    · rw [if_neg (by decide), if_neg (by decide), if_neg (by decide), if_neg (by decide), if_neg (by decide), if_neg (by decide), if_pos (by decide), z6]
      rcases z6' with e | e <;> rw [e] <;> rfl
    · rw [if_neg (by decide), if_neg (by decide), if_neg (by decide), if_neg (by decide), if_neg (by decide), if_neg (by decide), if_neg (by decide), if_pos (by decide), z7]
      rcases z7' with e | e <;> rw [e] <;> rfl
  · rw [if_neg hw]
    have ne : ∀ n : Nat, n ≤ 7 → w ≠ nI n := fun n hn e => hw (by rw [e]; exact ⟨nI_pos' (by omega), by rw [show (7 : Int32) = nI 7 by decide]; exact nI_le hn (by decide)⟩)
    rw [if_neg (show ¬ w = 0 from ne 0 (by decide)), if_neg (show ¬ w = 1 from ne 1 (by decide)), if_neg (show ¬ w = 2 from ne 2 (by decide)), if_neg (show ¬ w = 3 from ne 3 (by decide)), if_neg (show ¬ w = 4 from ne 4 (by decide)), if_neg (show ¬ w = 5 from ne 5 (by decide)), if_neg (show ¬ w = 6 from ne 6 (by decide)), if_neg (show ¬ w = 7 from ne 7 (by decide)), c_cou h1 h2 h3 w]
    rfl
theorem r_c66 {s : uS} {c : Nat → Int32} (h0 : s.I 1079 70 + s.I 1079 71 = c 0 ∧ s.I 1079 71 = c 1 ∧ s.I 1079 69 = c 2 ∧ s.I 1079 1 = c 3 ∧ s.I 1079 2 = c 4 ∧ s.I 1079 5 = c 5 ∧ (s.I 1079 0 = c 6 ∧ (c 6 = 0 ∨ c 6 = 1)) ∧ (s.I 1079 113 = c 7 ∧ (c 7 = 0 ∨ c 7 = 1))) (w : Int32) : fb_X12_count_66 w s = some (if 0 ≤ w ∧ w ≤ 7 then c w.toNatClampNeg else -1) := by
  obtain ⟨z0, z1, z2, z3, z4, z5, ⟨z6, z6'⟩, z7, z7'⟩ := h0
  unfold fb_X12_count_66
  by_cases hw : 0 ≤ w ∧ w ≤ 7
  · rw [if_pos hw]
    obtain ⟨n, -, n2, rfl⟩ := i_lo (a := 0) (b := 7) (by decide) (by decide) hw.1 hw.2
    rw [nI_clamp (by omega)]
    rcases (show n = 0 ∨ n = 1 ∨ n = 2 ∨ n = 3 ∨ n = 4 ∨ n = 5 ∨ n = 6 ∨ n = 7 by omega) with e | e | e | e | e | e | e | e <;> subst e
    · rw [if_pos (by decide), z0]
    · rw [if_neg (by decide), if_pos (by decide), z1]
    · rw [if_neg (by decide), if_neg (by decide), if_pos (by decide), z2]
    · rw [if_neg (by decide), if_neg (by decide), if_neg (by decide), if_pos (by decide), z3]
    · rw [if_neg (by decide), if_neg (by decide), if_neg (by decide), if_neg (by decide), if_pos (by decide), z4]
    · rw [if_neg (by decide), if_neg (by decide), if_neg (by decide), if_neg (by decide), if_neg (by decide), if_pos (by decide), z5]
    · rw [if_neg (by decide), if_neg (by decide), if_neg (by decide), if_neg (by decide), if_neg (by decide), if_neg (by decide), if_pos (by decide), z6]
      rcases z6' with e | e <;> rw [e] <;> rfl
    · rw [if_neg (by decide), if_neg (by decide), if_neg (by decide), if_neg (by decide), if_neg (by decide), if_neg (by decide), if_neg (by decide), if_pos (by decide), z7]
      rcases z7' with e | e <;> rw [e] <;> rfl
  · rw [if_neg hw]
    have ne : ∀ n : Nat, n ≤ 7 → w ≠ nI n := fun n hn e => hw (by rw [e]; exact ⟨nI_pos' (by omega), by rw [show (7 : Int32) = nI 7 by decide]; exact nI_le hn (by decide)⟩)
    rw [if_neg (show ¬ w = 0 from ne 0 (by decide)), if_neg (show ¬ w = 1 from ne 1 (by decide)), if_neg (show ¬ w = 2 from ne 2 (by decide)), if_neg (show ¬ w = 3 from ne 3 (by decide)), if_neg (show ¬ w = 4 from ne 4 (by decide)), if_neg (show ¬ w = 5 from ne 5 (by decide)), if_neg (show ¬ w = 6 from ne 6 (by decide)), if_neg (show ¬ w = 7 from ne 7 (by decide))]
theorem r_count {s : uS} {c : Nat → Int32} {g : Nat → Nat → Int32} (h0 : s.I 1079 70 + s.I 1079 71 = c 0 ∧ s.I 1079 71 = c 1 ∧ s.I 1079 69 = c 2 ∧ s.I 1079 1 = c 3 ∧ s.I 1079 2 = c 4 ∧ s.I 1079 5 = c 5 ∧ (s.I 1079 0 = c 6 ∧ (c 6 = 0 ∨ c 6 = 1)) ∧ (s.I 1079 113 = c 7 ∧ (c 7 = 0 ∨ c 7 = 1))) (h1 : ∀ u : Nat, u < 4 → s.F 1149 u = g 1 u) (h2 : ∀ u : Nat, u < 4 → s.F 1129 u = g 2 u) (h3 : ∀ u : Nat, u < 4 → s.F 1126 u = g 3 u) (w : Int32) : fn_X12_count w s = some (a_cnt c g w) := by
  have big : ∀ a b : Nat, a < 2 ^ 31 → b < 2 ^ 31 → 7 < a → nI a ≤ w → w ≤ nI b → ¬ (0 ≤ w ∧ w ≤ 7) := by
    intro a b ha hb h7 e1 e2 e3
    obtain ⟨n, n1, n2, rfl⟩ := i_lo ha hb e1 e2
    have := (nI_leI (a := n) (b := 7) (by omega) (by decide)).mp e3.2
    omega
  unfold fn_X12_count fb_X12_count_22 fb_X12_count_44 a_cnt
  by_cases a1 : (10 : Int32) ≤ w ∧ w ≤ 13
  · rw [if_neg (Int32.not_lt.mpr a1.1), if_neg (Int32.not_lt.mpr a1.2), if_neg (big 10 13 (by decide) (by decide) (by decide) a1.1 a1.2), if_pos a1]
    obtain ⟨n, n1, n2, rfl⟩ := i_lo (a := 10) (b := 13) (by decide) (by decide) a1.1 a1.2
    rw [show (10 : Int32) = nI 10 by decide, nI_sub n1, iget_c (N := 4) (by decide) (by decide) (by omega) (by decide), h1 (n - 10) (by omega), nI_clamp (by omega)]
    rfl
  · have s1 : ∀ {α : Type} (p q : Option α), (if w < 10 then p else if (13 : Int32) < w then p else q) = p := by
      intro α p q
      by_cases e1 : w < 10
      · rw [if_pos e1]
      · rw [if_neg e1, if_pos (Int32.not_le.mp fun e2 => a1 ⟨Int32.not_lt.mp e1, e2⟩)]
    rw [s1]
    by_cases a2 : (20 : Int32) ≤ w ∧ w ≤ 23
    · rw [if_neg (Int32.not_lt.mpr a2.1), if_neg (Int32.not_lt.mpr a2.2), if_neg (big 20 23 (by decide) (by decide) (by decide) a2.1 a2.2), if_neg a1, if_pos a2]
      obtain ⟨n, n1, n2, rfl⟩ := i_lo (a := 20) (b := 23) (by decide) (by decide) a2.1 a2.2
      rw [show (20 : Int32) = nI 20 by decide, nI_sub n1, iget_c (N := 4) (by decide) (by decide) (by omega) (by decide), h2 (n - 20) (by omega), nI_clamp (by omega)]
      rfl
    · have s2 : ∀ {α : Type} (p q : Option α), (if w < 20 then p else if (23 : Int32) < w then p else q) = p := by
        intro α p q
        by_cases e1 : w < 20
        · rw [if_pos e1]
        · rw [if_neg e1, if_pos (Int32.not_le.mp fun e2 => a2 ⟨Int32.not_lt.mp e1, e2⟩)]
      rw [s2]
      by_cases a3 : (30 : Int32) ≤ w ∧ w ≤ 33
      · rw [if_neg (Int32.not_lt.mpr a3.1), if_neg (Int32.not_lt.mpr a3.2), if_neg (big 30 33 (by decide) (by decide) (by decide) a3.1 a3.2), if_neg a1, if_neg a2, if_pos a3]
        obtain ⟨n, n1, n2, rfl⟩ := i_lo (a := 30) (b := 33) (by decide) (by decide) a3.1 a3.2
        rw [show (30 : Int32) = nI 30 by decide, nI_sub n1, iget_c (N := 4) (by decide) (by decide) (by omega) (by decide), h3 (n - 30) (by omega), nI_clamp (by omega)]
        rfl
      · have s3 : ∀ {α : Type} (p q : Option α), (if w < 30 then p else if (33 : Int32) < w then p else q) = p := by
          intro α p q
          by_cases e1 : w < 30
          · rw [if_pos e1]
          · rw [if_neg e1, if_pos (Int32.not_le.mp fun e2 => a3 ⟨Int32.not_lt.mp e1, e2⟩)]
        rw [s3, r_c66 h0, if_neg a1, if_neg a2, if_neg a3]
