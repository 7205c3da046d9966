/-! the store of the class: redirects and the letter -/
/-- a message for the outside, from a place where the strings are -/
theorem c_156 {u k2 k4 bg : Nat} {D : List Nat} {tx : List Nat} {ts1 : List (List Nat)} : ∀ (d N k p : Nat) (s : uS) (ms : List aM), k + d = D.length → d + 1 ≤ N → 1171 ≤ s.n → s.n + 2 * d ≤ 600000 → s.m + 107 * d ≤ 7302250 → cDi s D → cTz s 8 2000 301 ts1 bg [] → (∀ j ∈ D, j < ts1.length ∧ (ts1.getD j []).length ≤ 101) → cBn s k4 tx → cMl s ms p → ms.length + d ≤ 400 → ∃ s1 : uS, fn_X11_storePlan_156 N k2 k4 (nI k) s = fn_X11_storePlan_156 (N - d) k2 k4 (nI D.length) s1 ∧ cMl s1 (ms ++ sdM ts1 tx (D.drop k)) (p + d * tx.length) ∧ oc smI rNo rNo smP s s1 ∧ s1.n = s.n + 2 * d ∧ s1.m ≤ s.m + 107 * d := by
  intro d
  induction d with
  | zero =>
    intro N k p s ms h1 h2 hn hn2 hm2 hD hT hL hk hM hl
    have e : k = D.length := by omega
    refine ⟨s, by rw [e, Nat.sub_zero], ?_, oc_r, rfl, Nat.le_refl _⟩
    rw [List.drop_eq_nil_of_le (by omega), show sdM ts1 tx [] = [] from rfl, List.append_nil, Nat.zero_mul, Nat.add_zero]
    exact hM
  | succ d ih =>
    intro N k p s ms h1 h2 hn hn2 hm2 hD hT hL hk hM hl
    obtain ⟨M, rfl⟩ : ∃ M, N = M + 1 := ⟨N - 1, by omega⟩
    have hD4 := hD.2.1
    have hkl : k < D.length := by omega
    have f1 := hD.2.2 k hkl
    have hgk : D.getD k 0 = D[k] := by rw [List.getD_eq_getElem?_getD, List.getElem?_eq_getElem hkl]; rfl
    have hmem : D.getD k 0 ∈ D := by rw [hgk]; exact List.getElem_mem hkl
    obtain ⟨l1, l2⟩ := hL _ hmem
    -- the cell, then the label
    obtain ⟨s1, hs1⟩ : ∃ s1, s1 = nw s 1 0 6 := ⟨_, rfl⟩
    have o1 : oc rNo rNo rNo rNo s s1 := by rw [hs1]; exact oc_nw oc_r
    have n1 : s1.n = s.n + 1 ∧ s1.m = s.m + 6 := by rw [hs1]; exact ⟨rfl, rfl⟩
    have hn1 : 1171 ≤ s1.n := by rw [n1.1]; exact Nat.le_succ_of_le hn
    have hT1 : cTz s1 8 2000 301 ts1 bg [] := hT.oc o1 (by omega) (fun _ z => z) (fun _ _ _ _ z => z)
    have hM1 : cMl s1 ms p := hM.oc o1 hn low_no low_no low_no (fun z => z) (fun z => z) (fun z => z) (fun _ z => z)
    obtain ⟨s2, b1, b2, b3, b4, b5⟩ := c_copyOf (i := D.getD k 0) uTx_str hT1 l1 hn1 (by omega) (by omega)
    have o2 : oc rNo rNo rNo rNo s1 s2 := b5 _ _ _ _
    have o12 := oc_t o1 o2
    have hM2 : cMl s2 ms p := hM1.oc o2 hn1 low_no low_no low_no (fun z => z) (fun z => z) (fun z => z) (fun _ z => z)
    have hc2 : s2.c s.n = (1, 0) := by rw [o2.2.1 s.n (by omega), hs1]; exact nw_c s 1 0 6
    have i3 : ∀ f : Nat, s2.I s.n f = 0 := by
      intro f
      rw [o2.2.2.2.1 s.n f (by omega) (fun z => z), hs1, nw_I, if_pos rfl]
    have hfr : ∀ i : Nat, i < ms.length → s2.P 5 i ≠ some s.n := by
      intro i hi
      rw [o12.2.2.2.2.2.2 5 i (by omega) (fun z => z)]
      exact hM.fresh (Nat.le_refl _) i hi
    obtain ⟨s3, c1, c2, c3, c4, c5⟩ := c_outM (e := s.n) (lb := s1.n) (k4 := k4) hM2 hn (by omega) hc2 (i3 3) (i3 4) (by omega) b4 ((hk.oc o1 (fun _ z => z)).oc o2 (fun _ z => z)) hfr
    have o3 : oc smI rNo rNo smP s s3 := by
      have x1 : oc (fun k f => smI k f ∨ k = s.n) rNo (fun k _ => k = s.n) smP s s3 := oc_t (oc_w o12 (fun _ _ z => z.elim) (fun _ _ z => z) (fun _ _ z => z.elim) (fun _ _ z => z.elim)) c3
      obtain ⟨y1, y2, y3, y4, y5, y6, y7⟩ := x1
      exact ⟨y1, y2, y3, fun k f hk hz => y4 k f hk (fun w => w.elim hz (fun w => by omega)), y5, fun k f hk hz => y6 k f hk (fun w => by omega), y7⟩
    have hn3 : 1171 ≤ s3.n := Nat.le_trans hn o3.1
    obtain ⟨s4, d1, d2, d3, d4, d5⟩ := ih M (k + 1) (p + tx.length) s3 (ms ++ [oMl (ts1.getD (D.getD k 0) []) tx]) (by omega) (by omega) hn3 (by omega) (by omega) (hD.oc o3 hn (by unfold smI; omega) (fun _ _ _ _ z => z)) (hT.oc o3 (by omega) (fun _ z => by unfold smI at z; omega) (fun _ _ _ _ z => z)) hL (hk.oc o3 (fun _ z => z)) c2 (by rw [List.length_append]; show ms.length + 1 + d ≤ 400; omega)
    refine ⟨s4, ?_, ?_, oc_t o3 d3, by omega, by omega⟩
    · rw [show M + 1 - (d + 1) = M - d by omega]
      show fb_X11_storePlan_156 (fn_X11_storePlan_156 M) k2 k4 (nI k) s = _
      unfold fb_X11_storePlan_156
      have g74 : s1.F 1074 k = nI (D.getD k 0) := (o1.2.2.2.2.1 _ _ (by omega) (fun z => z)).trans f1
      rw [hD.1, if_neg (nI_ge hkl (by omega)), nent_c (by omega) (by omega), Option.bind_some, ← hs1, g_1074 (by omega), Option.bind_some, g74, b1, Option.bind_some]
      dsimp only
      have his : uIs s2 s.n 1 := uIs_oc o2 (by omega) hn (by rw [hs1, nw_c])
      rw [if_pos (show ¬ s1.n = 0 by omega), X1_c his, Option.bind_some]
      rw [show wR (wR (wI s2 s.n 2 (-1)) s.n 0 (some s1.n)) s.n 1 (some k4) = ent s2 s.n s1.n k4 from rfl, c1, Option.bind_some, nI_1]
      exact d1
    · have e : D.drop k = D.getD k 0 :: D.drop (k + 1) := by rw [hgk, List.drop_eq_getElem_cons hkl]
      rw [e]
      have e2 : p + (d + 1) * tx.length = p + tx.length + d * tx.length := by rw [Nat.succ_mul]; omega
      rw [e2]
      rw [List.append_assoc] at d2
      exact d2
