/-- a list of texts that lie one behind the other in one row: those that are closed, and what stands behind them -/
def tSt (ts : List (List Int32)) (i : Nat) : Nat := (ts.take i).flatten.length
def uTx (k cap mo : Nat) : Prop := k + 3 < 1171 ∧ ucl (k + 1) = (21, cap) ∧ ucl (k + 2) = (20, mo) ∧ ucl (k + 3) = (20, mo) ∧ cap ≤ 10000 ∧ mo ≤ 10000
def cTx (s : uS) (k cap mo : Nat) (ts : List (List Int32)) (cur : List Int32) : Prop := s.I k 3 = nI ts.length ∧ ts.length ≤ mo ∧ s.I k 4 = nI ts.flatten.length ∧ s.I k 5 = nI (ts.flatten.length + cur.length) ∧ ts.flatten.length + cur.length ≤ cap ∧ (∀ j : Nat, j < ts.flatten.length + cur.length → s.F (k + 1) j = (ts.flatten ++ cur).getD j 0) ∧ ∀ i : Nat, i < ts.length → s.F (k + 2) i = nI (tSt ts i) ∧ s.F (k + 3) i = nI (tSt ts i + (ts.getD i []).length)
theorem tx_clear {s : uS} {k cap mo : Nat} : cTx (wI (wI (wI s k 3 0) k 4 0) k 5 0) k cap mo [] [] := by
  refine ⟨?_, Nat.zero_le _, ?_, ?_, Nat.zero_le _, fun j hj => absurd hj (Nat.not_lt_zero j), fun i hi => absurd hi (Nat.not_lt_zero i)⟩
  · rw [wI_o (by omega), wI_o (by omega), wI_e]; rfl
  · rw [wI_o (by omega), wI_e]; rfl
  · rw [wI_e]; rfl
theorem tx_put {s : uS} {k cap mo : Nat} {ts : List (List Int32)} {cur : List Int32} (hk : uTx k cap mo) (h : cTx s k cap mo ts cur) (hc : ts.flatten.length + cur.length < cap) (x : Int32) : fn_X9_put k x s = some (wI (wF s (k + 1) (ts.flatten.length + cur.length) x.toInt8.toInt32) k 5 (nI (ts.flatten.length + cur.length + 1))) ∧ cTx (wI (wF s (k + 1) (ts.flatten.length + cur.length) x.toInt8.toInt32) k 5 (nI (ts.flatten.length + cur.length + 1))) k cap mo ts (cur ++ [x.toInt8.toInt32]) := by
  obtain ⟨k1, k2, k3, k4, k5, k6⟩ := hk
  obtain ⟨h1, h2, h3, h4, h5, h6, h7⟩ := h
  refine ⟨?_, ?_, h2, ?_, ?_, ?_, ?_, ?_⟩
  · unfold fn_X9_put
    rw [ulen_c (by omega) k2 (by decide), Option.bind_some, h4, if_neg (nI_ge hc (by omega)), iput_c (by omega) k2 hc (by omega), Option.bind_some, unar_21, wF_I, h4, nI_1]
  · rw [wI_o (by omega), wF_I]; exact h1
  · rw [wI_o (by omega), wF_I]; exact h3
  · rw [wI_e, List.length_append]; rfl
  · rw [List.length_append]; exact hc
  · intro j hj
    rw [List.length_append] at hj
    have hj : j < ts.flatten.length + (cur.length + 1) := hj
    rw [wI_F, ← List.append_assoc]
    by_cases c : j = ts.flatten.length + cur.length
    · rw [c, wF_e, show ts.flatten.length + cur.length = (ts.flatten ++ cur).length by rw [List.length_append], getD_end]
    · rw [wF_o (fun e => c e.2), getD_app (by rw [List.length_append]; omega)]
      exact h6 j (by omega)
  · intro i hi
    rw [wI_F, show (wF s (k + 1) (ts.flatten.length + cur.length) x.toInt8.toInt32).F (k + 2) i = s.F (k + 2) i from wF_o (by omega), show (wF s (k + 1) (ts.flatten.length + cur.length) x.toInt8.toInt32).F (k + 3) i = s.F (k + 3) i from wF_o (by omega)]
    exact h7 i hi
theorem tSt_app {ts : List (List Int32)} {t : List Int32} {i : Nat} (h : i ≤ ts.length) : tSt (ts ++ [t]) i = tSt ts i := by
  unfold tSt
  rw [List.take_append_of_le_length h]
theorem getL_app {ts : List (List Int32)} {t : List Int32} {i : Nat} (h : i < ts.length) : (ts ++ [t]).getD i [] = ts.getD i [] := by
  rw [List.getD_eq_getElem?_getD, List.getD_eq_getElem?_getD, List.getElem?_append_left h]
theorem getL_end {ts : List (List Int32)} {t : List Int32} : (ts ++ [t]).getD ts.length [] = t := by
  rw [List.getD_eq_getElem?_getD, List.getElem?_append_right (Nat.le_refl _), Nat.sub_self]
  rfl
theorem tSt_end {ts : List (List Int32)} : tSt ts ts.length = ts.flatten.length := by
  unfold tSt
  rw [List.take_length]
theorem tx_close {s : uS} {k cap mo : Nat} {ts : List (List Int32)} {cur : List Int32} (hk : uTx k cap mo) (h : cTx s k cap mo ts cur) (hc : ts.length < mo) : ∃ s1 : uS, fn_X9_close k s = some s1 ∧ cTx s1 k cap mo (ts ++ [cur]) [] ∧ (∀ j : Nat, j ≠ k → s1.I j = s.I j) ∧ (∀ j : Nat, j ≠ k + 2 → j ≠ k + 3 → s1.F j = s.F j) := by
  obtain ⟨k1, k2, k3, k4, k5, k6⟩ := hk
  obtain ⟨h1, h2, h3, h4, h5, h6, h7⟩ := h
  have hfl : (ts ++ [cur]).flatten = ts.flatten ++ cur := by rw [List.flatten_append]; simp
  have hfn : fn_X9_close k s = some (wI (wI (wF (wF s (k + 2) ts.length (nI ts.flatten.length)) (k + 3) ts.length (nI (ts.flatten.length + cur.length))) k 3 (nI (ts.length + 1))) k 4 (nI (ts.flatten.length + cur.length))) := by
    unfold fn_X9_close
    simp only [ulen_c (show k + 2 < 1171 by omega) k3 (by decide), Option.bind_some, h1, h3, h4, if_neg (nI_ge hc (by omega)), iput_c (show k + 2 < 1171 by omega) k3 hc (by omega), unar_20, wF_I, iput_c (show k + 3 < 1171 by omega) k4 hc (by omega), nI_1]
    rw [wI_o (by omega), wF_I, wF_I, h4]
  refine ⟨_, hfn, ⟨?_, ?_, ?_, ?_, ?_, ?_, ?_⟩, ?_, ?_⟩
  · rw [wI_o (by omega), wI_e, List.length_append]; rfl
  · rw [List.length_append]; exact hc
  · rw [wI_e, hfl, List.length_append]
  · rw [wI_o (by omega), wI_o (by omega), wF_I, wF_I, h4, hfl, List.length_append]; rfl
  · rw [hfl, List.length_append]; exact h5
  · intro j hj
    rw [hfl, List.length_append] at hj
    rw [wI_F, wI_F, show (wF (wF s (k + 2) ts.length (nI ts.flatten.length)) (k + 3) ts.length (nI (ts.flatten.length + cur.length))).F (k + 1) j = s.F (k + 1) j from (wF_o (by omega)).trans (wF_o (by omega)), hfl, List.append_nil]
    exact h6 j (by simpa using hj)
  · intro i hi
    rw [List.length_append] at hi
    have hi : i < ts.length + 1 := hi
    rw [wI_F, wI_F]
    by_cases c : i = ts.length
    · subst c
      rw [wF_o (by omega), wF_e, wF_e, tSt_app (Nat.le_refl _), tSt_end, getL_end]
      exact ⟨rfl, rfl⟩
    · rw [wF_o (by omega), wF_o (by omega), wF_o (by omega), wF_o (by omega), tSt_app (by omega), getL_app (by omega)]
      exact h7 i (by omega)
  · intro j hj
    show uw2 (uw2 _ k 3 _) k 4 _ j = _
    rw [uw2_ne hj, uw2_ne hj]
    rfl
  · intro j h2 h3
    show uw2 (uw2 s.F (k + 2) _ _) (k + 3) _ _ j = _
    rw [uw2_ne h3, uw2_ne h2]
