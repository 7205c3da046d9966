/-! Texts, told with bytes as numbers: closed texts ts that may lie apart, and the open one behind them -/
theorem getDn_app {a b : List Nat} {j : Nat} (h : j < a.length) : (a ++ b).getD j 0 = a.getD j 0 := by
  rw [List.getD_eq_getElem?_getD, List.getD_eq_getElem?_getD, List.getElem?_append_left h]
theorem getDn_end {a : List Nat} {x : Nat} : (a ++ [x]).getD a.length 0 = x := by
  rw [List.getD_eq_getElem?_getD, List.getElem?_append_right (Nat.le_refl _), Nat.sub_self]
  rfl
theorem getN_app {ts : List (List Nat)} {t : List Nat} {i : Nat} (h : i < ts.length) : (ts ++ [t]).getD i [] = ts.getD i [] := by
  rw [List.getD_eq_getElem?_getD, List.getD_eq_getElem?_getD, List.getElem?_append_left h]
theorem getN_end {ts : List (List Nat)} {t : List Nat} : (ts ++ [t]).getD ts.length [] = t := by
  rw [List.getD_eq_getElem?_getD, List.getElem?_append_right (Nat.le_refl _), Nat.sub_self]
  rfl
theorem getDn_out {a : List Nat} {j : Nat} (h : a.length ≤ j) : a.getD j 0 = 0 := by
  rw [List.getD_eq_getElem?_getD, List.getElem?_eq_none h]
  rfl
theorem bys_app {a : List Nat} {b : Nat} (h : bys a) (hb : b < 256) : bys (a ++ [b]) := by
  intro j
  by_cases c : j < a.length
  · rw [getDn_app c]; exact h j
  · by_cases d : j = a.length
    · rw [d, getDn_end]; exact hb
    · rw [getDn_out (by rw [List.length_append]; show a.length + 1 ≤ j; omega)]; decide
theorem bys_nil : bys [] := fun j => by rw [getDn_out (Nat.zero_le _)]; decide
def cTz (s : uS) (k cap mo : Nat) (ts : List (List Nat)) (bg : Nat) (cur : List Nat) : Prop :=
  s.I k 3 = nI ts.length ∧ ts.length ≤ mo ∧ s.I k 4 = nI bg ∧ s.I k 5 = nI (bg + cur.length) ∧ bg + cur.length ≤ cap ∧ bys cur ∧
  (∀ j : Nat, j < cur.length → s.F (k + 1) (bg + j) = sb (cur.getD j 0)) ∧
  ∃ fr : Nat → Nat, fr ts.length = bg ∧ ∀ i : Nat, i < ts.length → bys (ts.getD i []) ∧ s.F (k + 2) i = nI (fr i) ∧ s.F (k + 3) i = nI (fr i + (ts.getD i []).length) ∧ fr i + (ts.getD i []).length ≤ fr (i + 1) ∧ ∀ j : Nat, j < (ts.getD i []).length → s.F (k + 1) (fr i + j) = sb ((ts.getD i []).getD j 0)
theorem fr_mono {fr : Nat → Nat} {n : Nat} (h : ∀ i : Nat, i < n → fr i ≤ fr (i + 1)) : ∀ d i : Nat, i + d ≤ n → fr i ≤ fr (i + d) := by
  intro d
  induction d with
  | zero => intro i hi; exact Nat.le_refl _
  | succ d ih => intro i hi; exact Nat.le_trans (ih i (by omega)) (h (i + d) (by omega))
theorem fr_end {fr : Nat → Nat} {ts : List (List Nat)} (h : ∀ i : Nat, i < ts.length → fr i + (ts.getD i []).length ≤ fr (i + 1)) {i : Nat} (hi : i < ts.length) : fr i + (ts.getD i []).length ≤ fr ts.length := by
  have := fr_mono (fr := fr) (n := ts.length) (fun i hi => by have := h i hi; omega) (ts.length - (i + 1)) (i + 1) (by omega)
  rw [show i + 1 + (ts.length - (i + 1)) = ts.length by omega] at this
  exact Nat.le_trans (h i hi) this
/-- it speaks of few places alone -/
theorem cTz.fr {s s1 : uS} {k cap mo bg : Nat} {ts : List (List Nat)} {cur : List Nat} (h : cTz s k cap mo ts bg cur) (h3 : s1.I k 3 = s.I k 3) (h4 : s1.I k 4 = s.I k 4) (h5 : s1.I k 5 = s.I k 5) (f1 : s1.F (k + 1) = s.F (k + 1)) (f2 : s1.F (k + 2) = s.F (k + 2)) (f3 : s1.F (k + 3) = s.F (k + 3)) : cTz s1 k cap mo ts bg cur := by
  unfold cTz
  rw [h3, h4, h5, f1, f2, f3]
  exact h
theorem tz_clear {s : uS} {k cap mo : Nat} : cTz (wI (wI (wI s k 3 0) k 4 0) k 5 0) k cap mo [] 0 [] := by
  refine ⟨?_, Nat.zero_le _, ?_, ?_, Nat.zero_le _, bys_nil, fun j hj => absurd hj (Nat.not_lt_zero j), fun _ => 0, rfl, fun i hi => absurd hi (Nat.not_lt_zero i)⟩
  · rw [wI_o (by omega), wI_o (by omega), wI_e]; rfl
  · rw [wI_o (by omega), wI_e]; rfl
  · rw [wI_e]; rfl
theorem tz_put {s : uS} {k cap mo bg : Nat} {ts : List (List Nat)} {cur : List Nat} {x : Int32} {b : Nat} (hk : uTx k cap mo) (h : cTz s k cap mo ts bg cur) (hc : bg + cur.length < cap) (hb : b < 256) (hx : x.toInt8.toInt32 = sb b) : ∃ s1 : uS, fn_X9_put k x s = some s1 ∧ s1 = wI (wF s (k + 1) (bg + cur.length) (sb b)) k 5 (nI (bg + cur.length + 1)) ∧ cTz s1 k cap mo ts bg (cur ++ [b]) := by
  obtain ⟨k1, k2, k3, k4, k5, k6⟩ := hk
  obtain ⟨h1, h2, h3, h4, h5, h6, h7, fr, h8, h9⟩ := h
  refine ⟨_, ?_, rfl, ?_, h2, ?_, ?_, ?_, bys_app h6 hb, ?_, fr, h8, ?_⟩
  · unfold fn_X9_put
    rw [ulen_c (by omega) k2 (by decide), Option.bind_some, h4, if_neg (nI_ge hc (by omega)), iput_c (by omega) k2 hc (by omega), Option.bind_some, unar_21, hx, wF_I, h4, nI_1]
  · rw [wI_o (by omega), wF_I]; exact h1
  · rw [wI_o (by omega), wF_I]; exact h3
  · rw [wI_e, List.length_append]; rfl
  · rw [List.length_append]; exact hc
  · intro j hj
    rw [List.length_append] at hj
    have hj : j < cur.length + 1 := hj
    rw [wI_F]
    by_cases c : j = cur.length
    · rw [c, wF_e, getDn_end]
    · rw [wF_o (by omega), getDn_app (by omega)]
      exact h7 j (by omega)
  · intro i hi
    obtain ⟨a1, a2, a3, a4, a5⟩ := h9 i hi
    refine ⟨a1, ?_, ?_, a4, ?_⟩
    · rw [wI_F, wF_o (by omega)]; exact a2
    · rw [wI_F, wF_o (by omega)]; exact a3
    · intro j hj
      have := fr_end (fun i hi => (h9 i hi).2.2.2.1) hi
      rw [wI_F, wF_o (by omega)]
      exact a5 j hj
theorem tz_close {s : uS} {k cap mo bg : Nat} {ts : List (List Nat)} {cur : List Nat} (hk : uTx k cap mo) (h : cTz s k cap mo ts bg cur) (hc : ts.length < mo) : ∃ s1 : uS, fn_X9_close k s = some s1 ∧ s1 = wI (wI (wF (wF s (k + 2) ts.length (nI bg)) (k + 3) ts.length (nI (bg + cur.length))) k 3 (nI (ts.length + 1))) k 4 (nI (bg + cur.length)) ∧ cTz s1 k cap mo (ts ++ [cur]) (bg + cur.length) [] := by
  obtain ⟨k1, k2, k3, k4, k5, k6⟩ := hk
  obtain ⟨h1, h2, h3, h4, h5, h6, h7, fr, h8, h9⟩ := h
  refine ⟨_, ?_, rfl, ?_, ?_, ?_, ?_, h5, bys_nil, fun j hj => absurd hj (Nat.not_lt_zero j), fun i => if i ≤ ts.length then fr i else bg + cur.length, ?_, ?_⟩
  · unfold fn_X9_close
    simp only [ulen_c (show k + 2 < 1171 by omega) k3 (by decide), Option.bind_some, h1, h3, h4, if_neg (nI_ge hc (by omega)), iput_c (show k + 2 < 1171 by omega) k3 hc (by omega), unar_20, wF_I, iput_c (show k + 3 < 1171 by omega) k4 hc (by omega), nI_1]
    rw [wI_o (by omega), wF_I, wF_I, h4]
  · rw [wI_o (by omega), wI_e, List.length_append]; rfl
  · rw [List.length_append]; exact hc
  · rw [wI_e]
  · rw [wI_o (by omega), wI_o (by omega), wF_I, wF_I, h4]; rfl
  · show (if _ then _ else _) = _
    rw [List.length_append, if_neg (by show ¬ ts.length + 1 ≤ ts.length; omega)]
  · intro i hi
    rw [List.length_append] at hi
    have hi : i < ts.length + 1 := hi
    rw [wI_F, wI_F]
    by_cases c : i = ts.length
    · subst c
      rw [wF_o (by omega), wF_e, wF_e, getN_end]
      show bys cur ∧ nI bg = nI (if _ then _ else _) ∧ nI (bg + cur.length) = nI ((if _ then _ else _) + cur.length) ∧ (if _ then _ else _) + cur.length ≤ (if _ then _ else _) ∧ ∀ j, _ → _ = _
      rw [if_pos (Nat.le_refl _), if_neg (by omega), h8]
      refine ⟨h6, rfl, rfl, Nat.le_refl _, ?_⟩
      intro j hj
      dsimp only
      rw [wF_o (by omega), wF_o (by omega), if_pos (Nat.le_refl _), h8]
      exact h7 j hj
    · obtain ⟨a1, a2, a3, a4, a5⟩ := h9 i (by omega)
      rw [wF_o (by omega), wF_o (by omega), wF_o (by omega), wF_o (by omega), getN_app (by omega)]
      show bys _ ∧ _ = nI (if _ then _ else _) ∧ _ = nI ((if _ then _ else _) + _) ∧ (if _ then _ else _) + _ ≤ (if _ then _ else _) ∧ ∀ j, _ → _ = _
      rw [if_pos (by omega), if_pos (by omega)]
      refine ⟨a1, a2, a3, a4, ?_⟩
      intro j hj
      dsimp only
      rw [wF_o (by omega), wF_o (by omega), if_pos (by omega)]
      exact a5 j hj
/-- reading a closed text -/
theorem tz_rd {s : uS} {k cap mo bg i : Nat} {ts : List (List Nat)} {cur : List Nat} (hk : uTx k cap mo) (h : cTz s k cap mo ts bg cur) (hi : i < ts.length) : ∃ fr : Nat, iget 20 s (k + 2) (nI i) = some (nI fr) ∧ iget 20 s (k + 3) (nI i) = some (nI (fr + (ts.getD i []).length)) ∧ rdC s (k + 1) fr (ts.getD i []) ∧ fr + (ts.getD i []).length ≤ cap := by
  obtain ⟨k1, k2, k3, k4, k5, k6⟩ := hk
  obtain ⟨h1, h2, h3, h4, h5, h6, h7, fr, h8, h9⟩ := h
  obtain ⟨a1, a2, a3, a4, a5⟩ := h9 i hi
  have := fr_end (fun i hi => (h9 i hi).2.2.2.1) hi
  refine ⟨fr i, ?_, ?_, ⟨by omega, a1, ?_⟩, by omega⟩
  · rw [iget_c (by omega) k3 (by omega) (by omega), a2]
  · rw [iget_c (by omega) k4 (by omega) (by omega), a3]
  · intro j hj
    rw [iget_c (by omega) k2 (by omega) (by omega), a5 j hj]
theorem tz_has {s : uS} {k cap mo bg i : Nat} {ts : List (List Nat)} {cur : List Nat} (hk : uTx k cap mo) (h : cTz s k cap mo ts bg cur) (hi : i < 2 ^ 31) : fn_X9_has k (nI i) s = some (decide (i < ts.length)) := by
  have h1 := h.1
  have h2 := h.2.1
  have h6 := hk.2.2.2.2.2
  unfold fn_X9_has
  rw [if_neg (nI_pos hi), h1]
  by_cases c : i < ts.length
  · rw [if_neg (nI_ge c (by omega)), decide_eq_true c]
  · rw [if_pos (nI_le (by omega) hi), decide_eq_false c]
theorem tz_len {s : uS} {k cap mo bg i : Nat} {ts : List (List Nat)} {cur : List Nat} (hk : uTx k cap mo) (h : cTz s k cap mo ts bg cur) (hi : i < ts.length) : fn_X9_lengthOf k (nI i) s = some (nI (ts.getD i []).length) := by
  obtain ⟨fr, a1, a2, a3, a4⟩ := tz_rd hk h hi
  have h1 := h.1
  have h2 := h.2.1
  have h6 := hk.2.2.2.2.2
  unfold fn_X9_lengthOf
  rw [if_neg (nI_pos (by omega)), h1, if_neg (nI_ge hi (by omega)), a2, Option.bind_some, a1, Option.bind_some, nI_sub (by omega), Nat.add_sub_cancel_left]
theorem tz_lenN {s : uS} {k cap mo bg i : Nat} {ts : List (List Nat)} {cur : List Nat} (hk : uTx k cap mo) (h : cTz s k cap mo ts bg cur) (hi : ts.length ≤ i) (h3 : i < 2 ^ 31) : fn_X9_lengthOf k (nI i) s = some 0 := by
  unfold fn_X9_lengthOf
  rw [if_neg (nI_pos (by omega)), h.1, if_pos (nI_le hi h3)]
