/-! the store of the reference: bytes, and a message more -/
def ga69 (k f : Nat) : Prop := k = 1079 ∧ f = 69
def ga18 (k _f : Nat) : Prop := k = 1118
theorem pkb_S (t : uS) (p : Nat) : pkb t p = (t.L 1118 (p / 8) >>> S8 (p % 8)).toInt32 &&& 255 := rfl
theorem r_store1 {t : uS} {p b : Nat} (h : t.I 1079 69 = nI p) (hp : p < 150400) (hb : b < 256) : ∃ t1 : uS, fn_X12_store (nI b) t = some t1 ∧ t1.I 1079 69 = nI (p + 1) ∧ pkb t1 p = nI b ∧ (∀ j : Nat, j ≠ p → pkb t1 j = pkb t j) ∧ ol ga69 rNo ga18 t t1 := by
  have e3 : nI p / 8 = nI (p / 8) := pk_div (d := 8) (by omega) (by decide) (by decide)
  refine ⟨wI (wL t 1118 (p / 8) (pk8 (t.L 1118 (p / 8)) (p % 8) b)) 1079 69 (nI (p + 1)), ?_, wI_e _ _ _ _, ?_, fun j hj => ?_, ol_I (ol_L ol_r rfl) ⟨rfl, rfl⟩⟩
  · unfold fn_X12_store
    have hI : (wL t 1118 (p / 8) (pk8 (t.L 1118 (p / 8)) (p % 8) b)).I 1079 69 = nI p := h
    rw [h, S8_e (by omega), e3, g_1118 (by omega), Option.bind_some, p_1118 (by omega), Option.bind_some]
    show some (wI (wL t 1118 (p / 8) (pk8 (t.L 1118 (p / 8)) (p % 8) b)) 1079 69 ((wL t 1118 (p / 8) (pk8 (t.L 1118 (p / 8)) (p % 8) b)).I 1079 69 + 1)) = _
    rw [hI, nI_1]
  · rw [pkb_S]
    show ((wL t 1118 (p / 8) (pk8 (t.L 1118 (p / 8)) (p % 8) b)).L 1118 (p / 8) >>> S8 (p % 8)).toInt32 &&& 255 = _
    rw [wL_L, if_pos ⟨rfl, rfl⟩, pk8_rd (Nat.mod_lt _ (by decide)) (Nat.mod_lt _ (by decide)) hb, if_pos rfl]
  · rw [pkb_S, pkb_S]
    show ((wL t 1118 (p / 8) (pk8 (t.L 1118 (p / 8)) (p % 8) b)).L 1118 (j / 8) >>> S8 (j % 8)).toInt32 &&& 255 = _
    rw [wL_L]
    by_cases d : j / 8 = p / 8
    · rw [if_pos ⟨rfl, d⟩, pk8_rd (Nat.mod_lt _ (by decide)) (Nat.mod_lt _ (by decide)) hb, if_neg (by omega), d]
    · rw [if_neg (fun e => d e.2)]
theorem st_loop {x : List Nat} (hb : bys x) {F : Nat → Int32 → uS → Option uS} {fin : uS → Option uS} {Pr : uS → Prop} (hPr : ∀ t t1 : uS, Pr t → ol ga69 rNo ga18 t t1 → Pr t1) (hF : ∀ (n i : Nat) (t : uS), Pr t → i < x.length → F (n + 1) (nI i) t = (fn_X12_store (nI (x.getD i 0)) t).bind fun s6 => F n (nI i + 1) s6) (hfin : ∀ (n : Nat) (t : uS), Pr t → F (n + 1) (nI x.length) t = fin t) : ∀ (d N i p : Nat) (t : uS), i + d = x.length → d + 1 ≤ N → Pr t → t.I 1079 69 = nI p → p + d ≤ 150400 → ∃ t1 : uS, F N (nI i) t = fin t1 ∧ t1.I 1079 69 = nI (p + d) ∧ (∀ j : Nat, j < d → pkb t1 (p + j) = nI (x.getD (i + j) 0)) ∧ (∀ j : Nat, j < p → pkb t1 j = pkb t j) ∧ ol ga69 rNo ga18 t t1 := by
  intro d
  induction d with
  | zero =>
    intro N i p t h1 h2 h3 h4 h5
    obtain ⟨M, rfl⟩ : ∃ M, N = M + 1 := ⟨N - 1, by omega⟩
    refine ⟨t, ?_, h4, fun j hj => by omega, fun j hj => rfl, ol_r⟩
    rw [show i = x.length by omega]
    exact hfin M t h3
  | succ d ih =>
    intro N i p t h1 h2 h3 h4 h5
    obtain ⟨M, rfl⟩ : ∃ M, N = M + 1 := ⟨N - 1, by omega⟩
    obtain ⟨t1, a1, a2, a3, a4, a5⟩ := r_store1 h4 (by omega) (hb i)
    obtain ⟨t2, b1, b2, b3, b4, b5⟩ := ih M (i + 1) (p + 1) t1 (by omega) (by omega) (hPr _ _ h3 a5) a2 (by omega)
    refine ⟨t2, ?_, ?_, fun j hj => ?_, fun j hj => ?_, ol_t a5 b5⟩
    · rw [hF M i t h3 (by omega), a1, Option.bind_some, nI_1]
      exact b1
    · rw [b2, show p + 1 + d = p + (d + 1) by omega]
    · cases j with
      | zero =>
        rw [Nat.add_zero, Nat.add_zero, b4 p (by omega), a3]
      | succ j =>
        have := b3 j (by omega)
        rw [show p + (j + 1) = p + 1 + j by omega, show i + (j + 1) = i + 1 + j by omega]
        exact this
    · rw [b4 j (by omega), a4 j (by omega)]
/-- how many wait to go out -/
def oN (ms : List aM) : Nat := ms.countP (inB (-1) 0)
theorem oN_le (ms : List aM) : oN ms ≤ ms.length := List.countP_le_length
def rRow (t : uS) (i : Nat) (m : aM) (p : Nat) : Prop := t.F 1119 i = rU m.1 ∧ t.F 1120 i = m.2.1 ∧ t.F 1123 i = m.2.2.1 ∧ t.F 1122 i = nI m.2.2.2.2.length ∧ m.2.2.2.2.length ≤ 10000 ∧ ∃ at_ : Nat, t.F 1121 i = nI at_ ∧ at_ + m.2.2.2.2.length ≤ p ∧ ∀ j : Nat, j < m.2.2.2.2.length → pkb t (at_ + j) = m.2.2.2.2.getD j 0 &&& 255
def rLab (t : uS) (k : Nat) (m : aM) : Prop := m.2.2.2.1.length ≤ 101 ∧ t.F 1125 k = nI m.2.2.2.1.length ∧ ∀ j : Nat, j < m.2.2.2.1.length → t.F 1124 (101 * k + j) = m.2.2.2.1.getD j 0 &&& 255
def rMl (t : uS) (ms : List aM) (p : Nat) : Prop := ms.length ≤ 400 ∧ oN ms ≤ 100 ∧ p ≤ 150400 ∧ t.I 1079 69 = nI p ∧ t.I 1079 71 = nI (oN ms) ∧ t.I 1079 70 = nI (ms.length - oN ms) ∧ (∀ i : Nat, i < ms.length → rRow t i (ms.getD i aM0) p) ∧ ∀ k : Nat, k < oN ms → ∃ q : Nat, fnd (inB (-1) 0) ms 0 k = some q ∧ rLab t k (ms.getD q aM0)
theorem fnd_none {p : aM → Bool} : ∀ (l : List aM) (i k : Nat), l.countP p ≤ k → fnd p l i k = none
  | [], _, _, _ => rfl
  | m :: r, i, k, h => by
    unfold fnd
    by_cases c : p m = true
    · rw [List.countP_cons_of_pos c] at h
      rw [if_pos c, if_neg (by omega)]
      exact fnd_none r (i + 1) (k - 1) (by omega)
    · rw [List.countP_cons_of_neg c] at h
      rw [if_neg c]
      exact fnd_none r (i + 1) k h
theorem fnd_app {p : aM → Bool} {m : aM} : ∀ (l : List aM) (i k : Nat), k < l.countP p → fnd p (l ++ [m]) i k = fnd p l i k
  | [], _, _, h => absurd h (Nat.not_lt_zero _)
  | x :: r, i, k, h => by
    show fnd p (x :: (r ++ [m])) i k = _
    unfold fnd
    by_cases c : p x = true
    · rw [List.countP_cons_of_pos c] at h
      rw [if_pos c, if_pos c]
      by_cases d : k = 0
      · rw [if_pos d, if_pos d]
      · rw [if_neg d, if_neg d]
        exact fnd_app r (i + 1) (k - 1) (by omega)
    · rw [List.countP_cons_of_neg c] at h
      rw [if_neg c, if_neg c]
      exact fnd_app r (i + 1) k h
theorem fnd_end {p : aM → Bool} {m : aM} (hm : p m = true) : ∀ (l : List aM) (i : Nat), fnd p (l ++ [m]) i (l.countP p) = some (i + l.length)
  | [], i => by
    show fnd p (m :: []) i 0 = _
    unfold fnd
    rw [if_pos hm, if_pos rfl]
    rfl
  | x :: r, i => by
    show fnd p (x :: (r ++ [m])) i _ = _
    unfold fnd
    by_cases c : p x = true
    · rw [List.countP_cons_of_pos c, if_pos c, if_neg (by omega), Nat.add_sub_cancel, fnd_end hm r (i + 1)]
      rw [List.length_cons]
      congr 1
      omega
    · rw [List.countP_cons_of_neg c, if_neg c, fnd_end hm r (i + 1)]
      rw [List.length_cons]
      congr 1
      omega
theorem rMl.rM {t : uS} {ms : List aM} {p : Nat} (h : rMl t ms p) : rM t ms := by
  obtain ⟨h1, h2, h3, h4, h5, h6, h7, h8⟩ := h
  have := oN_le ms
  refine ⟨h1, ⟨_, _, h6, h5, by omega⟩, fun i hi => ?_⟩
  obtain ⟨a1, a2, a3, a4, a5, at_, a6, a7, a8⟩ := h7 i hi
  exact ⟨a1, a2, a3, a4, a5, at_, a6, by omega, a8⟩
theorem rMl.rO {t : uS} {ms : List aM} {p : Nat} (h : rMl t ms p) : rO t ms := by
  obtain ⟨h1, h2, h3, h4, h5, h6, h7, h8⟩ := h
  refine ⟨oN ms, h5, h2, fun k => ⟨fun z => fnd_none ms 0 k z, fun z => ?_⟩⟩
  obtain ⟨q, q1, q2, q3, q4⟩ := h8 k z
  exact ⟨q, q1, q2, q3, q4⟩
theorem getM_app {ms : List aM} {m : aM} {i : Nat} (h : i < ms.length) : (ms ++ [m]).getD i aM0 = ms.getD i aM0 := by
  rw [List.getD_eq_getElem?_getD, List.getD_eq_getElem?_getD, List.getElem?_append_left h]
theorem getM_end {ms : List aM} {m : aM} : (ms ++ [m]).getD ms.length aM0 = m := by
  rw [List.getD_eq_getElem?_getD, List.getElem?_append_right (Nat.le_refl _), Nat.sub_self]
  rfl
/-- a message more -/
theorem rMl_app {t t1 : uS} {ms : List aM} {p : Nat} {m : aM} (h : rMl t ms p) (hl : ms.length < 400) (ho : oN (ms ++ [m]) ≤ 100) (hp : p + m.2.2.2.2.length ≤ 150400) (h69 : t1.I 1079 69 = nI (p + m.2.2.2.2.length)) (h71 : t1.I 1079 71 = nI (oN (ms ++ [m]))) (h70 : t1.I 1079 70 = nI (ms.length + 1 - oN (ms ++ [m]))) (hF : ∀ k i : Nat, 1119 ≤ k → k ≤ 1123 → i < ms.length → t1.F k i = t.F k i) (hb : ∀ j : Nat, j < p → pkb t1 j = pkb t j) (hr : rRow t1 ms.length m (p + m.2.2.2.2.length)) (hla : ∀ k : Nat, k < oN ms → t1.F 1125 k = t.F 1125 k ∧ ∀ j : Nat, j < 101 → t1.F 1124 (101 * k + j) = t.F 1124 (101 * k + j)) (hlm : inB (-1) 0 m = true → rLab t1 (oN ms) m) : rMl t1 (ms ++ [m]) (p + m.2.2.2.2.length) := by
  obtain ⟨h1, h2, h3, h4, h5, h6, h7, h8⟩ := h
  have el : (ms ++ [m]).length = ms.length + 1 := by rw [List.length_append]; rfl
  have eo : oN (ms ++ [m]) = oN ms + if inB (-1) 0 m = true then 1 else 0 := by
    unfold oN
    rw [List.countP_append, List.countP_cons, List.countP_nil, Nat.zero_add]
  refine ⟨by omega, ho, hp, h69, h71, by rw [el]; exact h70, fun i hi => ?_, fun k hk => ?_⟩
  · rw [el] at hi
    by_cases c : i < ms.length
    · rw [getM_app c]
      obtain ⟨a1, a2, a3, a4, a5, at_, a6, a7, a8⟩ := h7 i c
      exact ⟨(hF _ _ (by omega) (by omega) c).trans a1, (hF _ _ (by omega) (by omega) c).trans a2, (hF _ _ (by omega) (by omega) c).trans a3, (hF _ _ (by omega) (by omega) c).trans a4, a5, at_, (hF _ _ (by omega) (by omega) c).trans a6, by omega, fun j hj => (hb _ (by omega)).trans (a8 j hj)⟩
    · rw [show i = ms.length by omega, getM_end]
      exact hr
  · by_cases c : k < oN ms
    · obtain ⟨q, q1, q2, q3, q4⟩ := h8 k c
      have ql := (fnd_lt ms 0 k q q1).2
      refine ⟨q, (fnd_app ms 0 k c).trans q1, ?_⟩
      rw [getM_app (by omega)]
      exact ⟨q2, (hla k c).1.trans q3, fun j hj => ((hla k c).2 j (by omega)).trans (q4 j hj)⟩
    · by_cases d : inB (-1) 0 m = true
      · rw [eo, if_pos d] at hk
        have ek : k = oN ms := by omega
        refine ⟨ms.length, ?_, ?_⟩
        · rw [ek]
          have := fnd_end d ms 0
          rw [Nat.zero_add] at this
          exact this
        · rw [getM_end, ek]
          exact hlm d
      · rw [eo, if_neg d] at hk
        omega
