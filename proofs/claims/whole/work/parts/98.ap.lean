/-! sessions: digits, the end of a part, bytes of a part -/
theorem pow10_8 {d v : Nat} (h : v < 10 ^ d) (hd : d < 9) : v < 100000000 := by
  have : 10 ^ d ≤ 10 ^ 8 := Nat.pow_le_pow_right (by decide) (by omega)
  omega
theorem iDig_n {b : Nat} (hb : b < 256) : iDig (nI b) = decide (48 ≤ b ∧ b ≤ 57) := by
  unfold iDig
  simp (disch := omega) only [lit, nI_leI]
theorem iLet_n {b : Nat} (hb : b < 256) : iLet (nI b) = decide ((65 ≤ b ∧ b ≤ 90) ∨ (97 ≤ b ∧ b ≤ 122)) := by
  unfold iLet
  simp (disch := omega) only [lit, nI_leI]
theorem getA_app {ps : List (Nat × List Nat)} {p : Nat × List Nat} {i : Nat} (h : i < ps.length) : (ps ++ [p]).getD i pk0 = ps.getD i pk0 := by
  rw [List.getD_eq_getElem?_getD, List.getD_eq_getElem?_getD, List.getElem?_append_left h]
theorem getA_end {ps : List (Nat × List Nat)} {p : Nat × List Nat} : (ps ++ [p]).getD ps.length pk0 = p := by
  rw [List.getD_eq_getElem?_getD, List.getElem?_append_right (Nat.le_refl _), Nat.sub_self]
  rfl
/-- a digit: class and reference add it -/
theorem s_digit {u b : Nat} (hu : u < 4) (h1 : 48 ≤ b) (h2 : b ≤ 57) {s t : uS} {st v d : Nat} {pc : Bool} (h : pA (978 + 16 * u) u s t st v d pc) (hd : d < 9) (x3 : Int32) : fn_X8_addDigit (978 + 16 * u) (nI b) s = some (wI (wI s (978 + 16 * u) 1 (nI (10 * v + b - 48))) (978 + 16 * u) 6 (nI (d + 1)), true) ∧ fn_X12_digitIn (nI u) (nI b) x3 t = fn_X12_go (nI u) x3 (wF (wF t 1161 u (nI (10 * v + b - 48))) 1162 u (nI (d + 1))) ∧ 10 * v + b - 48 < 10 ^ (d + 1) := by
  obtain ⟨a1, a2, a3, a4, a5, a6, a7, a8, a9, a10, a11⟩ := h
  have hv := pow10_8 a9 hd
  refine ⟨?_, ?_, by rw [Nat.pow_succ]; omega⟩
  · unfold fn_X8_addDigit
    simp (disch := omega) only [a4, a6, lit, nI_eq, if_neg (show ¬ d = 9 by omega), nI_mul, nI_add]
    rw [nI_sub (by omega), wI_o (by omega), a6, nI_add, Nat.mul_comm v 10]
  · unfold fn_X12_digitIn fb_X12_digitIn_40
    simp (disch := omega) only [g_1161, Option.bind_some, a5, lit, nI_leI, if_neg (show ¬ 100000000 ≤ v by omega), nI_mul, nI_add, p_1161, g_1162, bind_id]
    rw [nI_sub (by omega), wF_o (by omega), a7, nI_add, p_1162 hu, Option.bind_some]
theorem pA_dig {K u : Nat} {s t : uS} {st v d v1 d1 : Nat} {pc : Bool} (h : pA K u s t st v d pc) (hd : d1 ≤ 9) (hv : v1 < 10 ^ d1) : pA K u (wI (wI s K 1 (nI v1)) K 6 (nI d1)) (wF (wF t 1161 u (nI v1)) 1162 u (nI d1)) st v1 d1 pc := by
  obtain ⟨a1, a2, a3, a4, a5, a6, a7, a8, a9, a10, a11⟩ := h
  refine ⟨a1, ?_, ?_, ?_, ?_, wI_e _ _ _ _, wF_e _ _ _ _, hd, hv, ?_, ?_⟩
  · rw [wI_o (by omega), wI_o (by omega)]; exact a2
  · rw [wF_o (by omega), wF_o (by omega)]; exact a3
  · rw [wI_o (by omega), wI_e]
  · rw [wF_o (by omega), wF_e]
  · rw [wI_o (by omega), wI_o (by omega)]; exact a10
  · rw [wF_o (by omega), wF_o (by omega)]; exact a11
theorem pW_dig {K u : Nat} {s t : uS} {x y x' y' : Int32} {w : List Nat} (h : pW K u s t w) : pW K u (wI (wI s K 1 x) K 6 y) (wF (wF t 1161 u x') 1162 u y') w := h.fr ((wI_o (by omega)).trans (wI_o (by omega))) rfl ((wF_o (by omega)).trans (wF_o (by omega))) ((wF_r (by omega)).trans (wF_r (by omega)))
theorem pD_dig {K u : Nat} {s t : uS} {x y x' y' : Int32} {ps : List (Nat × List Nat)} {bg : Nat} {cur : List Nat} (h : pD K u s t ps bg cur) : pD K u (wI (wI s K 1 x) K 6 y) (wF (wF t 1161 u x') 1162 u y') ps bg cur := h.fr ((wI_r (by omega)).trans (wI_r (by omega))) rfl rfl rfl rfl ((wF_o (by omega)).trans (wF_o (by omega))) ((wF_o (by omega)).trans (wF_o (by omega))) (fun p _ _ => (wF_o (by omega)).trans (wF_o (by omega))) (fun p j _ _ _ => (wF_o (by omega)).trans (wF_o (by omega)))
theorem out_dig {u : Nat} {s : uS} {x y : Int32} : out (sPl (978 + 16 * u)) (sPl (978 + 16 * u)) s (wI (wI s (978 + 16 * u) 1 x) (978 + 16 * u) 6 y) := out_I (out_I out_r ⟨by omega, by omega⟩) ⟨by omega, by omega⟩
theorem outr_dig {u : Nat} {t : uS} {x y : Int32} : out rNo (rPl u) t (wF (wF t 1161 u x) 1162 u y) := out_F (out_F out_r (by unfold rPl; omega)) (by unfold rPl; omega)
theorem pR_dig {u : Nat} {t : uS} {x y : Int32} {p : Nat} {cur : List Nat} (h : pR u t p cur) : pR u (wF (wF t 1161 u x) 1162 u y) p cur := by
  unfold pR at *
  rw [show (wF (wF t 1161 u x) 1162 u y).F 1165 = t.F 1165 from (wF_r (by omega)).trans (wF_r (by omega)), show (wF (wF t 1161 u x) 1162 u y).F 1164 = t.F 1164 from (wF_r (by omega)).trans (wF_r (by omega)), show (wF (wF t 1161 u x) 1162 u y).F (1167 + u) = t.F (1167 + u) from (wF_r (by omega)).trans (wF_r (by omega))]
  exact h
/-- the class closes a part -/
theorem s_close {u kd : Nat} (hu : u < 4) {s t : uS} {ps : List (Nat × List Nat)} {bg : Nat} {cur : List Nat} (hd : pD (978 + 16 * u) u s t ps bg cur) (hl : ps.length < 3) (hk : kd = 2 ∨ kd = 3 ∧ cur = []) (hc : cur.length ≤ 2000) (hr : pR u t ps.length cur) : ∃ s1 : uS, fn_X8_closePart (978 + 16 * u) (nI kd) s = some (wI s1 (978 + 16 * u) 5 (nI 10), 0) ∧ out (sPl (978 + 16 * u)) (sPl (978 + 16 * u)) s s1 ∧ s1.I (978 + 16 * u) = s.I (978 + 16 * u) ∧ s1.F (978 + 16 * u + 6) = s.F (978 + 16 * u + 6) ∧ ∀ t1 : uS, t1.F 1160 u = nI (ps.length + 1) → t1.F 1166 u = nI (nums (ps ++ [(kd, cur)])) → t1.F 1164 = t.F 1164 → t1.F (1167 + u) = t.F (1167 + u) → pD (978 + 16 * u) u s1 t1 (ps ++ [(kd, cur)]) (bg + cur.length) [] := by
  obtain ⟨k1, k2, k3, k4⟩ := kOk_u hu
  obtain ⟨h1, h2, h3, h4, h5, h6⟩ := hd
  have hc3 : s.I (978 + 16 * u + 1) 3 = nI ps.length := by have := h1.1; rw [List.length_map] at this; exact this
  have hz : cTz (wF s (978 + 16 * u + 5) ps.length (nI kd)) (978 + 16 * u + 1) 6000 3 (ps.map Prod.snd) bg cur := h1.fr rfl rfl rfl (wF_r (by omega)) (wF_r (by omega)) (wF_r (by omega))
  obtain ⟨s1, c1, c2, c3⟩ := tz_close k1 hz (by rw [List.length_map]; exact hl)
  rw [List.length_map] at c2
  refine ⟨s1, ?_, ?_, ?_, ?_, ?_⟩
  · unfold fn_X8_closePart fb_X8_closePart_24
    rw [hc3, if_neg (show ¬ (3 : Int32) ≤ nI ps.length from nI_ge hl (by decide)), iput_c (by omega) k2 hl (by decide), unar_20, Option.bind_some, c1, Option.bind_some, c_go]
    rfl
  · rw [c2]
    exact out_I (out_I (out_F (out_F (out_F out_r ⟨by omega, by omega⟩) ⟨by omega, by omega⟩) ⟨by omega, by omega⟩) ⟨by omega, by omega⟩) ⟨by omega, by omega⟩
  · rw [c2, wI_r (by omega), wI_r (by omega)]; rfl
  · rw [c2, wI_F, wI_F, wF_r (by omega), wF_r (by omega), wF_r (by omega)]
  · intro t1 e1 e2 e3 e4
    refine ⟨?_, ?_, ?_, ?_, e2, ?_⟩
    · rw [List.map_append]; exact c3
    · rw [List.length_append]; show bg + cur.length ≤ 2000 * (ps.length + 1); omega
    · intro i hi
      rw [List.length_append] at hi
      have hi : i < ps.length + 1 := hi
      have hf : s1.F (978 + 16 * u + 5) = (wF s (978 + 16 * u + 5) ps.length (nI kd)).F (978 + 16 * u + 5) := by rw [c2, wI_F, wI_F, wF_r (by omega), wF_r (by omega)]
      rw [hf]
      by_cases c : i = ps.length
      · rw [c, wF_e, getA_end]; exact ⟨rfl, hk, hc⟩
      · rw [wF_o (by omega), getA_app (by omega)]; exact h3 i (by omega)
    · rw [e1, List.length_append]; rfl
    · intro p p1 p2
      rw [List.length_append] at p2
      have p2 : p < ps.length + 1 := p2
      rw [e3, e4]
      by_cases c : p = ps.length
      · rw [c, getA_end]
        unfold pR at hr
        rw [if_neg (by omega)] at hr
        exact hr
      · rw [getA_app (by omega)]; exact h6 p p1 (by omega)
/-- the end of a part that isn't a number -/
theorem s_done {u : Nat} (hu : u < 4) {s t : uS} {st v d : Nat} {pc : Bool} {w : List Nat} {ps : List (Nat × List Nat)} {bg : Nat} {cur : List Nat} (h : pA (978 + 16 * u) u s t st v d pc) (hw : pW (978 + 16 * u) u s t w) (hd : pD (978 + 16 * u) u s t ps bg cur) (hl : ps.length < 3) (hc : cur.length ≤ 2000) (hr : pR u t ps.length cur) (ho : t.F 1159 u = oI (wix w ordW 0)) : ∃ s1 t1 : uS, fn_X8_closePart (978 + 16 * u) (nI 2) s = some (s1, 0) ∧ fn_X12_partDone (nI u) t = some (t1, true) ∧ pGo u s t s1 t1 := by
  obtain ⟨s1, a1, a2, a3, a4, a5⟩ := s_close hu hd hl (Or.inl rfl) hc hr
  have hn : nums (ps ++ [(2, cur)]) = nums ps := by rw [nums_app]; show nums ps + (if (2 : Nat) = 3 then _ else 0) = _; rw [if_neg (by decide)]; rfl
  refine ⟨_, wF (wF t 1160 u (nI (ps.length + 1))) 1156 u (nI (rmd 10)), a1, ?_, out_I a2 ⟨by omega, by omega⟩, out_F (out_F out_r (by unfold rPl; omega)) (by unfold rPl; omega), 10, v, d, pc, ?_, Or.inr ⟨w, ps ++ [(2, cur)], bg + cur.length, [], ?_, ?_, ?_⟩⟩
  · unfold fn_X12_partDone
    rw [g_1160 hu, Option.bind_some, hd.2.2.2.1, nI_1, p_1160 hu, Option.bind_some, bind_id, show (1 : Int32) = nI (rmd 10) from rfl, r_go hu]
  · have : pA (978 + 16 * u) u s1 (wF t 1160 u (nI (ps.length + 1))) st v d pc := by
      unfold pA
      rw [a3, wF_r (show 1156 ≠ 1160 by decide), wF_r (show 1161 ≠ 1160 by decide), wF_r (show 1162 ≠ 1160 by decide), wF_r (show 1163 ≠ 1160 by decide)]
      exact h
    exact pA_go this (by decide)
  · refine hw.fr ?_ a4 ((wF_o (by omega)).trans (wF_o (by omega))) ((wF_r (by omega)).trans (wF_r (by omega)))
    rw [wI_o (by omega), a3]
  · have := a5 (wF t 1160 u (nI (ps.length + 1))) (wF_e _ _ _ _) (by rw [wF_o (by omega), hn]; exact hd.2.2.2.2.1) (wF_r (by omega)) (wF_r (by omega))
    exact this.fr (wI_r (by omega)) rfl rfl rfl rfl (wF_o (by omega)) (wF_o (by omega)) (fun p _ _ => wF_o (by omega)) (fun p j _ _ _ => wF_o (by omega))
  · unfold pE
    rw [if_neg (by decide), if_neg (by decide), if_pos (Or.inl rfl)]
    exact ⟨((wF_o (by omega)).trans (wF_o (by omega))).trans ho, rfl⟩
/-- a byte of a part -/
theorem r_partByte {u b : Nat} (hu : u < 4) {t : uS} {p : Nat} {cur : List Nat} (h1 : t.F 1160 u = nI p) (hp : p < 3) (hc : cur.length < 2000) (hr : pR u t p cur) : ∃ t1 : uS, fn_X12_partByte (nI u) (nI b) t = some t1 ∧ out rNo (rPl u) t t1 ∧ pR u t1 p (cur ++ [b]) ∧ (∀ k : Nat, k < 1164 → t1.F k = t.F k) ∧ t1.F 1166 = t.F 1166 ∧ (∀ q : Nat, q < 2 → q < p → t1.F 1164 (2 * u + q) = t.F 1164 (2 * u + q)) ∧ ∀ q j : Nat, q < 2 → q < p → j < 2000 → t1.F (1167 + u) (2000 * q + j) = t.F (1167 + u) (2000 * q + j) := by
  unfold fn_X12_partByte pR at *
  rw [g_1160 hu, Option.bind_some, h1]
  by_cases c : p = 2
  · subst c
    rw [if_pos rfl] at hr
    rw [if_pos (show nI 2 = 2 from rfl), g_1165 hu, Option.bind_some, hr, nI_1, p_1165 hu, Option.bind_some]
    refine ⟨_, rfl, out_F out_r (by unfold rPl; omega), ?_, fun k hk => wF_r (by omega), wF_r (by omega), fun q _ _ => wF_o (by omega), fun q j _ _ _ => wF_o (by omega)⟩
    rw [if_pos rfl, wF_e, List.length_append]; rfl
  · rw [if_neg c] at hr
    obtain ⟨r1, r2⟩ := hr
    rw [if_neg (show ¬ nI p = 2 by show ¬ nI p = nI 2; rw [nI_eq (by omega) (by omega)]; exact c)]
    simp (disch := omega) only [if_neg c, lit, nI_mul, nI_add, g_1164, Option.bind_some, r1, p_1164, nI_eq]
    have fin : ∀ t1 : uS, t1 = wF (wF t 1164 (2 * u + p) (nI (cur.length + 1))) (1167 + u) (2000 * p + cur.length) (nI b) → ∃ t2 : uS, some t1 = some t2 ∧ out rNo (rPl u) t t2 ∧ (t2.F 1164 (2 * u + p) = nI (cur ++ [b]).length ∧ ∀ j : Nat, j < (cur ++ [b]).length → t2.F (1167 + u) (2000 * p + j) = nI ((cur ++ [b]).getD j 0)) ∧ (∀ k : Nat, k < 1164 → t2.F k = t.F k) ∧ t2.F 1166 = t.F 1166 ∧ (∀ q : Nat, q < 2 → q < p → t2.F 1164 (2 * u + q) = t.F 1164 (2 * u + q)) ∧ ∀ q j : Nat, q < 2 → q < p → j < 2000 → t2.F (1167 + u) (2000 * q + j) = t.F (1167 + u) (2000 * q + j) := by
      intro t1 e
      refine ⟨t1, rfl, ?_⟩
      rw [e]
      refine ⟨out_F (out_F out_r (by unfold rPl; omega)) (by unfold rPl; omega), ⟨?_, ?_⟩, fun k hk => (wF_r (by omega)).trans (wF_r (by omega)), (wF_r (by omega)).trans (wF_r (by omega)), fun q _ _ => (wF_o (by omega)).trans (wF_o (by omega)), fun q j _ _ _ => (wF_o (by omega)).trans (wF_o (by omega))⟩
      · rw [wF_o (by omega), wF_e, List.length_append]; rfl
      · intro j hj
        rw [List.length_append] at hj
        have hj : j < cur.length + 1 := hj
        by_cases d : j = cur.length
        · rw [d, wF_e, getDn_end]
        · rw [wF_o (by omega), wF_o (by omega), getDn_app (by omega)]; exact r2 j (by omega)
    by_cases c0 : u = 0
    · subst c0
      rw [if_pos rfl, p_1167 (by omega), Option.bind_some]
      exact fin _ rfl
    · rw [if_neg c0]
      by_cases c1 : u = 1
      · subst c1
        rw [if_pos rfl, p_1168 (by omega), Option.bind_some]
        exact fin _ rfl
      · rw [if_neg c1]
        by_cases c2 : u = 2
        · subst c2
          rw [if_pos rfl, p_1169 (by omega), Option.bind_some]
          exact fin _ rfl
        · rw [if_neg c2, p_1170 (by omega), Option.bind_some]
          exact fin _ (by rw [show u = 3 by omega])
theorem r_sizeOf {u : Nat} (hu : u < 4) {t : uS} {p : Nat} {cur : List Nat} (h1 : t.F 1160 u = nI p) (hp : p < 3) (hr : pR u t p cur) : fn_X12_sizeOfPart (nI u) t = some (nI cur.length) := by
  unfold fn_X12_sizeOfPart
  unfold pR at hr
  rw [g_1160 hu, Option.bind_some, h1]
  by_cases c : p = 2
  · subst c
    rw [if_pos rfl] at hr
    rw [if_pos (show nI 2 = 2 from rfl), g_1165 hu, Option.bind_some, hr]
  · rw [if_neg c] at hr
    rw [if_neg (by show ¬ nI p = nI 2; rw [nI_eq (by omega) (by omega)]; exact c)]
    simp (disch := omega) only [lit, nI_mul, nI_add, g_1164, Option.bind_some, hr.1]
/-- a byte of a part on both sides -/
theorem s_put {u b : Nat} (hu : u < 4) (hb : b < 256) {s t : uS} {st v d : Nat} {pc : Bool} {w : List Nat} {ps : List (Nat × List Nat)} {bg : Nat} {cur : List Nat} (h : pA (978 + 16 * u) u s t st v d pc) (hw : pW (978 + 16 * u) u s t w) (hd : pD (978 + 16 * u) u s t ps bg cur) (hl : ps.length < 3) (hc : cur.length < 2000) (hr : pR u t ps.length cur) : ∃ s1 t1 : uS, fn_X9_put (978 + 16 * u + 1) (nI b) s = some s1 ∧ fn_X12_partByte (nI u) (nI b) t = some t1 ∧ out (sPl (978 + 16 * u)) (sPl (978 + 16 * u)) s s1 ∧ out rNo (rPl u) t t1 ∧ pA (978 + 16 * u) u s1 t1 st v d pc ∧ pW (978 + 16 * u) u s1 t1 w ∧ pD (978 + 16 * u) u s1 t1 ps bg (cur ++ [b]) ∧ pR u t1 ps.length (cur ++ [b]) ∧ t1.F 1159 u = t.F 1159 u := by
  obtain ⟨k1, k2, k3, k4⟩ := kOk_u hu
  obtain ⟨d1, d2, d3, d4, d5, d6⟩ := hd
  obtain ⟨s1, a1, a2, a3⟩ := tz_put k1 d1 (by omega) hb (show (nI b).toInt8.toInt32 = sb b from rfl)
  obtain ⟨t1, b1, b2, b3, b4, b5, b6, b7⟩ := r_partByte (b := b) hu d4 hl hc hr
  refine ⟨s1, t1, a1, b1, ?_, b2, ?_, ?_, ⟨a3, d2, ?_, ?_, ?_, ?_⟩, b3, by rw [b4 _ (by decide)]⟩
  · rw [a2]; exact out_I (out_F out_r ⟨by omega, by omega⟩) ⟨by omega, by omega⟩
  · unfold pA
    rw [b4 1156 (by decide), b4 1161 (by decide), b4 1162 (by decide), b4 1163 (by decide), a2, wI_r (by omega)]
    exact h
  · exact hw.fr (by rw [a2, wI_r (by omega)]; rfl) (by rw [a2, wI_F, wF_r (by omega)]) (by rw [b4 _ (by decide)]) (b4 _ (by decide))
  · rw [a2, wI_F, wF_r (by omega)]; exact d3
  · rw [b4 1160 (by decide)]; exact d4
  · rw [b5]; exact d5
  · intro p p1 p2
    have := (d3 p p2).2.2
    refine ⟨by rw [b6 p p1 p2]; exact (d6 p p1 p2).1, fun j hj => by rw [b7 p j p1 p2 (by omega)]; exact (d6 p p1 p2).2 j hj⟩
