/-! sessions: all states -/
theorem pE_in {u : Nat} {t : uS} {st v : Nat} {w : List Nat} {ps : List (Nat × List Nat)} {cur : List Nat} (h2 : 2 ≤ st) (h9 : st ≤ 9) (ho : t.F 1159 u = oI (wix w ordW 0)) (hl : ps.length < 3) (hr : pR u t ps.length cur) (h3 : st ≤ 3 → cur.length ≤ 200) (h4 : 3 < st → st ≠ 9 → cur = []) (h5 : st = 9 → cur.length < v ∧ v ≤ 2000) : pE u t st v w ps cur := by
  unfold pE
  rw [if_neg (by omega), if_neg (by omega), if_neg (by omega)]
  refine ⟨ho, hl, hr, ?_⟩
  by_cases c : st ≤ 3
  · rw [if_pos c]; exact h3 c
  · rw [if_neg c]
    by_cases d : st = 9
    · rw [if_pos d]; exact h5 d
    · rw [if_neg d]; exact h4 (by omega) d
theorem pE_out {u : Nat} {t : uS} {st v : Nat} {w : List Nat} {ps : List (Nat × List Nat)} {cur : List Nat} (h2 : 2 ≤ st) (h9 : st ≤ 9) (h : pE u t st v w ps cur) : t.F 1159 u = oI (wix w ordW 0) ∧ ps.length < 3 ∧ pR u t ps.length cur ∧ (st ≤ 3 → cur.length ≤ 200) ∧ (3 < st → st ≠ 9 → cur = []) ∧ (st = 9 → cur.length < v ∧ v ≤ 2000) := by
  unfold pE at h
  rw [if_neg (by omega), if_neg (by omega), if_neg (by omega)] at h
  obtain ⟨a, b, c, d⟩ := h
  refine ⟨a, b, c, ?_, ?_, ?_⟩
  · intro e; rw [if_pos e] at d; exact d
  · intro e f; rw [if_neg (by omega), if_neg f] at d; exact d
  · intro e; rw [if_neg (by omega), if_pos e] at d; exact d
/-- a digit and on -/
theorem s_dgo {u b : Nat} (hu : u < 4) (h1 : 48 ≤ b) (h2 : b ≤ 57) {s t : uS} {st v d : Nat} {pc : Bool} {w : List Nat} {ps : List (Nat × List Nat)} {bg : Nat} (h : pA (978 + 16 * u) u s t st v d pc) (hw : pW (978 + 16 * u) u s t w) (hd : pD (978 + 16 * u) u s t ps bg []) (hl : ps.length < 3) (hr : pR u t ps.length []) (ho : t.F 1159 u = oI (wix w ordW 0)) (h9 : d < 9) {st1 : Nat} (hs : st1 = 4 ∨ st1 = 5) : ∃ s1 t1 : uS, ((fn_X8_addDigit (978 + 16 * u) (nI b) s).bind fun r4 => if r4.2 = true then fn_X8_go (978 + 16 * u) (nI st1) r4.1 else fn_X8_passOver (978 + 16 * u) (nI b) r4.1) = some (s1, 0) ∧ fn_X12_digitIn (nI u) (nI b) (nI (rmd st1)) t = some (t1, true) ∧ pGo u s t s1 t1 := by
  obtain ⟨a1, a2, a3⟩ := s_digit hu h1 h2 h h9 (nI (rmd st1))
  obtain ⟨s1, t1, b1, b2, b3, b4, b5⟩ := pS_go hu (pA_dig h (by omega) a3) (pW_dig hw) (pD_dig hd) (st1 := st1) (by omega) (pE_in (by omega) (by omega) (by rw [wF_o (by omega), wF_o (by omega)]; exact ho) hl (pR_dig hr) (by omega) (fun _ _ => rfl) (by omega))
  refine ⟨s1, t1, ?_, ?_, out_t out_dig b3, out_t outr_dig b4, b5⟩
  · rw [a1, Option.bind_some, if_pos rfl]; exact b1
  · rw [a2]; exact b2
/-- state 4: a number -/
theorem s_number {u b : Nat} (hu : u < 4) (hb : b < 256) {s t : uS} {st v d : Nat} {pc : Bool} {w : List Nat} {ps : List (Nat × List Nat)} {bg : Nat} (h : pA (978 + 16 * u) u s t st v d pc) (hw : pW (978 + 16 * u) u s t w) (hd : pD (978 + 16 * u) u s t ps bg []) (hl : ps.length < 3) (hr : pR u t ps.length []) (ho : t.F 1159 u = oI (wix w ordW 0)) : ∃ s1 t1 : uS, fn_X8_inNumber (978 + 16 * u) (nI b) s = some (s1, 0) ∧ fn_X12_numberIn (nI u) (nI b) t = some (t1, true) ∧ pGo u s t s1 t1 := by
  unfold fn_X8_inNumber fn_X12_numberIn
  rw [c_digit, r_digit, Option.bind_some, Option.bind_some, iDig_n hb, g_1162 hu, Option.bind_some, h.2.2.2.2.2.2.1]
  simp only [bind_id]
  by_cases c : 48 ≤ b ∧ b ≤ 57
  · rw [decide_eq_true c, if_pos rfl, if_pos rfl]
    by_cases e : d < 9
    · rw [if_neg (show ¬ (9 : Int32) ≤ nI d from nI_ge e (by decide))]
      exact s_dgo hu c.1 c.2 h hw hd hl hr ho e (Or.inl rfl)
    · have h9 : d = 9 := by have := h.2.2.2.2.2.2.2.1; omega
      rw [if_pos (show (9 : Int32) ≤ nI d from nI_le (show 9 ≤ d by omega) (by omega))]
      unfold fn_X8_addDigit
      rw [h.2.2.2.2.2.1, h9, if_pos (show nI 9 = 9 from rfl), Option.bind_some, if_neg (show ¬ (false = true) by decide)]
      exact pS_pass hu h b
  · rw [decide_eq_false c, if_neg (by decide), if_neg (by decide)]
    obtain ⟨s1, a1, a2, a3, a4, a5⟩ := s_close (kd := 3) hu hd hl (Or.inr ⟨rfl, rfl⟩) (Nat.zero_le _) hr
    rw [show (3 : Int32) = nI 3 from rfl, a1, Option.bind_some, g_1166 hu, Option.bind_some, g_1160 hu, Option.bind_some, hd.2.2.2.2.1, hd.2.2.2.1, nums_or hl (nums_lt ps), p_1166 hu, Option.bind_some, g_1160 hu, Option.bind_some, wF_o (by omega), hd.2.2.2.1, nI_1, p_1160 hu, Option.bind_some]
    have hn : nums (ps ++ [(3, [])]) = nums ps + 2 ^ ps.length := by rw [nums_app]; exact congrArg _ (if_pos rfl)
    have k1 : pA (978 + 16 * u) u (wI s1 (978 + 16 * u) 5 (nI 10)) (wF (wF t 1166 u (nI (nums ps + 2 ^ ps.length))) 1160 u (nI (ps.length + 1))) st v d pc ∨ True := Or.inr trivial
    have q1 : pA (978 + 16 * u) u s1 (wF (wF t 1166 u (nI (nums ps + 2 ^ ps.length))) 1160 u (nI (ps.length + 1))) st v d pc := by
      unfold pA
      rw [a3, wF_r (show 1156 ≠ 1160 by decide), wF_r (show 1161 ≠ 1160 by decide), wF_r (show 1162 ≠ 1160 by decide), wF_r (show 1163 ≠ 1160 by decide), wF_r (show 1156 ≠ 1166 by decide), wF_r (show 1161 ≠ 1166 by decide), wF_r (show 1162 ≠ 1166 by decide), wF_r (show 1163 ≠ 1166 by decide)]
      exact h
    have q2 : pW (978 + 16 * u) u s1 (wF (wF t 1166 u (nI (nums ps + 2 ^ ps.length))) 1160 u (nI (ps.length + 1))) w := hw.fr (by rw [a3]) a4 ((wF_o (by omega)).trans (wF_o (by omega))) ((wF_r (by omega)).trans (wF_r (by omega)))
    have q3 := a5 (wF (wF t 1166 u (nI (nums ps + 2 ^ ps.length))) 1160 u (nI (ps.length + 1))) (wF_e _ _ _ _) (by rw [wF_o (by omega), wF_e, hn]) ((wF_r (by omega)).trans (wF_r (by omega))) ((wF_r (by omega)).trans (wF_r (by omega)))
    have q4 : (wF (wF t 1166 u (nI (nums ps + 2 ^ ps.length))) 1160 u (nI (ps.length + 1))).F 1159 u = oI (wix w ordW 0) := ((wF_o (by omega)).trans (wF_o (by omega))).trans ho
    -- the class's state 10 is written over by what follows; the reference has its own
    have hgo : ∀ (st1 : Nat), fn_X8_go (978 + 16 * u) (nI st1) (wI s1 (978 + 16 * u) 5 (nI 10)) = fn_X8_go (978 + 16 * u) (nI st1) s1 ∨ True := fun _ => Or.inr trivial
    have r1 : pA (978 + 16 * u) u (wI s1 (978 + 16 * u) 5 (nI 10)) (wF (wF (wF t 1166 u (nI (nums ps + 2 ^ ps.length))) 1160 u (nI (ps.length + 1))) 1156 u (nI (rmd 10))) 10 v d pc := pA_go q1 (by decide)
    have r2 : pW (978 + 16 * u) u (wI s1 (978 + 16 * u) 5 (nI 10)) (wF (wF (wF t 1166 u (nI (nums ps + 2 ^ ps.length))) 1160 u (nI (ps.length + 1))) 1156 u (nI (rmd 10))) w := q2.fr (wI_o (by omega)) rfl (wF_o (by omega)) (wF_r (by omega))
    have r3 : pD (978 + 16 * u) u (wI s1 (978 + 16 * u) 5 (nI 10)) (wF (wF (wF t 1166 u (nI (nums ps + 2 ^ ps.length))) 1160 u (nI (ps.length + 1))) 1156 u (nI (rmd 10))) (ps ++ [(3, [])]) (bg + [].length) [] := q3.fr (wI_r (by omega)) rfl rfl rfl rfl (wF_o (by omega)) (wF_o (by omega)) (fun p _ _ => wF_o (by omega)) (fun p j _ _ _ => wF_o (by omega))
    obtain ⟨s2, t2, e1, e2, e3⟩ := s_partEnd hu hb r1 r2 r3 (by rw [wF_o (by omega)]; exact q4)
    have hb2 : fn_X12_behindIn (nI u) (nI b) (wF (wF (wF t 1166 u (nI (nums ps + 2 ^ ps.length))) 1160 u (nI (ps.length + 1))) 1156 u (nI (rmd 10))) = fn_X12_behindIn (nI u) (nI b) (wF (wF t 1166 u (nI (nums ps + 2 ^ ps.length))) 1160 u (nI (ps.length + 1))) := by
      have ww : ∀ (t : uS) (x y : Int32), wF (wF t 1156 u x) 1156 u y = wF t 1156 u y := by
        intro t x y
        have : uw2 (uw2 t.F 1156 u x) 1156 u y = uw2 t.F 1156 u y := by
          funext a b
          unfold uw2
          split
          · rfl
          · rfl
        show (_, _, _, uw2 (uw2 t.F 1156 u x) 1156 u y, _, _, _, _) = _
        rw [this]
        rfl
      unfold fn_X12_behindIn fb_X12_behindIn_23
      simp only [g_1160 hu, Option.bind_some, bind_id, r_go hu, r_pass hu, ww, wF_o (show ¬ (1160 = 1156 ∧ u = u) by omega)]
    rw [hb2] at e2
    refine ⟨s2, t2, e1, e2, out_t (out_I a2 ⟨by omega, by omega⟩) e3.1, ?_, e3.2.2⟩
    exact out_t (out_F (out_F (out_F out_r (by unfold rPl; omega)) (by unfold rPl; omega)) (by unfold rPl; omega)) e3.2.1
/-- state 1: a part begins -/
theorem s_begin {u b : Nat} (hu : u < 4) (hb : b < 256) {s t : uS} {st v d : Nat} {pc : Bool} {w : List Nat} {ps : List (Nat × List Nat)} {bg : Nat} (h : pA (978 + 16 * u) u s t st v d pc) (hw : pW (978 + 16 * u) u s t w) (hd : pD (978 + 16 * u) u s t ps bg []) (hl : ps.length < 3) (ho : t.F 1159 u = oI (wix w ordW 0)) : ∃ s1 t1 : uS, fn_X8_partStart (978 + 16 * u) (nI b) s = some (s1, 0) ∧ fn_X12_beginIn (nI u) (nI b) t = some (t1, true) ∧ pGo u s t s1 t1 := by
  have key : ∀ t0 : uS, out rNo (rPl u) t t0 → pA (978 + 16 * u) u s t0 st v d pc → pW (978 + 16 * u) u s t0 w → pD (978 + 16 * u) u s t0 ps bg [] → pR u t0 ps.length [] → t0.F 1159 u = oI (wix w ordW 0) → ∃ s1 t1 : uS, fn_X8_partStart (978 + 16 * u) (nI b) s = some (s1, 0) ∧ fb_X12_beginIn_36 (nI u) (nI b) t0 = some (t1, true) ∧ pGo u s t s1 t1 := by
    intro t0 o0 h0 w0 d0 r0 ho0
    have h1 := pA_dig h0 (v1 := 0) (d1 := 0) (by decide) (by decide)
    have w1 := pW_dig (x := nI 0) (y := nI 0) (x' := nI 0) (y' := nI 0) w0
    have d1 := pD_dig (x := nI 0) (y := nI 0) (x' := nI 0) (y' := nI 0) d0
    have r1 := pR_dig (x := nI 0) (y := nI 0) r0
    have o1 : (wF (wF t0 1161 u (nI 0)) 1162 u (nI 0)).F 1159 u = oI (wix w ordW 0) := ((wF_o (by omega)).trans (wF_o (by omega))).trans ho0
    have fin : ∀ s1 t1 : uS, pGo u (wI (wI s (978 + 16 * u) 1 (nI 0)) (978 + 16 * u) 6 (nI 0)) (wF (wF t0 1161 u (nI 0)) 1162 u (nI 0)) s1 t1 → pGo u s t s1 t1 := fun s1 t1 g => ⟨out_t out_dig g.1, out_t (out_t o0 outr_dig) g.2.1, g.2.2⟩
    unfold fn_X8_partStart fb_X12_beginIn_36
    simp (disch := omega) only [lit, p_1161, p_1162, unar_20, Option.bind_some, bind_id, c_digit, r_digit, iDig_n hb, nI_eq]
    by_cases c : b = 34
    · rw [if_pos c, decide_eq_false (by omega), if_neg (by decide), if_pos c]
      obtain ⟨s1, t1, a1, a2, a3⟩ := pS_go hu h1 w1 d1 (st1 := 2) (by decide) (pE_in (by decide) (by decide) o1 hl r1 (fun _ => by show 0 ≤ 200; decide) (fun _ _ => rfl) (by decide))
      exact ⟨s1, t1, a1, a2, fin _ _ a3⟩
    · rw [if_neg c]
      by_cases e : b = 123
      · rw [if_pos e, decide_eq_false (by omega), if_neg (by decide), if_neg c, if_pos e]
        obtain ⟨s1, t1, a1, a2, a3⟩ := pS_go hu h1 w1 d1 (st1 := 5) (by decide) (pE_in (by decide) (by decide) o1 hl r1 (fun _ => by show 0 ≤ 200; decide) (fun _ _ => rfl) (by decide))
        exact ⟨s1, t1, a1, a2, fin _ _ a3⟩
      · rw [if_neg e]
        by_cases f : 48 ≤ b ∧ b ≤ 57
        · rw [decide_eq_true f, if_pos rfl, if_pos rfl]
          obtain ⟨s1, t1, a1, a2, a3⟩ := s_dgo hu f.1 f.2 h1 w1 d1 hl r1 o1 (by decide) (st1 := 4) (Or.inl rfl)
          refine ⟨s1, t1, ?_, a2, fin _ _ a3⟩
          unfold fn_X8_inNumber
          rw [c_digit, Option.bind_some, iDig_n hb, decide_eq_true f, if_pos rfl]
          simp only [bind_id]
          exact a1
        · rw [decide_eq_false f, if_neg (by decide), if_neg (by decide), if_neg c, if_neg e]
          obtain ⟨s1, t1, a1, a2, a3⟩ := pS_pass hu h1 b
          exact ⟨s1, t1, a1, a2, fin _ _ a3⟩
  unfold fn_X12_beginIn
  rw [g_1160 hu, Option.bind_some, hd.2.2.2.1]
  by_cases c : 2 ≤ ps.length
  · rw [if_pos (show (2 : Int32) ≤ nI ps.length from nI_le c (by omega)), p_1165 hu, Option.bind_some]
    refine key _ (out_F out_r (by unfold rPl; omega)) ?_ ?_ ?_ ?_ ?_
    · unfold pA
      rw [wF_r (show 1156 ≠ 1165 by decide), wF_r (show 1161 ≠ 1165 by decide), wF_r (show 1162 ≠ 1165 by decide), wF_r (show 1163 ≠ 1165 by decide)]
      exact h
    · exact hw.fr rfl rfl (wF_o (by omega)) (wF_r (by omega))
    · exact hd.fr rfl rfl rfl rfl rfl (wF_o (by omega)) (wF_o (by omega)) (fun p _ _ => wF_o (by omega)) (fun p j _ _ _ => wF_o (by omega))
    · unfold pR
      rw [if_pos (by omega), wF_e]; rfl
    · rw [wF_o (by omega)]; exact ho
  · rw [if_neg (show ¬ (2 : Int32) ≤ nI ps.length from nI_ge (show ps.length < 2 by omega) (by decide)), Option.bind_some]
    simp (disch := omega) only [lit, nI_mul, nI_add, p_1164, unar_20, Option.bind_some]
    refine key _ (out_F out_r (by unfold rPl; omega)) ?_ ?_ ?_ ?_ ?_
    · unfold pA
      rw [wF_r (show 1156 ≠ 1164 by decide), wF_r (show 1161 ≠ 1164 by decide), wF_r (show 1162 ≠ 1164 by decide), wF_r (show 1163 ≠ 1164 by decide)]
      exact h
    · exact hw.fr rfl rfl (wF_o (by omega)) (wF_r (by omega))
    · exact hd.fr rfl rfl rfl rfl rfl (wF_o (by omega)) (wF_o (by omega)) (fun p _ _ => wF_o (by omega)) (fun p j _ _ _ => wF_o (by omega))
    · unfold pR
      rw [if_neg (by omega), wF_e]
      exact ⟨rfl, fun j hj => absurd hj (Nat.not_lt_zero j)⟩
    · rw [wF_o (by omega)]; exact ho
/-- states 2, 3: quoted -/
theorem s_quoted {u b : Nat} (hu : u < 4) (hb : b < 256) {s t : uS} {st v d : Nat} {pc : Bool} {w : List Nat} {ps : List (Nat × List Nat)} {bg : Nat} {cur : List Nat} (hst : st = 2 ∨ st = 3) (h : pA (978 + 16 * u) u s t st v d pc) (hw : pW (978 + 16 * u) u s t w) (hd : pD (978 + 16 * u) u s t ps bg cur) (he : pE u t st v w ps cur) : ∃ s1 t1 : uS, fn_X8_inQuotes (978 + 16 * u) (nI b) s = some (s1, 0) ∧ fn_X12_quotedIn (nI u) (nI b) t = some (t1, true) ∧ pGo u s t s1 t1 := by
  obtain ⟨ho, hl, hr, h200, -, -⟩ := pE_out (by omega) (by omega) he
  have hcl := h200 (by omega)
  have hst5 := h.2.1
  have hmo : t.F 1156 u = nI (st + 1) := by rw [h.2.2.1]; rcases hst with e | e <;> rw [e] <;> rfl
  have h5 : s.I (978 + 16 * u + 1) 5 - s.I (978 + 16 * u + 1) 4 = nI cur.length := by rw [hd.1.2.2.1, hd.1.2.2.2.1, nI_sub (by omega), Nat.add_sub_cancel_left]
  have put : ∃ s1 t1 : uS, fb_X8_inQuotes_58 (978 + 16 * u) (nI b) s = some (s1, 0) ∧ fb_X12_quotedIn_68 (nI u) (nI b) t = some (t1, true) ∧ pGo u s t s1 t1 := by
    unfold fb_X8_inQuotes_58 fb_X12_quotedIn_68
    rw [h5, r_sizeOf hu hd.2.2.2.1 hl hr, Option.bind_some]
    simp (disch := omega) only [lit, nI_eq, bind_id]
    by_cases c : cur.length = 200
    · rw [if_pos c, if_pos c]; exact pS_pass hu h b
    · rw [if_neg c, if_neg c]
      obtain ⟨s1, t1, a1, a2, a3, a4, a5, a6, a7, a8, a9⟩ := s_put hu hb h hw hd hl (by omega) hr
      obtain ⟨s2, t2, b1, b2, b3⟩ := pS_go hu a5 a6 a7 (st1 := 2) (by decide) (pE_in (by decide) (by decide) (by rw [a9]; exact ho) hl a8 (fun _ => by rw [List.length_append]; show cur.length + 1 ≤ 200; omega) (by omega) (by omega))
      refine ⟨s2, t2, ?_, ?_, out_t a3 b3.1, out_t a4 b3.2.1, b3.2.2⟩
      · rw [a1, Option.bind_some]; exact b1
      · rw [a2, Option.bind_some]; exact b2
  unfold fn_X8_inQuotes fb_X8_inQuotes_12 fb_X8_inQuotes_38 fn_X12_quotedIn fb_X12_quotedIn_15 fb_X12_quotedIn_32 fb_X12_quotedIn_44
  rw [g_1156 hu, Option.bind_some, hmo, hst5]
  simp (disch := omega) only [lit, nI_eq, bind_id]
  rcases hst with e | e
  · subst e
    by_cases c13 : b = 13
    · subst c13; simp only [Nat.reduceAdd, Nat.reduceEqDiff, ↓reduceIte]; exact pS_pass hu h 13
    · by_cases c10 : b = 10
      · subst c10; simp only [Nat.reduceAdd, Nat.reduceEqDiff, ↓reduceIte]; exact pS_pass hu h 10
      · by_cases c34 : b = 34
        · subst c34; simp only [Nat.reduceAdd, Nat.reduceEqDiff, ↓reduceIte, Bool.false_eq_true]
          exact s_done hu h hw hd hl (by omega) hr ho
        · by_cases c92 : b = 92
          · subst c92; simp only [Nat.reduceAdd, Nat.reduceEqDiff, ↓reduceIte, Bool.false_eq_true]
            exact pS_go hu h hw hd (st1 := 3) (by decide) (pE_in (by decide) (by decide) ho hl hr (fun _ => hcl) (by omega) (by omega))
          · simp only [Nat.reduceAdd, Nat.reduceEqDiff, ↓reduceIte, c13, c10, c34, c92]; exact put
  · subst e
    by_cases c13 : b = 13
    · subst c13; simp only [Nat.reduceAdd, Nat.reduceEqDiff, ↓reduceIte]; exact pS_pass hu h 13
    · by_cases c10 : b = 10
      · subst c10; simp only [Nat.reduceAdd, Nat.reduceEqDiff, ↓reduceIte]; exact pS_pass hu h 10
      · simp only [Nat.reduceAdd, Nat.reduceEqDiff, ↓reduceIte, c13, c10, ite_self]; exact put
