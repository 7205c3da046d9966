/-! sessions: the step -/
/-- states 5 to 8: ahead of a literal -/
theorem s_ahead {u b : Nat} (hu : u < 4) (hb : b < 256) {s t : uS} {st v d : Nat} {pc : Bool} {w : List Nat} {ps : List (Nat × List Nat)} {bg : Nat} {cur : List Nat} (hst : st = 5 ∨ st = 6 ∨ st = 7 ∨ st = 8) (h : pA (978 + 16 * u) u s t st v d pc) (hw : pW (978 + 16 * u) u s t w) (hd : pD (978 + 16 * u) u s t ps bg cur) (he : pE u t st v w ps cur) : pStep u b s t := by
  obtain ⟨ho, hl, hr, -, hcn, -⟩ := pE_out (by omega) (by omega) he
  have hc := hcn (by omega) (by omega)
  subst hc
  have hv := h.v
  have h5 := h.2.1
  have hm : t.F 1156 u = nI st := by rw [h.2.2.1]; rcases hst with e | e | e | e <;> rw [e] <;> rfl
  have hd6 := h.2.2.2.2.2.1
  have h9 := h.2.2.2.2.2.2.2.1
  have hn := h.2.2.2.1
  have hn' := h.2.2.2.2.1
  have hd6' := h.2.2.2.2.2.2.1
  have pass : (∃ s1 t1 : uS, fn_X8_passOver (978 + 16 * u) (nI b) s = some (s1, 0) ∧ fn_X12_pass (nI u) (nI b) t = some (t1, true) ∧ pGo u s t s1 t1) := pS_pass hu h b
  unfold pStep fn_X8_take fn_X12_manageIn fn_X8_aheadOfLiteral fb_X8_aheadOfLiteral_33 fb_X8_aheadOfLiteral_61 fb_X8_aheadOfLiteral_83 fb_X8_aheadOfLiteral_105 fb_X8_aheadOfLiteral_120
  rw [g_1156 hu, Option.bind_some, hm, h5, hd6, hn]
  rcases hst with e | e | e | e
  · subst e
    simp (disch := omega) only [↓reduceIte, lit, nI_eq, Nat.reduceEqDiff, bind_id, c_digit, iDig_n hb, Option.bind_some, nI_leI]
    unfold fn_X12_countIn fb_X12_countIn_60
    simp (disch := omega) only [lit, bind_id, r_digit, iDig_n hb, Option.bind_some, g_1162, hd6', nI_leI, nI_eq]
    refine Or.inl ?_
    by_cases c : 48 ≤ b ∧ b ≤ 57
    · rw [decide_eq_true c, if_pos rfl, if_pos rfl]
      by_cases e : d < 9
      · rw [if_neg (show ¬ 9 ≤ d by omega)]
        obtain ⟨s1, t1, a1, a2, a3⟩ := s_dgo hu c.1 c.2 h hw hd hl hr ho e (st1 := 5) (Or.inr rfl)
        refine ⟨_, t1, ?_, a2, a3⟩
        obtain ⟨b1, b2, b3⟩ := s_digit hu c.1 c.2 h e (nI 5)
        rw [b1, Option.bind_some, if_pos rfl] at a1 ⊢
        rw [c_go] at a1
        have : wI (wI (wI s (978 + 16 * u) 1 (nI (10 * v + b - 48))) (978 + 16 * u) 6 (nI (d + 1))) (978 + 16 * u) 5 (nI 5) = wI (wI s (978 + 16 * u) 1 (nI (10 * v + b - 48))) (978 + 16 * u) 6 (nI (d + 1)) := by
          have : uw2 (wI (wI s (978 + 16 * u) 1 (nI (10 * v + b - 48))) (978 + 16 * u) 6 (nI (d + 1))).I (978 + 16 * u) 5 (nI 5) = (wI (wI s (978 + 16 * u) 1 (nI (10 * v + b - 48))) (978 + 16 * u) 6 (nI (d + 1))).I := by
            funext a c
            unfold uw2
            split
            · rename_i hh
              rw [hh.1, hh.2, wI_o (by omega), wI_o (by omega), h5]
            · rfl
          show (_, uw2 _ _ _ _, _) = _
          rw [this]
          rfl
        rw [this] at a1
        exact a1
      · have h9 : d = 9 := by omega
        rw [if_pos (show 9 ≤ d by omega)]
        unfold fn_X8_addDigit
        rw [hd6, h9, if_pos (show nI 9 = 9 from rfl), Option.bind_some, if_neg (show ¬ (false = true) by decide)]
        exact pass
    · rw [decide_eq_false c]
      simp only [Bool.false_eq_true, ↓reduceIte]
      by_cases c43 : b = 43
      · rw [if_pos c43, if_pos c43]
        by_cases e : d ≤ 0
        · rw [if_pos e, if_pos e]; exact pass
        · rw [if_neg e, if_neg e]
          exact pS_go hu h hw hd (st1 := 6) (by decide) (pE_in (by decide) (by decide) ho hl hr (by omega) (fun _ _ => rfl) (by omega))
      · rw [if_neg c43, if_neg c43]; exact pass
  · subst e
    simp (disch := omega) only [↓reduceIte, lit, nI_eq, Nat.reduceEqDiff, bind_id]
    refine Or.inl ?_
    by_cases c : b = 125
    · rw [if_pos c, if_pos c]
      exact pS_go hu h hw hd (st1 := 7) (by decide) (pE_in (by decide) (by decide) ho hl hr (by omega) (fun _ _ => rfl) (by omega))
    · rw [if_neg c, if_neg c]; exact pass
  · subst e
    simp (disch := omega) only [↓reduceIte, lit, nI_eq, Nat.reduceEqDiff, bind_id]
    refine Or.inl ?_
    by_cases c : b = 13
    · rw [if_pos c, if_pos c]
      exact pS_go hu h hw hd (st1 := 8) (by decide) (pE_in (by decide) (by decide) ho hl hr (by omega) (fun _ _ => rfl) (by omega))
    · rw [if_neg c, if_neg c]; exact pass
  · subst e
    simp (disch := omega) only [↓reduceIte, lit, nI_eq, Nat.reduceEqDiff, bind_id, g_1161, hn', Option.bind_some, nI_leI]
    by_cases c : b = 10
    · simp only [if_pos c]
      by_cases e : v ≤ 2000
      · simp only [if_pos e]
        refine Or.inl ?_
        by_cases f : v = 0
        · simp only [if_pos f]
          exact s_done hu h hw hd hl (by show 0 ≤ 2000; decide) hr ho
        · simp only [if_neg f]
          exact pS_go hu h hw hd (st1 := 9) (by decide) (pE_in (by decide) (by decide) ho hl hr (by omega) (by omega) (fun _ => ⟨by show 0 < v; omega, e⟩))
      · simp only [if_neg e]
        exact Or.inr (Or.inr ⟨by trivial, by trivial, 8, v, d, pc, h⟩)
    · simp only [if_neg c]
      exact Or.inl pass
theorem s_step {u b : Nat} (hu : u < 4) (hb : b < 256) {s t : uS} (h : pS u s t) : pStep u b s t := by
  obtain ⟨st, v, d, pc, h, h2⟩ := h
  have h5 := h.2.1
  have hm := h.2.2.1
  have h12 := h.1
  have take0 : ∀ {s1 t1 : uS}, st ≠ 11 → st ≠ 12 → True → True := fun _ _ h => h
  by_cases c12 : st = 12
  · subst c12
    unfold pStep fn_X8_take fn_X12_manageIn fn_X8_passingOver fb_X8_passingOver_15 fb_X12_manageIn_277
    rw [g_1156 hu, Option.bind_some, hm, h5, show rmd 12 = 12 from rfl]
    simp (disch := omega) only [↓reduceIte, lit, nI_eq, Nat.reduceEqDiff, bind_id, g_1163, Option.bind_some, p_1163, h.2.2.2.2.2.2.2.2.2.1, h.2.2.2.2.2.2.2.2.2.2]
    have fin : ∀ q : Bool, pGo u s t (wI s (978 + 16 * u) 7 (bI q)) (wF t 1163 u (bI q)) := by
      intro q
      refine ⟨out_I out_r ⟨by omega, by omega⟩, out_F out_r (by unfold rPl; omega), 12, v, d, q, ?_, Or.inl rfl⟩
      obtain ⟨a1, a2, a3, a4, a5, a6, a7, a8, a9, a10, a11⟩ := h
      refine ⟨a1, ?_, ?_, ?_, ?_, ?_, ?_, a8, a9, wI_e _ _ _ _, wF_e _ _ _ _⟩
      · rw [wI_o (by omega)]; exact a2
      · rw [wF_o (by omega)]; exact a3
      · rw [wI_o (by omega)]; exact a4
      · rw [wF_o (by omega)]; exact a5
      · rw [wI_o (by omega)]; exact a6
      · rw [wF_o (by omega)]; exact a7
    by_cases c : b = 10
    · subst c
      simp only [↓reduceIte, Nat.reduceEqDiff]
      cases pc with
      | true =>
        refine Or.inr (Or.inr ⟨?_, ?_, 12, v, d, true, h⟩)
        · exact if_neg (by decide)
        · exact if_neg (by decide)
      | false =>
        refine Or.inl ⟨_, _, ?_, ?_, fin false⟩
        · exact if_pos (by decide)
        · exact if_pos (by decide)
    · simp only [if_neg c]
      by_cases e : b = 13
      · simp only [if_pos e]
        exact Or.inl ⟨_, _, rfl, rfl, fin true⟩
      · simp only [if_neg e]
        exact Or.inl ⟨_, _, rfl, rfl, fin false⟩
  · rcases h2 with h2 | ⟨w, ps, bg, cur, hw, hd, he⟩
    · exact absurd h2 c12
    · have hcase : st = 0 ∨ st = 1 ∨ (st = 2 ∨ st = 3) ∨ st = 4 ∨ (st = 5 ∨ st = 6 ∨ st = 7 ∨ st = 8) ∨ st = 9 ∨ st = 10 ∨ st = 11 := by omega
      rcases hcase with e | e | e | e | e | e | e | e
      · subst e
        obtain ⟨e1, e2⟩ : ps = [] ∧ cur = [] := by unfold pE at he; rw [if_pos rfl] at he; exact he
        subst e1; subst e2
        refine Or.inl ?_
        unfold fn_X8_take fn_X12_manageIn
        rw [g_1156 hu, Option.bind_some, hm, h5, show rmd 0 = 0 from rfl]
        simp (disch := omega) only [↓reduceIte, lit, nI_eq, Nat.reduceEqDiff, bind_id]
        exact s_word hu hb h hw hd
      · subst e
        obtain ⟨ho, hl, e2⟩ : t.F 1159 u = oI (wix w ordW 0) ∧ ps.length < 3 ∧ cur = [] := by unfold pE at he; rw [if_neg (by decide), if_pos rfl] at he; exact he
        subst e2
        refine Or.inl ?_
        unfold fn_X8_take fn_X12_manageIn
        rw [g_1156 hu, Option.bind_some, hm, h5, show rmd 1 = 2 from rfl]
        simp (disch := omega) only [↓reduceIte, lit, nI_eq, Nat.reduceEqDiff, bind_id]
        exact s_begin hu hb h hw hd hl ho
      · refine Or.inl ?_
        have q := s_quoted hu hb e h hw hd he
        unfold fn_X8_take fn_X12_manageIn
        rw [g_1156 hu, Option.bind_some, hm, h5]
        rcases e with e | e
        · subst e
          rw [show rmd 2 = 3 from rfl]
          simp (disch := omega) only [↓reduceIte, lit, nI_eq, Nat.reduceEqDiff, bind_id]
          exact q
        · subst e
          rw [show rmd 3 = 4 from rfl]
          simp (disch := omega) only [↓reduceIte, lit, nI_eq, Nat.reduceEqDiff, bind_id]
          exact q
      · subst e
        obtain ⟨ho, hl, hr, -, hcn, -⟩ := pE_out (by decide) (by decide) he
        have hc := hcn (by decide) (by decide)
        subst hc
        refine Or.inl ?_
        unfold fn_X8_take fn_X12_manageIn
        rw [g_1156 hu, Option.bind_some, hm, h5, show rmd 4 = 10 from rfl]
        simp (disch := omega) only [↓reduceIte, lit, nI_eq, Nat.reduceEqDiff, bind_id]
        exact s_number hu hb h hw hd hl hr ho
      · exact s_ahead hu hb e h hw hd he
      · subst e
        obtain ⟨ho, hl, hr, -, -, h9⟩ := pE_out (by decide) (by decide) he
        obtain ⟨hcv, hv2⟩ := h9 rfl
        refine Or.inl ?_
        unfold fn_X8_take fn_X12_manageIn fn_X8_inLiteral fn_X12_literalIn
        rw [g_1156 hu, Option.bind_some, hm, h5, show rmd 9 = 9 from rfl]
        simp (disch := omega) only [↓reduceIte, lit, nI_eq, Nat.reduceEqDiff, bind_id]
        obtain ⟨s1, t1, a1, a2, a3, a4, a5, a6, a7, a8, a9⟩ := s_put hu hb h hw hd hl (by omega) hr
        have hl5 : s1.I (978 + 16 * u + 1) 5 - s1.I (978 + 16 * u + 1) 4 = nI (cur.length + 1) := by rw [a7.1.2.2.1, a7.1.2.2.2.1, nI_sub (by omega), Nat.add_sub_cancel_left, List.length_append]; rfl
        rw [a1, a2, Option.bind_some, Option.bind_some, hl5, a5.2.2.2.1, r_sizeOf hu a7.2.2.2.1 hl a8, Option.bind_some, g_1161 hu, Option.bind_some, a5.2.2.2.2.1]
        rw [show (cur ++ [b]).length = cur.length + 1 by rw [List.length_append]; rfl]
        simp (disch := omega) only [nI_ltJ, nI_eq]
        by_cases c : cur.length + 1 < v
        · rw [if_pos c, if_neg (by omega)]
          refine ⟨s1, t1, rfl, rfl, a3, a4, 9, v, d, pc, a5, Or.inr ⟨w, ps, bg, cur ++ [b], a6, a7, pE_in (by decide) (by decide) (by rw [a9]; exact ho) hl a8 (by omega) (by omega) (fun _ => ⟨by rw [List.length_append]; exact c, hv2⟩)⟩⟩
        · rw [if_neg c, if_pos (by omega)]
          obtain ⟨s2, t2, b1, b2, b3⟩ := s_done hu a5 a6 a7 hl (by rw [List.length_append]; show cur.length + 1 ≤ 2000; omega) a8 (by rw [a9]; exact ho)
          exact ⟨s2, t2, b1, b2, out_t a3 b3.1, out_t a4 b3.2.1, b3.2.2⟩
      · subst e
        obtain ⟨ho, e2⟩ : t.F 1159 u = oI (wix w ordW 0) ∧ cur = [] := by unfold pE at he; rw [if_neg (by decide), if_neg (by decide), if_pos (Or.inl rfl)] at he; exact he
        subst e2
        refine Or.inl ?_
        unfold fn_X8_take fn_X12_manageIn
        rw [g_1156 hu, Option.bind_some, hm, h5, show rmd 10 = 1 from rfl]
        simp (disch := omega) only [↓reduceIte, lit, nI_eq, Nat.reduceEqDiff, bind_id]
        exact s_partEnd hu hb h hw hd ho
      · subst e
        obtain ⟨ho, e2⟩ : t.F 1159 u = oI (wix w ordW 0) ∧ cur = [] := by unfold pE at he; rw [if_neg (by decide), if_neg (by decide), if_pos (Or.inr rfl)] at he; exact he
        subst e2
        unfold pStep fn_X8_take fn_X12_manageIn
        rw [g_1156 hu, Option.bind_some, hm, h5, show rmd 11 = 11 from rfl]
        simp (disch := omega) only [↓reduceIte, lit, nI_eq, Nat.reduceEqDiff, bind_id]
        by_cases c : b = 10
        · simp only [if_pos c]
          exact Or.inr (Or.inl ⟨by trivial, by trivial, v, d, pc, w, ps, bg, h, hw, hd, ho⟩)
        · simp only [if_neg c]
          exact Or.inl (pS_pass hu h b)
