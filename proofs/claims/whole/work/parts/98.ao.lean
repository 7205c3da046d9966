/-! a byte of a session: each state of the class beside the reference's mode -/
theorem wF_r {s : uS} {k f a : Nat} {v : Int32} (h : a ≠ k) : (wF s k f v).F a = s.F a := funext fun _ => wF_o (fun e => h e.1)
theorem wI_r {s : uS} {k f a : Nat} {v : Int32} (h : a ≠ k) : (wI s k f v).I a = s.I a := funext fun _ => wI_o (fun e => h e.1)
theorem pE.fr {u : Nat} {t t1 : uS} {st v : Nat} {w : List Nat} {ps : List (Nat × List Nat)} {cur : List Nat} (h : pE u t st v w ps cur) (g0 : t1.F 1159 u = t.F 1159 u) (g1 : t1.F 1165 u = t.F 1165 u) (g3 : t1.F 1164 = t.F 1164) (g4 : t1.F (1167 + u) = t.F (1167 + u)) : pE u t1 st v w ps cur := by
  unfold pE pR at *
  rw [g0, g1, g3, g4]
  exact h
theorem pS_go {u : Nat} (hu : u < 4) {s t : uS} {st v d : Nat} {pc : Bool} {w : List Nat} {ps : List (Nat × List Nat)} {bg : Nat} {cur : List Nat} (h : pA (978 + 16 * u) u s t st v d pc) (hw : pW (978 + 16 * u) u s t w) (hd : pD (978 + 16 * u) u s t ps bg cur) {st1 : Nat} (h1 : st1 ≤ 12) (he : pE u t st1 v w ps cur) : ∃ s1 t1 : uS, fn_X8_go (978 + 16 * u) (nI st1) s = some (s1, 0) ∧ fn_X12_go (nI u) (nI (rmd st1)) t = some (t1, true) ∧ pGo u s t s1 t1 := by
  refine ⟨_, _, c_go _ _ _, r_go hu _, out_I out_r ⟨by omega, by omega⟩, out_F out_r (by unfold rPl; omega), st1, v, d, pc, pA_go h h1, Or.inr ⟨w, ps, bg, cur, ?_, ?_, ?_⟩⟩
  · exact hw.fr (wI_o (by omega)) rfl (wF_o (by omega)) (wF_r (by omega))
  · exact hd.fr (wI_r (by omega)) rfl rfl rfl rfl (wF_o (by omega)) (wF_o (by omega)) (fun p _ _ => wF_o (by omega)) (fun p j _ _ _ => wF_o (by omega))
  · exact he.fr (wF_o (by omega)) (wF_o (by omega)) (wF_r (by omega)) (wF_r (by omega))
theorem s_partEnd {u b : Nat} (hu : u < 4) (hb : b < 256) {s t : uS} {st v d : Nat} {pc : Bool} {w : List Nat} {ps : List (Nat × List Nat)} {bg : Nat} (h : pA (978 + 16 * u) u s t st v d pc) (hw : pW (978 + 16 * u) u s t w) (hd : pD (978 + 16 * u) u s t ps bg []) (ho : t.F 1159 u = oI (wix w ordW 0)) : ∃ s1 t1 : uS, fn_X8_partEnd (978 + 16 * u) (nI b) s = some (s1, 0) ∧ fn_X12_behindIn (nI u) (nI b) t = some (t1, true) ∧ pGo u s t s1 t1 := by
  have hc : s.I (978 + 16 * u + 1) 3 = nI ps.length := by have := hd.1.1; rw [List.length_map] at this; exact this
  have hc3 : ps.length ≤ 3 := by have := hd.1.2.1; rw [List.length_map] at this; exact this
  have hr : t.F 1160 u = nI ps.length := hd.2.2.2.1
  unfold fn_X8_partEnd fb_X8_partEnd_38 fn_X12_behindIn fb_X12_behindIn_23
  simp (disch := omega) only [lit, nI_eq, bind_id, g_1160, Option.bind_some, hc, hr, nI_leI]
  by_cases c : b = 13
  · rw [if_pos c, if_neg (by omega), if_pos c]
    exact pS_go hu h hw hd (st1 := 11) (by decide) (by unfold pE; rw [if_neg (by decide), if_neg (by decide), if_pos (Or.inr rfl)]; exact ⟨ho, rfl⟩)
  · rw [if_neg c, if_neg c]
    by_cases e : b = 32
    · rw [if_pos e, if_pos e]
      by_cases f : 3 ≤ ps.length
      · rw [if_pos f, if_pos f]; exact pS_pass hu h b
      · rw [if_neg f, if_neg f]
        exact pS_go hu h hw hd (st1 := 1) (by decide) (by unfold pE; rw [if_neg (by decide), if_pos rfl]; exact ⟨ho, by omega, rfl⟩)
    · rw [if_neg e, if_neg e]; exact pS_pass hu h b
theorem oI_lt {o : Option Nat} : ∀ {n : Nat}, o = some n → oI o = nI n := by intro n h; rw [h]; rfl
/-- state 0: letters of the word, or its end -/
theorem s_word {u b : Nat} (hu : u < 4) (hb : b < 256) {s t : uS} {v d : Nat} {pc : Bool} {w : List Nat} {bg : Nat} (h : pA (978 + 16 * u) u s t 0 v d pc) (hw : pW (978 + 16 * u) u s t w) (hd : pD (978 + 16 * u) u s t [] bg []) : ∃ s1 t1 : uS, fn_X8_inWord (978 + 16 * u) (nI b) s = some (s1, 0) ∧ fn_X12_wordIn (nI u) (nI b) t = some (t1, true) ∧ pGo u s t s1 t1 := by
  obtain ⟨w1, w2, w3, w4, w5, w6⟩ := hw
  unfold fn_X8_inWord fn_X12_wordIn fb_X12_wordIn_35 fb_X12_wordIn_108
  rw [c_letter, Option.bind_some, r_letter, Option.bind_some]
  by_cases c : iLet (nI b) = true
  · rw [if_pos c, if_pos c]
    have hk := kOk_u hu
    have hfin : ∀ (s1 t1 : uS) (w' : List Nat), out (sPl (978 + 16 * u)) (sPl (978 + 16 * u)) s s1 → out rNo (rPl u) t t1 → (∀ f : Nat, f ≠ 4 → s1.I (978 + 16 * u) f = s.I (978 + 16 * u) f) → s1.I (978 + 16 * u + 1) = s.I (978 + 16 * u + 1) → (∀ k : Nat, k ≤ 978 + 16 * u + 5 → s1.F k = s.F k) → (∀ k : Nat, k ≠ 1157 → k ≠ 1158 → t1.F k = t.F k) → pW (978 + 16 * u) u s1 t1 w' → pGo u s t s1 t1 := by
      intro s1 t1 w' o1 o2 e1 e2 e3 e4 hw'
      obtain ⟨a1, a2, a3, a4, a5, a6, a7, a8, a9, a10, a11⟩ := h
      refine ⟨o1, o2, 0, v, d, pc, ⟨a1, ?_, ?_, ?_, ?_, ?_, ?_, a8, a9, ?_, ?_⟩, Or.inr ⟨w', [], bg, [], hw', ?_, ?_⟩⟩
      · rw [e1 5 (by decide)]; exact a2
      · rw [e4 _ (by decide) (by decide)]; exact a3
      · rw [e1 1 (by decide)]; exact a4
      · rw [e4 _ (by decide) (by decide)]; exact a5
      · rw [e1 6 (by decide)]; exact a6
      · rw [e4 _ (by decide) (by decide)]; exact a7
      · rw [e1 7 (by decide)]; exact a10
      · rw [e4 _ (by decide) (by decide)]; exact a11
      · exact hd.fr e2 (e3 _ (by omega)) (e3 _ (by omega)) (e3 _ (by omega)) (e3 _ (by omega)) (by rw [e4 _ (by decide) (by decide)]) (by rw [e4 _ (by decide) (by decide)]) (fun p _ _ => by rw [e4 _ (by decide) (by decide)]) (fun p j _ _ _ => by rw [e4 _ (by omega) (by omega)])
      · exact ⟨rfl, rfl⟩
    by_cases e : w.length < 13
    · rw [show min 13 w.length = w.length by omega] at w3
      simp (disch := omega) only [lit, nI_leI, w3, w5, g_1157, Option.bind_some, if_neg (show ¬ 13 ≤ w.length by omega), if_neg (show ¬ 20 ≤ w.length by omega), nI_mul, nI_add, p_1158, unar_20, iput_c (t := 21) (k := 978 + 16 * u + 6) (N := 13) (show 978 + 16 * u + 6 < 1171 by omega) hk.2.2.1 e (by decide), wF_I, wF_o (s := t) (k := 1158) (f := 20 * u + w.length) (v := nI b) (a := 1157) (b := u) (by omega), if_neg (show ¬ 21 ≤ w.length by omega), p_1157]
      refine ⟨_, _, rfl, rfl, hfin _ _ (w ++ [b]) (out_I (out_F out_r ⟨by omega, by omega⟩) ⟨by omega, by omega⟩) (out_F (out_F out_r (by unfold rPl; omega)) (by unfold rPl; omega)) (fun f hf => wI_o (by omega)) (wI_r (by omega)) (fun k hk => wF_r (by omega)) (fun k h1 h2 => (wF_r h1).trans (wF_r h2)) ?_⟩
      refine ⟨by rw [List.length_append]; show w.length + 1 ≤ 21; omega, bys_app w2 hb, ?_, ?_, ?_, ?_⟩
      · rw [wI_e, List.length_append]; show nI (w.length + 1) = nI (min 13 (w.length + 1)); rw [show min 13 (w.length + 1) = w.length + 1 by omega]
      · intro j h1 h2
        rw [List.length_append] at h2
        have h2 : j < w.length + 1 := h2
        rw [wI_F]
        by_cases g : j = w.length
        · rw [g, wF_e, getDn_end, unar_21]; rfl
        · rw [wF_o (by omega), getDn_app (by omega)]; exact w4 j h1 (by omega)
      · rw [wF_e, List.length_append]; rfl
      · intro j h1 h2
        rw [List.length_append] at h2
        have h2 : j < w.length + 1 := h2
        rw [wF_o (by omega)]
        by_cases g : j = w.length
        · rw [g, wF_e, getDn_end]
        · rw [wF_o (by omega), getDn_app (by omega)]; exact w6 j h1 (by omega)
    · rw [show min 13 w.length = 13 by omega] at w3
      simp (disch := omega) only [lit, nI_leI, w3, w5, g_1157, Option.bind_some, if_pos (Nat.le_refl 13)]
      by_cases f : w.length < 20
      · simp (disch := omega) only [lit, if_neg (show ¬ 20 ≤ w.length by omega), nI_mul, nI_add, p_1158, unar_20, Option.bind_some, wF_o (s := t) (k := 1158) (f := 20 * u + w.length) (v := nI b) (a := 1157) (b := u) (by omega), w5, nI_leI, if_neg (show ¬ 21 ≤ w.length by omega), p_1157]
        refine ⟨_, _, rfl, rfl, hfin _ _ (w ++ [b]) out_r (out_F (out_F out_r (by unfold rPl; omega)) (by unfold rPl; omega)) (fun f hf => rfl) rfl (fun k hk => rfl) (fun k h1 h2 => (wF_r h1).trans (wF_r h2)) ?_⟩
        refine ⟨by rw [List.length_append]; show w.length + 1 ≤ 21; omega, bys_app w2 hb, ?_, ?_, ?_, ?_⟩
        · rw [w3, List.length_append]; show nI 13 = nI (min 13 (w.length + 1)); rw [show min 13 (w.length + 1) = 13 by omega]
        · intro j h1 h2
          rw [getDn_app (by omega)]; exact w4 j h1 (by omega)
        · rw [wF_e, List.length_append]; rfl
        · intro j h1 h2
          rw [List.length_append] at h2
          have h2 : j < w.length + 1 := h2
          rw [wF_o (by omega)]
          by_cases g : j = w.length
          · rw [g, wF_e, getDn_end]
          · rw [wF_o (by omega), getDn_app (by omega)]; exact w6 j h1 (by omega)
      · simp (disch := omega) only [lit, if_pos (show 20 ≤ w.length by omega), w5, Option.bind_some]
        by_cases g : w.length = 20
        · simp (disch := omega) only [lit, nI_leI, if_neg (show ¬ 21 ≤ w.length by omega), p_1157, unar_20, Option.bind_some, nI_add]
          refine ⟨_, _, rfl, rfl, hfin _ _ (w ++ [b]) out_r (out_F out_r (by unfold rPl; omega)) (fun f hf => rfl) rfl (fun k hk => rfl) (fun k h1 h2 => wF_r h1) ?_⟩
          refine ⟨by rw [List.length_append]; show w.length + 1 ≤ 21; omega, bys_app w2 hb, ?_, ?_, ?_, ?_⟩
          · rw [w3, List.length_append]; show nI 13 = nI (min 13 (w.length + 1)); rw [show min 13 (w.length + 1) = 13 by omega]
          · intro j h1 h2
            rw [getDn_app (by omega)]; exact w4 j h1 (by omega)
          · rw [wF_e, List.length_append]; rfl
          · intro j h1 h2
            rw [wF_o (by omega), getDn_app (by omega)]; exact w6 j h1 (by omega)
        · simp (disch := omega) only [lit, nI_leI, if_pos (show 21 ≤ w.length by omega), p_1157, unar_20, Option.bind_some]
          refine ⟨_, _, rfl, rfl, hfin _ _ w out_r (out_F out_r (by unfold rPl; omega)) (fun f hf => rfl) rfl (fun k hk => rfl) (fun k h1 h2 => wF_r h1) ?_⟩
          refine ⟨w1, w2, by rw [w3, show min 13 w.length = 13 by omega], w4, by rw [wF_e, show w.length = 21 by omega], ?_⟩
          intro j h1 h2
          rw [wF_o (by omega)]; exact w6 j h1 h2
  · rw [if_neg c, if_neg c]
    simp (disch := omega) only [lit, w3, w5, nI_eq, g_1157, Option.bind_some, bind_id]
    by_cases e : w.length = 0
    · rw [if_pos (by omega), if_pos e]; exact pS_pass hu h b
    · rw [if_neg (by omega), if_neg e]
      have key : ∀ o : Int32, o = oI (wix w ordW 0) → ∃ s1 t1 : uS, fn_X8_partEnd (978 + 16 * u) (nI b) s = some (s1, 0) ∧ ((iput 20 t 1159 (nI u) o).bind fun s1 => fn_X12_behindIn (nI u) (nI b) s1) = some (t1, true) ∧ pGo u s t s1 t1 := by
        intro o ho
        have h1 : pA (978 + 16 * u) u s (wF t 1159 u o) 0 v d pc := h
        have h2 : pW (978 + 16 * u) u s (wF t 1159 u o) w := ⟨w1, w2, w3, w4, w5, w6⟩
        have h3 : pD (978 + 16 * u) u s (wF t 1159 u o) [] bg [] := hd.fr rfl rfl rfl rfl rfl rfl rfl (fun p _ _ => rfl) (fun p j _ _ _ => wF_o (by omega))
        obtain ⟨s1, t1, a1, a2, a3⟩ := s_partEnd hu hb h1 h2 h3 (by rw [wF_e]; exact ho)
        refine ⟨s1, t1, a1, ?_, a3.1, out_t (out_F out_r (by unfold rPl; omega)) a3.2.1, a3.2.2⟩
        rw [p_1159 hu, Option.bind_some]
        exact a2
      simp (disch := omega) only [nI_leI]
      by_cases f : 21 ≤ w.length
      · rw [if_pos f]
        exact key (-1) (by rw [wix_long (by omega)]; rfl)
      · rw [if_neg f, r_orderOf hu w5 w2 (by omega) (fun j hj => w6 j (by omega) hj), Option.bind_some]
        exact key _ rfl
