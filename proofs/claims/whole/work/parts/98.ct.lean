/-! a relation, a comparator on both sides -/
def reI (i q k f : Nat) : Prop := (k = 6 ∧ f = 5) ∨ k = 7 ∨ k = 8 ∨ (k = 16 + 3 * i ∧ f = q)
def reF (i l k f : Nat) : Prop := k = 9 ∨ k = 10 ∨ k = 11 ∨ k = 14 ∨ k = 15 ∨ ((k = 17 + 3 * i ∨ k = 18 + 3 * i) ∧ f = l)
def rrF (n r j bg k f : Nat) : Prop := rLF j bg k f ∨ (k = r ∧ f = n)
def cmpM (c : Nat) : Nat := if c = 0 then 1 else if c = 1 then 0 else 2
def reG (k fr : Nat) (x : List Nat) (ts : List (List Nat)) (bg e : Nat) (σ : List (Nat × Nat)) (N M cn ob dp rq i n q l r mx : Nat) (mp : Nat → Nat) (s t : uS) (s1 : uS) (T1 : Nat) (t1 : uS) : Prop := ∃ (str : List Nat) (v b1 e1 : Nat), v < mx ∧ e ≤ b1 ∧ pj k fr x (ts ++ [str]) (bg + str.length) b1 e1 σ N M cn ob dp rq T1 s1 t1 ∧ s1.I (16 + 3 * i) q = nI v ∧ t1.F r n = nI (mp v) ∧ out (reI i q) (reF i l) s s1 ∧ ol rLI (rrF n r ts.length bg) rNo t t1
def rlL : List (List Nat) := (spl kW_42).1 :: (spl kW_42).2
def cpL : List (List Nat) := (spl kW_43).1 :: (spl kW_43).2
theorem rw_121 : wdAt rlL kW_121 0 := ⟨by decide, by decide, by decide, by decide, by decide⟩
theorem rw_122 : wdAt rlL kW_122 1 := ⟨by decide, by decide, by decide, by decide, by decide⟩
theorem rw_123 : wdAt rlL kW_123 2 := ⟨by decide, by decide, by decide, by decide, by decide⟩
theorem rw_124 : wdAt rlL kW_124 3 := ⟨by decide, by decide, by decide, by decide, by decide⟩
theorem rw_125 : wdAt rlL kW_125 4 := ⟨by decide, by decide, by decide, by decide, by decide⟩
theorem rw_126 : wdAt rlL kW_126 5 := ⟨by decide, by decide, by decide, by decide, by decide⟩
theorem cw_127 : wdAt cpL kW_127 1 := ⟨by decide, by decide, by decide, by decide, by decide⟩
theorem cw_128 : wdAt cpL kW_128 0 := ⟨by decide, by decide, by decide, by decide, by decide⟩
theorem cw_129 : wdAt cpL kW_129 2 := ⟨by decide, by decide, by decide, by decide, by decide⟩
theorem p_rel {k fr : Nat} {x : List Nat} {ts : List (List Nat)} {bg b e : Nat} {σ : List (Nat × Nat)} {N M cn ob dp rq T : Nat} {s t : uS} {i n : Nat} (h : pj k fr x ts bg b e ((10, 12 * i + 9) :: σ) N M cn ob dp rq T s t) (hi : i < 320) (hn : n < 520) (ha : s.F (18 + 3 * i) 9 = nI 0) : RU x s t (pd T s) (fn_X12_relation (nI n) t) (reG k fr x ts bg e σ N M cn ob dp rq i n 7 9 1110 6 id s t) := by
  rw [pd_10 h]
  have hr := h.2.2.1
  have hk := h.2.2.2
  have hx := h.bl
  unfold fn_X12_relation
  by_cases c3 : s.I 7 2 = 3
  · by_cases cl : 300 ≤ ts.length
    · have h83 : s.I 8 3 = nI (ts.length + 1) := by
        obtain ⟨a, str, -, -, g3, -⟩ := h.q c3
        rw [g3.1, List.length_append]; rfl
      have k3 := hk.2.2.1
      rw [c_tkm hi (by decide) c3 h83 cl (by omega), Option.bind_some]
      refine h.RU out_r ((h.strN (Or.inr cl)).vu fun t1 v hv h1 => ?_)
      rw [if_neg h1.nl]; exact h1.U
    · obtain ⟨str, y1, y2, y3, y4, y5, y6, y7⟩ := h.str c3 (by omega)
      have hz := y2.2.2.1
      have hle : (ts ++ [str]).length = ts.length + 1 := by rw [List.length_append]; rfl
      obtain ⟨f0, a1, a2, a3, -⟩ := tz_rd uTx_str hz (i := ts.length) (by omega)
      rw [getD_last] at a2 a3
      have a1 : iget 20 s 10 (nI ts.length) = some (nI f0) := a1
      have a2 : iget 20 s 11 (nI ts.length) = some (nI (f0 + str.length)) := a2
      obtain ⟨v, v1, v2, v3⟩ := wds rlL str
      have hL : rlL.length = 6 := by decide
      rw [hL] at v1 v2
      have hV := rsW_o (t := t) (j := ts.length) (a := bg) (n := str.length)
      have sI : ∀ (W : List Nat) (j : Nat), wdAt rlL W j → fn_X12_stringIs (nI ts.length) W (rsW t ts.length bg str.length) = some (decide (v = j)) := by
        intro W j hW
        have := r_stringIs (j := ts.length) (w := W) y3.2.2.2.2.2.2.1 (by omega) (by omega) (by have := y2.2.2.2.2.2.2.2.2; have := y2.1.2.2.2.2.2.2.2; omega) (by rw [getD_last]; exact y7) hW.1 hW.2.1
        rw [this, getD_last, v3 W j hW]
      have t40 : (rsW t ts.length bg str.length).I 1079 40 < 0 := by
        rw [hV.2.1 _ _ (by unfold rnJ; omega), h.1.l.2.2.1]; decide
      have ask : fn_X4_isAskedFor (16 + 3 * i) (nI 9) (nI ts.length) s = (if v = 6 then some (wI s (16 + 3 * i) 7 (-1), false) else some (wI s (16 + 3 * i) 7 (nI v), true)) := by
        unfold fn_X4_isAskedFor
        rw [a1, Option.bind_some, a2, Option.bind_some, if_neg (show ¬ nI 9 = 2 by decide), if_neg (show ¬ nI 9 = 3 by decide), if_neg (show ¬ nI 9 = 4 by decide), if_neg (show ¬ nI 9 = 5 by decide), if_neg (show ¬ nI 9 = 6 by decide), if_neg (show ¬ nI 9 = 7 by decide), if_neg (show ¬ nI 9 = 8 by decide), if_pos (show nI 9 = 9 from rfl), c_place a3 (by decide) (by decide), Option.bind_some, plc_wix, show wix str ((spl kW_42).1 :: (spl kW_42).2) 0 = wix str rlL 0 from rfl, v2, wI_e]
        by_cases z : v = 6
        · rw [if_pos z, if_pos z, if_pos (show (-1 : Int32) < 0 by decide)]
        · rw [if_neg z, if_neg z, if_neg (show ¬ nI v < 0 from nI_nlt (b := 0) (Nat.zero_le _) (by omega))]
      rw [y1, Option.bind_some, if_pos t40]
      show RU x s t _ ((fn_X12_stringIs (nI ts.length) kW_121 (rsW t ts.length bg str.length)).bind _) _
      have chain : ((fn_X12_stringIs (nI ts.length) kW_121 (rsW t ts.length bg str.length)).bind fun v5 => if v5 = true then (fb_X12_relation_104 (nI n) 0 (rsW t ts.length bg str.length)) else ((fn_X12_stringIs (nI ts.length) kW_122 (rsW t ts.length bg str.length)).bind fun v9 => if v9 = true then (fb_X12_relation_104 (nI n) 1 (rsW t ts.length bg str.length)) else ((fn_X12_stringIs (nI ts.length) kW_123 (rsW t ts.length bg str.length)).bind fun v13 => if v13 = true then (fb_X12_relation_104 (nI n) 2 (rsW t ts.length bg str.length)) else ((fn_X12_stringIs (nI ts.length) kW_124 (rsW t ts.length bg str.length)).bind fun v17 => if v17 = true then (fb_X12_relation_104 (nI n) 3 (rsW t ts.length bg str.length)) else ((fn_X12_stringIs (nI ts.length) kW_125 (rsW t ts.length bg str.length)).bind fun v21 => if v21 = true then (fb_X12_relation_104 (nI n) 4 (rsW t ts.length bg str.length)) else ((fn_X12_stringIs (nI ts.length) kW_126 (rsW t ts.length bg str.length)).bind fun v25 => if v25 = true then (fb_X12_relation_104 (nI n) 5 (rsW t ts.length bg str.length)) else (fb_X12_relation_104 (nI n) (-1) (rsW t ts.length bg str.length)))))))) = fb_X12_relation_104 (nI n) (if v = 6 then -1 else nI v) (rsW t ts.length bg str.length) := by
        rw [sI kW_121 0 rw_121, sI kW_122 1 rw_122, sI kW_123 2 rw_123, sI kW_124 3 rw_124, sI kW_125 4 rw_125, sI kW_126 5 rw_126]
        have : v = 0 ∨ v = 1 ∨ v = 2 ∨ v = 3 ∨ v = 4 ∨ v = 5 ∨ v = 6 := by omega
        rcases this with z | z | z | z | z | z | z <;> rw [z] <;> rfl
      refine Eq.mpr (congrArg (fun A => RU x s t _ A _) chain) ?_
      unfold fb_X12_relation_104
      by_cases z : v = 6
      · rw [if_pos z] at ask
        rw [c_tk3 hi (by decide) c3 y4 (by omega) ha (by decide) ask, Option.bind_some, if_pos z, if_neg (show ¬ (0 : Int32) ≤ -1 by decide)]
        refine h.RU (out_I out_r (Or.inr ⟨by omega, by omega⟩)) ?_
        refine (h.fl1 hV (wI_o (by omega)) y3.2.2.2.2.2.2.2).uu fun t1 h1 => ?_
        unfold fb_X12_relation_117
        exact (h1.p1110 hn).uu fun t2 h2 => h2.nU.uu fun t3 h3 => h3.U
      · rw [if_neg z] at ask
        rw [if_neg z, if_pos (show (0 : Int32) ≤ nI v from nI_le (a := 0) (Nat.zero_le _) (by omega))]
        unfold fb_X12_relation_117
        rw [p_1110 hn, Option.bind_some]
        rw [show ∀ A : Option uS, (A.bind fun s3 => some s3) = A from fun A => by cases A <;> rfl]
        refine str_go (rq1 := rq) (S := wI s (16 + 3 * i) 7 (nI v)) (U := t) h hi (by decide) ha (by decide) c3 (by omega) y4 y2 y6 y5 ask (out_I out_r (Or.inl ⟨rfl, Or.inl rfl⟩)) ((wI_o (by omega)).trans h.2.1.2.2.2.2.2) hk.2.2.2.2.2.2.2.2.2.2.2.1 (ol_F hV (Or.inr ⟨by omega, by omega⟩)) (y3.wF (by omega)) ?_
        intro s1 t1 b1 e1 w1 w2 w3 w4
        refine ⟨str, v, b1, e1, by omega, w1, w4, ?_, ?_, ?_, ?_⟩
        · rw [w2.2.1 _ _ (by unfold lnI'; omega)]
          show (wI (wF (wF (wI s (16 + 3 * i) 7 (nI v)) (17 + 3 * i) 9 (nI ts.length)) (18 + 3 * i) 9 (nI (0 + 1))) 6 5 (nI σ.length)).I (16 + 3 * i) 7 = _
          rw [wI_o (by omega), wF_I, wF_I, wI_e]
        · rw [w3.2.2 _ _ (by unfold rqP; omega), wF_e]; rfl
        · refine out_t (s1 := tkc (wI s (16 + 3 * i) 7 (nI v)) i 9 0 ts.length σ.length) ?_ (out_w w2 (fun k f z => by unfold lnI' at z; unfold reI; omega) (fun k f z => by unfold lqF at z; unfold reF; omega))
          exact out_I (out_F (out_F (out_I out_r (by unfold reI; omega)) (by unfold reF; omega)) (by unfold reF; omega)) (by unfold reI; omega)
        · refine ol_t (ol_F (ol_I (ol_F (ol_F ol_r (Or.inl (Or.inr ⟨Or.inl rfl, Nat.le_refl _⟩))) (Or.inl (Or.inr ⟨Or.inr rfl, Nat.le_refl _⟩))) ⟨rfl, Or.inr (Or.inr rfl)⟩) (Or.inr ⟨rfl, rfl⟩)) (ol_out (out_w w3 (fun k f z => by unfold rnI at z; unfold rLI; omega) (fun k f z => by unfold rqP at z; exact Or.inl (Or.inl ⟨z.1, by omega⟩))))
  · rw [c_tk0 hi (by decide) c3, Option.bind_some]
    refine h.RU out_r ((h.strN (Or.inl c3)).vu fun t1 v hv h1 => ?_)
    rw [if_neg h1.nl]; exact h1.U
theorem p_cmp {k fr : Nat} {x : List Nat} {ts : List (List Nat)} {bg b e : Nat} {σ : List (Nat × Nat)} {N M cn ob dp rq T : Nat} {s t : uS} {i n : Nat} (h : pj k fr x ts bg b e ((10, 12 * i + 10) :: σ) N M cn ob dp rq T s t) (hi : i < 320) (hn : n < 520) (ha : s.F (18 + 3 * i) 10 = nI 0) : RU x s t (pd T s) (fn_X12_compared (nI n) t) (reG k fr x ts bg e σ N M cn ob dp rq i n 8 10 1111 3 cmpM s t) := by
  rw [pd_10 h]
  have hr := h.2.2.1
  have hk := h.2.2.2
  have hx := h.bl
  unfold fn_X12_compared
  by_cases c3 : s.I 7 2 = 3
  · by_cases cl : 300 ≤ ts.length
    · have h83 : s.I 8 3 = nI (ts.length + 1) := by
        obtain ⟨a, str, -, -, g3, -⟩ := h.q c3
        rw [g3.1, List.length_append]; rfl
      have k3 := hk.2.2.1
      rw [c_tkm hi (by decide) c3 h83 cl (by omega), Option.bind_some]
      refine h.RU out_r ((h.strN (Or.inr cl)).vu fun t1 v hv h1 => ?_)
      rw [if_neg h1.nl]; exact h1.U
    · obtain ⟨str, y1, y2, y3, y4, y5, y6, y7⟩ := h.str c3 (by omega)
      have hz := y2.2.2.1
      have hle : (ts ++ [str]).length = ts.length + 1 := by rw [List.length_append]; rfl
      obtain ⟨f0, a1, a2, a3, -⟩ := tz_rd uTx_str hz (i := ts.length) (by omega)
      rw [getD_last] at a2 a3
      have a1 : iget 20 s 10 (nI ts.length) = some (nI f0) := a1
      have a2 : iget 20 s 11 (nI ts.length) = some (nI (f0 + str.length)) := a2
      obtain ⟨v, v1, v2, v3⟩ := wds cpL str
      have hL : cpL.length = 3 := by decide
      rw [hL] at v1 v2
      have hV := rsW_o (t := t) (j := ts.length) (a := bg) (n := str.length)
      have sI : ∀ (W : List Nat) (j : Nat), wdAt cpL W j → fn_X12_stringIs (nI ts.length) W (rsW t ts.length bg str.length) = some (decide (v = j)) := by
        intro W j hW
        have := r_stringIs (j := ts.length) (w := W) y3.2.2.2.2.2.2.1 (by omega) (by omega) (by have := y2.2.2.2.2.2.2.2.2; have := y2.1.2.2.2.2.2.2.2; omega) (by rw [getD_last]; exact y7) hW.1 hW.2.1
        rw [this, getD_last, v3 W j hW]
      have t40 : (rsW t ts.length bg str.length).I 1079 40 < 0 := by
        rw [hV.2.1 _ _ (by unfold rnJ; omega), h.1.l.2.2.1]; decide
      have ask : fn_X4_isAskedFor (16 + 3 * i) (nI 10) (nI ts.length) s = (if v = 3 then some (wI s (16 + 3 * i) 8 (-1), false) else if v = 2 ∧ ¬ rq &&& 128 = 128 then some (wI s (16 + 3 * i) 8 (nI v), false) else some (wI s (16 + 3 * i) 8 (nI v), true)) := by
        unfold fn_X4_isAskedFor
        rw [a1, Option.bind_some, a2, Option.bind_some, if_neg (show ¬ nI 10 = 2 by decide), if_neg (show ¬ nI 10 = 3 by decide), if_neg (show ¬ nI 10 = 4 by decide), if_neg (show ¬ nI 10 = 5 by decide), if_neg (show ¬ nI 10 = 6 by decide), if_neg (show ¬ nI 10 = 7 by decide), if_neg (show ¬ nI 10 = 8 by decide), if_neg (show ¬ nI 10 = 9 by decide), if_pos (show nI 10 = 10 from rfl), c_place a3 (by decide) (by decide), Option.bind_some, plc_wix, show wix str ((spl kW_43).1 :: (spl kW_43).2) 0 = wix str cpL 0 from rfl, v2, wI_e]
        by_cases z : v = 3
        · rw [if_pos z, if_pos z, if_pos (show (-1 : Int32) < 0 by decide)]
        · rw [if_neg z, if_neg z, if_neg (show ¬ nI v < 0 from nI_nlt (b := 0) (Nat.zero_le _) (by omega))]
          by_cases z2 : v = 2
          · rw [if_pos (show nI v = 2 by rw [z2]; rfl), show fn_X4_isLacking 128 (wI s (16 + 3 * i) 8 (nI v)) = some (decide (¬ rq &&& 128 = 128)) from c_lack (nb := 128) ((wI_o (by omega)).trans h.2.1.2.2.2.2.2) hk.2.2.2.2.2.2.2.2.2.2.2.1 (by decide), Option.bind_some]
            by_cases z3 : rq &&& 128 = 128
            · rw [decide_eq_false (fun z => z z3), if_neg (show ¬ false = true by decide), if_neg (fun z => z.2 z3)]
            · rw [decide_eq_true z3, if_pos rfl, if_pos (show v = 2 ∧ ¬ rq &&& 128 = 128 from ⟨z2, z3⟩)]
          · rw [if_neg (show ¬ nI v = 2 by show ¬ nI v = nI 2; rw [nI_eq (by omega) (by omega)]; exact z2), if_neg (fun z => z2 z.1)]
      rw [y1, Option.bind_some, if_pos t40]
      show RU x s t _ ((fn_X12_stringIs (nI ts.length) kW_127 (rsW t ts.length bg str.length)).bind _) _
      have chain : ((fn_X12_stringIs (nI ts.length) kW_127 (rsW t ts.length bg str.length)).bind fun v5 => if v5 = true then (fb_X12_compared_59 (nI n) 0 (rsW t ts.length bg str.length)) else ((fn_X12_stringIs (nI ts.length) kW_128 (rsW t ts.length bg str.length)).bind fun v9 => if v9 = true then (fb_X12_compared_59 (nI n) 1 (rsW t ts.length bg str.length)) else ((fn_X12_stringIs (nI ts.length) kW_129 (rsW t ts.length bg str.length)).bind fun v13 => if v13 = true then (fb_X12_compared_59 (nI n) 2 (rsW t ts.length bg str.length)) else (fb_X12_compared_59 (nI n) (-1) (rsW t ts.length bg str.length))))) = fb_X12_compared_59 (nI n) (if v = 3 then -1 else nI (cmpM v)) (rsW t ts.length bg str.length) := by
        rw [sI kW_127 1 cw_127, sI kW_128 0 cw_128, sI kW_129 2 cw_129]
        have : v = 0 ∨ v = 1 ∨ v = 2 ∨ v = 3 := by omega
        rcases this with z | z | z | z <;> rw [z] <;> rfl
      refine Eq.mpr (congrArg (fun A => RU x s t _ A _) chain) ?_
      unfold fb_X12_compared_59 fb_X12_compared_72
      have f84 : ∀ (p : Nat) (c : Int32) (U : uS), fO p U → FU p U (fb_X12_compared_84 (nI n) c U) := by
        intro p c U hU
        unfold fb_X12_compared_84
        exact (hU.p1111 hn).uu fun t2 h2 => h2.nU.uu fun t3 h3 => h3.U
      have fl := h.fl1 hV (wI_o (by omega)) y3.2.2.2.2.2.2.2
      by_cases z : v = 3
      · rw [if_pos z] at ask
        rw [c_tk3 hi (by decide) c3 y4 (by omega) ha (by decide) ask, Option.bind_some, if_pos z, if_neg (show ¬ (0 : Int32) ≤ -1 by decide)]
        refine h.RU (out_I out_r (Or.inr ⟨by omega, by omega⟩)) ?_
        refine fl.uu fun t1 h1 => ?_
        rw [if_neg (show ¬ (-1 : Int32) = 2 by decide)]
        exact f84 _ _ _ h1
      · have hm3 : cmpM v < 3 := by unfold cmpM; split <;> (try split) <;> omega
        rw [if_neg z] at ask
        rw [if_neg z, if_pos (show (0 : Int32) ≤ nI (cmpM v) from nI_le (a := 0) (Nat.zero_le _) (by omega))]
        have fin : ∀ A : Option uS, A = (fn_X12_next (wF (rsW t ts.length bg str.length) 1111 n (nI (cmpM v)))) → fn_X4_isAskedFor (16 + 3 * i) (nI 10) (nI ts.length) s = some (wI s (16 + 3 * i) 8 (nI v), true) → RU x s t ((fn_X4_takeString (nI (12 * i + 10)) s).bind fun r => fn_X4_parse_13 (999999 - T) r.2 (nI T + 1) r.1) A (reG k fr x ts bg e σ N M cn ob dp rq i n 8 10 1111 3 cmpM s t) := by
          rintro A rfl ask
          refine str_go (rq1 := rq) (S := wI s (16 + 3 * i) 8 (nI v)) (U := t) h hi (by decide) ha (by decide) c3 (by omega) y4 y2 y6 y5 ask (out_I out_r (Or.inl ⟨rfl, Or.inr (Or.inl rfl)⟩)) ((wI_o (by omega)).trans h.2.1.2.2.2.2.2) hk.2.2.2.2.2.2.2.2.2.2.2.1 (ol_F hV (Or.inr ⟨by omega, by omega⟩)) (y3.wF (by omega)) ?_
          intro s1 t1 b1 e1 w1 w2 w3 w4
          refine ⟨str, v, b1, e1, by omega, w1, w4, ?_, ?_, ?_, ?_⟩
          · rw [w2.2.1 _ _ (by unfold lnI'; omega)]
            show (wI (wF (wF (wI s (16 + 3 * i) 8 (nI v)) (17 + 3 * i) 10 (nI ts.length)) (18 + 3 * i) 10 (nI (0 + 1))) 6 5 (nI σ.length)).I (16 + 3 * i) 8 = _
            rw [wI_o (by omega), wF_I, wF_I, wI_e]
          · rw [w3.2.2 _ _ (by unfold rqP; omega), wF_e]
          · refine out_t (s1 := tkc (wI s (16 + 3 * i) 8 (nI v)) i 10 0 ts.length σ.length) ?_ (out_w w2 (fun k f z => by unfold lnI' at z; unfold reI; omega) (fun k f z => by unfold lqF at z; unfold reF; omega))
            exact out_I (out_F (out_F (out_I out_r (by unfold reI; omega)) (by unfold reF; omega)) (by unfold reF; omega)) (by unfold reI; omega)
          · refine ol_t (ol_F (ol_I (ol_F (ol_F ol_r (Or.inl (Or.inr ⟨Or.inl rfl, Nat.le_refl _⟩))) (Or.inl (Or.inr ⟨Or.inr rfl, Nat.le_refl _⟩))) ⟨rfl, Or.inr (Or.inr rfl)⟩) (Or.inr ⟨rfl, rfl⟩)) (ol_out (out_w w3 (fun k f z => by unfold rnI at z; unfold rLI; omega) (fun k f z => by unfold rqP at z; exact Or.inl (Or.inl ⟨z.1, by omega⟩))))
        have e84 : fb_X12_compared_84 (nI n) (nI (cmpM v)) (rsW t ts.length bg str.length) = fn_X12_next (wF (rsW t ts.length bg str.length) 1111 n (nI (cmpM v))) := by
          unfold fb_X12_compared_84
          rw [p_1111 hn, Option.bind_some]
          rw [show ∀ A : Option uS, (A.bind fun s3 => some s3) = A from fun A => by cases A <;> rfl]
        by_cases z2 : v = 2
        · have r5 : (rsW t ts.length bg str.length).I 1079 64 = nI rq := y3.2.2.2.2.1
          rw [if_pos (show nI (cmpM v) = 2 by rw [z2]; rfl), show (128 : Int32) = nI (2 ^ 7) from rfl, r_needs (j := 7) r5 hk.2.2.2.2.2.2.2.2.2.2.2.1 (by decide)]
          by_cases z3 : rq &&& 128 = 128
          · rw [if_pos (show rq &&& 2 ^ 7 = 2 ^ 7 from z3), Option.bind_some]
            exact fin _ e84 (by rw [ask, if_neg (fun z => z.2 z3)])
          · rw [if_neg (show ¬ rq &&& 2 ^ 7 = 2 ^ 7 from z3)]
            rw [if_pos (show v = 2 ∧ ¬ rq &&& 128 = 128 from ⟨z2, z3⟩)] at ask
            rw [c_tk3 hi (by decide) c3 y4 (by omega) ha (by decide) ask, Option.bind_some]
            refine h.RU (out_I out_r (Or.inr ⟨by omega, by omega⟩)) ?_
            exact (fl.uu fun t1 h1 => h1.U).uu fun t1 h1 => f84 _ _ _ h1
        · rw [if_neg (show ¬ nI (cmpM v) = 2 by
            show ¬ nI (cmpM v) = nI 2
            rw [nI_eq (by omega) (by omega)]
            have : v = 0 ∨ v = 1 := by omega
            rcases this with q | q <;> rw [q] <;> decide)]
          exact fin _ e84 (by rw [ask, if_neg (fun z => z2 z.1)])
  · rw [c_tk0 hi (by decide) c3, Option.bind_some]
    refine h.RU out_r ((h.strN (Or.inl c3)).vu fun t1 v hv h1 => ?_)
    rw [if_neg h1.nl]; exact h1.U
