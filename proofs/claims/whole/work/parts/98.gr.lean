/-! one recipient: the script runs, on both sides -/
theorem tW_sort {t t1 : uS} (hn : 1171 ≤ t.n) (h : fn_X12_sortIt t = some t1) : tW t t1 := by
  refine tW_agf (zc_X12_sortIt h) hn (by decide) (fun f hf => ?_) (by decide) (fun k hk => ⟨?_, ?_⟩)
  · unfold rB at hf
    simp only [List.mem_cons, Prod.mk.injEq, List.not_mem_nil, or_false]
    omega
  · unfold rA at hk
    simp only [List.mem_cons, List.not_mem_nil, or_false]
    omega
  · unfold rA at hk
    simp only [List.mem_cons, List.not_mem_nil, or_false]
    omega
theorem r_sort0F {t : uS} {u : Nat} (hu : u < 4) (h89 : t.I 1079 89 = nI u) (h : t.F 1150 u = -1) (hls : lsO t) : ∃ t1 : uS, fn_X12_sortIt t = some t1 ∧ rFR t1 [] (plE [] pl0) ∧ lsO t1 := by
  obtain ⟨t1, a1, a2, a3⟩ := r_begin (t := t) (ts := [])
  obtain ⟨t2, b1, b2, b3⟩ := a2.fr46 (rSt_nil t1) (by decide)
  refine ⟨t2, ?_, b2, fun n hn => ?_⟩
  · unfold fn_X12_sortIt fn_X12_activeOf
    rw [a1, Option.bind_some, a3.2.1 _ _ (by omega), h89, g_1150 hu, Option.bind_some, a3.2.2 _ _ (fun z => z), h, Option.bind_some, if_pos (by decide)]
    exact b1
  · rw [b3.2.2 _ _ (by unfold fiF onwF; omega), b3.2.2 _ _ (by unfold fiF onwF; omega), a3.2.2 _ _ (fun z => z), a3.2.2 _ _ (fun z => z)]
    exact hls n hn
/-- a plan on both sides, with its answer -/
def runO (s1 t2 : uS) (u : Nat) (bx : List (List Nat)) (an : Option (List Nat)) (aw : Bool) : Prop := ∃ (ts : List (List Nat)) (p : pl) (ir iv : Nat), cFR s1 u bx ts p ir iv ∧ rFR t2 ts p ∧ sFR s1 t2 ts p ir iv ∧ fcP bx ts p = false ∧ dsF ts (pF p) ∧ anR s1 t2 an ∧ (aw = true → 0 < pvc p ∧ an.isSome = true) ∧ (an.isSome = true → aw = false → pvc p = 0) ∧ ∀ x : List Nat, an = some x → x.length ≤ 5200
/-- the class's way to a plan, and what follows -/
def cRun (K : uS → Option uS) (u : Nat) (ri : Int32) (s : uS) : Option uS := (s.R (985 + 16 * u) 5).elim ((pgt 26 s 4 (nI u)).bind fun j12 => if uSo j12 10 then ((fn_X7_begin j12 ri s).bind fun s15 => (fn_X7_finish (s15.I 0 13) s15).bind K) else none) (fun j11 => (pgt 26 s 4 (nI u)).bind fun j17 => if uSo j17 10 then ((fn_X7_begin j17 ri s).bind fun s20 => if uIs s20 j11 1 then ((s20.R j11 1).bind fun j23 => if uIs s20 j11 1 then ((s20.R j11 1).bind fun j26 => (ulen s20 j26).bind fun v28 => (fn_X4_parse j23 0 v28 s20).bind fun r30 => (fn_X7_run r30.1).bind fun s32 => (fn_X7_finish (s32.I 0 13) s32).bind K) else none) else none) else none)
theorem c_beginX {s : uS} {u ri : Nat} : ∃ s1 : uS, fn_X7_begin (985 + 16 * u) (nI ri) s = some s1 ∧ cP0 s1 u ri ∧ s1.I 1070 16 = 0 ∧ s1.I 1070 17 = 0 := by
  obtain ⟨s1, a1, a2, a3, a4⟩ := c_clearP (s := wI (wI (wI (wR s 1070 11 (some (985 + 16 * u))) 1070 12 (nI ri)) 1070 16 0) 1070 17 0) (u := u) (ri := ri) (by
    show (wR s 1070 11 (some (985 + 16 * u))).R 1070 11 = _
    rw [wR_R, if_pos ⟨rfl, rfl⟩]) (by rw [wI_o (by omega), wI_o (by omega), wI_e])
  refine ⟨s1, ?_, a2, ?_, ?_⟩
  · unfold fn_X7_begin
    rw [a1, Option.bind_some]
  · rw [a3, wI_o (by omega), wI_e]
  · rw [a4, wI_e]
theorem cMs.sw {s s1 : uS} {fs : List (List Nat × List Nat)} {snd : List Nat} {rcs : List (List Nat)} {sz : Nat} (h : cMs s fs snd rcs sz) (o : sW cA s s1) (hn : 1171 ≤ s.n) : cMs s1 fs snd rcs sz := by
  obtain ⟨⟨b1, b2, f1, f2⟩, ⟨b3, f3⟩, ⟨b4, f4⟩, f5, f6⟩ := h
  refine ⟨⟨b1, b2, f1.sw o (by omega) ?_ ?_ ?_ ?_, f2.sw o (by omega) ?_ ?_ ?_ ?_⟩, ⟨b3, f3.sw o (by omega) ?_ ?_ ?_ ?_⟩, ⟨b4, f4.sw o (by omega) ?_ ?_ ?_ ?_⟩, ?_, f6⟩
  all_goals first | (unfold cA; omega) | (rw [(o.2 1042 (by omega) (by unfold cA; omega)).2.1]; exact f5)
theorem rMs.tw {t t1 : uS} {fs : List (List Nat × List Nat)} {snd rcp : List Nat} {sz : Nat} (h : rMs t fs snd rcp sz) (o : tW t t1) : rMs t1 fs snd rcp sz := by
  obtain ⟨⟨h1, h2⟩, ⟨a1, a2, a3, a4⟩, ⟨b1, b2, b3, b4⟩, h5, h6⟩ := h
  have F : ∀ k : Nat, rA k → t1.F k = t.F k := fun k a => (o.2.2 k a).1
  refine ⟨⟨(o.2.1 _ (by unfold rB; omega)).trans h1, fun f hf => ?_⟩, ⟨(o.2.1 _ (by unfold rB; omega)).trans a1, a2, a3, fun j hj => by rw [F _ (by unfold rA; omega)]; exact a4 j hj⟩, ⟨(o.2.1 _ (by unfold rB; omega)).trans b1, b2, b3, fun j hj => by rw [F _ (by unfold rA; omega)]; exact b4 j hj⟩, (o.2.1 _ (by unfold rB; omega)).trans h5, h6⟩
  obtain ⟨⟨x, x1, x2, x3, x4⟩, ⟨y, y1, y2, y3, y4⟩⟩ := h2 f hf
  exact ⟨⟨x, x1, by rw [F _ (by unfold rA; omega)]; exact x2, by rw [F _ (by unfold rA; omega)]; exact x3, fun j hj => by rw [F _ (by unfold rA; omega)]; exact x4 j hj⟩, ⟨y, y1, by rw [F _ (by unfold rA; omega)]; exact y2, by rw [F _ (by unfold rA; omega)]; exact y3, fun j hj => by rw [F _ (by unfold rA; omega)]; exact y4 j hj⟩⟩
theorem t_run {s t : uS} {u ri sz dy bgx : Nat} {bx : List (List Nat)} {fs : List (List Nat × List Nat)} {snd : List Nat} {rcs : List (List Nat)} {ns : List nT} (K : uS → Option uS) (hu : u < 4) (hn : 1171 ≤ s.n) (hnt : 1171 ≤ t.n) (hT : pT u s t) (hM : cMs s fs snd rcs sz) (hs0 : cTz s 1043 101 1 [snd] snd.length []) (ho : fsO fs) (as_ : adO snd) (ar : adO (rcs.getD ri [])) (hri : ri < rcs.length) (hRM : rMs t fs snd (rcs.getD ri []) sz) (hbx : bxO bx) (hB : cTz s (988 + 16 * u) 120 6 bx bgx []) (hRB : rBx t u bx) (hO : ntO ns dy) (hN : cNt s u ns) (hRN : rNt t u ns) (hd : s.I 0 13 = nI dy) (hdt : t.I 1079 1 = nI dy) (h89 : t.I 1079 89 = nI u) (hls : lsO t) : ∃ (s1 t2 : uS) (an : Option (List Nat)) (aw : Bool), cRun K u (nI ri) s = K s1 ∧ ((fn_X12_sortIt t).bind fun s5 => rAn s5) = fb_X12_deliver_146 aw an.isSome t2 ∧ runO s1 t2 u bx an aw ∧ sW cA s s1 ∧ tW t t2 ∧ lsO t2 ∧ s1.n = s.n ∧ s1.m = s.m := by
  obtain ⟨s0, a1, a2, a3, a4⟩ := c_beginX (s := s) (u := u) (ri := ri)
  have fbeg := zc_X7_begin (so_usr hu) a1
  have o0 := sW_agf fbeg hn cA_beg
  have n0 := (fbeg hn).2.2.1 (by decide)
  have hn0 : 1171 ≤ s0.n := Nat.le_trans hn o0.1
  have d0 : s0.I 0 13 = nI dy := by rw [(o0.2 0 (by omega) (by unfold cA; omega)).2.1]; exact hd
  -- from the plan to its answer
  have fin : ∀ (S t1 : uS) (ts : List (List Nat)) (p : pl) (ir iv : Nat), sW cA s S → tW t t1 → lsO t1 → cFR S u bx ts p ir iv → rFR t1 ts p → sFR S t1 ts p ir iv → fcP bx ts p = false → dsF ts (pF p) → S.I 1070 8 = 0 → S.I 1070 12 = nI ri → ∃ (s1 t2 : uS) (an : Option (List Nat)) (aw : Bool), fb_X7_finish_27 (nI dy) S = some s1 ∧ rAn t1 = fb_X12_deliver_146 aw an.isSome t2 ∧ runO s1 t2 u bx an aw ∧ sW cA s s1 ∧ tW t t2 ∧ lsO t2 ∧ s1.n = S.n ∧ s1.m = S.m := by
    intro S t1 ts p ir iv oS oT l1 c1 c2 c3 c4 c5 c6 c7
    obtain ⟨s1, t2, an, aw, e1, e2, e3, e4, e5, e6, e7, e8, e9, e10, e11⟩ := t_fin hu c1 c2 c3 c4 c6 c7 (hM.sw oS hn) (hs0.sw oS (by omega) (by unfold cA; omega) (by unfold cA; omega) (by unfold cA; omega) (by unfold cA; omega)) ho as_ hri (hRM.tw oT) (hN.sw oS hu hn (by unfold cA; omega) (by unfold cA; omega) cA_n) (hRN.tw oT) hO ((oT.2.1 _ (by unfold rB; omega)).trans hdt) ((oT.2.1 _ (by unfold rB; omega)).trans h89)
    refine ⟨s1, t2, an, aw, e1, e2, ⟨ts, p, ir, iv, e7, e8, e9, c4, c5, e3, e4, e5, e6⟩, sW_t oS (sW_out e10 (fun k h => ⟨fun f z => by unfold fiaI waI at z; unfold cA at h; omega, fun f z => by unfold fiaF tF waF at z; unfold cA at h; omega⟩)), tW_t oT (tW_out e11 (fun f h z => by unfold raI at z; unfold rB at h; omega) (fun k f h z => by unfold raF at z; unfold rA at h; omega)), fun n hn' => ?_, e10.1.2.2.2.2.1, e10.1.2.2.2.2.2⟩
    rw [e11.2.2 _ _ (by unfold raF; omega), e11.2.2 _ _ (by unfold raF; omega)]
    exact l1 n hn'
  obtain ⟨scs, ac, ⟨es, x1, x2, x3, x4, x5, x6⟩, sl, y1, y2, y3, y4, y5, y6⟩ := hT
  rcases x6 with ⟨z1, z2⟩ | ⟨i, z1, z2, z3⟩
  · -- no script
    have hF : t.F 1150 u = -1 := by
      rcases y6 with ⟨w1, w2⟩ | ⟨j, w1, w2, w3⟩
      · exact w2
      · rw [z1] at w1; cases w1
    obtain ⟨t1, b1, b2, b3⟩ := r_sort0F hu h89 hF hls
    obtain ⟨S, c1, c2, c3, c4, c5⟩ := c_fin0 (bx := bx) (ts := []) (x := nI dy) hbx a2
    have oS : sW cA s S := sW_t o0 (sW_out c5 (fun k h => ⟨fun f z => by unfold pfI at z; unfold cA at h; omega, fun f z => by unfold pfF at z; unfold cA at h; omega⟩))
    have hfc0 : fcP bx [] (plE [] pl0) = false := by rw [fcP_E]; exact fcB_f.mpr ⟨by decide, by decide, fun z => (by cases z), by decide, hbx.2.1⟩
    obtain ⟨s1, t2, an, aw, e1, e2, e3, e4, e5, e6, e7, e8⟩ := fin S t1 [] (plE [] pl0) 0 0 oS (tW_sort hnt b1) b3 c2 b2 sFR_0 hfc0 (dsF_E (p := pl0) (fun i j _ hj => absurd hj (Nat.not_lt_zero j))) c3 c4
    refine ⟨s1, t2, an, aw, ?_, ?_, e3, e4, e5, e6, e7.trans (c5.1.2.2.2.2.1.trans n0.1), e8.trans (c5.1.2.2.2.2.2.trans n0.2.1)⟩
    · unfold cRun
      rw [z2]
      show ((pgt 26 s 4 (nI u)).bind fun j12 => if uSo j12 10 then ((fn_X7_begin j12 (nI ri) s).bind fun s15 => (fn_X7_finish (s15.I 0 13) s15).bind K) else none) = _
      rw [pgt_usr hu, Option.bind_some, if_pos (so_usr hu), a1, Option.bind_some, d0]
      unfold fn_X7_finish
      rw [a3, if_pos rfl, c1, e1, Option.bind_some]
    · rw [b1, Option.bind_some]; exact e2
  · -- the active script
    obtain ⟨hP, hE⟩ := x4 i z2
    obtain ⟨sI, hF, hsl⟩ : ∃ j : Nat, ac = some j ∧ j < scs.length ∧ t.F 1150 u = nI (sl.getD j 0) := by
      rcases y6 with ⟨w1, w2⟩ | ⟨j, w1, w2, w3⟩
      · rw [z1] at w1; cases w1
      · exact ⟨j, w1, w2, w3⟩
    have ei : sI = i := by rw [z1] at hF; exact (Option.some.inj hF).symm
    subst ei
    obtain ⟨q1, q2, q3, q4⟩ := y4 sI z2
    obtain ⟨g1, g2, g3, g4, tb, g5, g6⟩ := hE
    obtain ⟨r1, r2, r3, r4, r5⟩ := o0.2 _ g1 (cA_n _ g2)
    obtain ⟨k1, k2, k3, k4, k5⟩ := o0.2 _ g6.1 (cA_n _ g6.2.1)
    have hx0 : cBn s0 tb (scs.getD sI sc0).2 := g6.fr o0.1 k1 k4
    obtain ⟨s1, s2, S, t1, b1, b2, b3, b4, b5, ⟨ts, p, ir, iv, c1, c2, c3, c4, c5, c6, c7⟩, b7⟩ := t_scrF (day := nI dy) (nm := (scs.getD sI sc0).1) (sl := sl.getD sI 0) hu hn0 hnt a2 a3 a4 hx0 (hM.sw o0 hn) ho as_ ar hri (hB.sw o0 (by omega) (by unfold cA; omega) (by unfold cA; omega) (by unfold cA; omega) (by unfold cA; omega)) hbx h89 hsl.2 (by omega) q4 hls hRM hRB
    have fp := zc_X4_parse b1
    have np := (fp hn0).2.2.1 (by decide)
    have hn1 : 1171 ≤ s1.n := by rw [np.1]; exact hn0
    have fr := zc_X7_run b2
    have nr := (fr hn1).2.2.1 (by decide)
    have hn2 : 1171 ≤ s2.n := by rw [nr.1]; exact hn1
    obtain ⟨s3, t2, an, aw, e1, e2, e3, e4, e5, e6, e7, e8⟩ := fin S t1 ts p ir iv (sW_t o0 b7) (tW_sort hnt b4) b5 c1 c2 c3 c4 c5 c6 c7
    have ff := zc_X7_finish (b3.trans e1)
    have nf := (ff hn2).2.2.1 (by decide)
    have d2 : s2.I 0 13 = nI dy := by
      have o2 := sW_agf fr hn1 cA_run
      have p1 := (agf_R fp hn0 (k := 0) (f := 13) (by omega) (by decide) (by decide) (by decide)).1
      rw [(o2.2 0 (by omega) (by unfold cA; omega)).2.1, p1]
      exact d0
    refine ⟨s3, t2, an, aw, ?_, ?_, e3, e4, e5, e6, ?_, ?_⟩
    · unfold cRun
      rw [z3]
      show ((pgt 26 s 4 (nI u)).bind fun j17 => if uSo j17 10 then ((fn_X7_begin j17 (nI ri) s).bind fun s20 => if uIs s20 (es.getD sI 0) 1 then ((s20.R (es.getD sI 0) 1).bind fun j23 => if uIs s20 (es.getD sI 0) 1 then ((s20.R (es.getD sI 0) 1).bind fun j26 => (ulen s20 j26).bind fun v28 => (fn_X4_parse j23 0 v28 s20).bind fun r30 => (fn_X7_run r30.1).bind fun s32 => (fn_X7_finish (s32.I 0 13) s32).bind K) else none) else none) else none) = _
      have his : uIs s0 (es.getD sI 0) 1 := by
        refine ⟨Or.inr (Nat.lt_of_lt_of_le g1 o0.1), ?_⟩
        unfold uCl
        rw [if_neg (by omega), r1]
        exact g3
      have hR1 : s0.R (es.getD sI 0) 1 = some tb := by rw [r3]; exact g5
      rw [pgt_usr hu, Option.bind_some, if_pos (so_usr hu), a1, Option.bind_some, if_pos his, hR1, Option.bind_some, if_pos his, Option.bind_some, hx0.len, Option.bind_some, show fn_X4_parse tb 0 (nI (scs.getD sI sc0).2.length) s0 = some (s1, nI 0) from b1, Option.bind_some]
      dsimp only
      rw [b2, Option.bind_some, d2, b3, e1, Option.bind_some]
    · rw [b4, Option.bind_some]; exact e2
    · rw [nf.1, nr.1, np.1, n0.1]
    · rw [nf.2.1, nr.2.1, np.2.1, n0.2.1]
