/-! one recipient: a commit between, and the step as a whole -/
theorem cFR.c {s s1 : uS} {u : Nat} {bx ts : List (List Nat)} {p : pl} {ir iv : Nat} (h : cFR s u bx ts p ir iv) (hI : s1.I 1070 = s.I 1070) (hF : s1.F = s.F) (hR : s1.R = s.R) : cFR s1 u bx ts p ir iv := by
  obtain ⟨h1, h2, h3, h4, h5, h6, h7, h8⟩ := h
  exact ⟨h1.a (by rw [hI]) (by rw [hF]) (by rw [hF]), h2.a (by rw [hI]) (by rw [hF]), h3.a (by rw [hI]) (by rw [hF]), by rw [hR]; exact h4, by rw [hR]; exact h5, by rw [hR]; exact h6, h7, h8⟩
theorem rFR.c {t t1 : uS} {ts : List (List Nat)} {p : pl} (h : rFR t ts p) (hI : ∀ f : Nat, 94 ≤ f → t1.I 1079 f = t.I 1079 f) (hF : t1.F = t.F) : rFR t1 ts p := by
  obtain ⟨h1, h2, h3, h4, h5, h6, h7⟩ := h
  refine ⟨h1.fr (fun k j z => by rw [hF]), ⟨(hI _ (by omega)).trans h2.1, fun k hk => ?_⟩, ⟨(hI _ (by omega)).trans h3.1, fun k hk => ?_⟩, (hI _ (by omega)).trans h4, fun z => (hI _ (by omega)).trans (h5 z), (hI _ (by omega)).trans h6, fun z => (hI _ (by omega)).trans (h7 z)⟩
  · rw [hF]; exact h2.2 k hk
  · rw [hF]; exact h3.2 k hk
theorem sFR.c {s t s1 t1 : uS} {ts : List (List Nat)} {p : pl} {ir iv : Nat} (h : sFR s t ts p ir iv) (hI : ∀ k : Nat, k ≠ 0 → s1.I k = s.I k) (hF : s1.F = s.F) (ht : t1.F = t.F) (hir : ir < 320) (hiv : iv < 320) : sFR s1 t1 ts p ir iv := by
  rcases h with z | ⟨ts1, bg, z1, z2, z3, z4⟩
  · exact Or.inl z
  · exact Or.inr ⟨ts1, bg, z1.fr (by rw [hI 8 (by decide)]) (by rw [hI 8 (by decide)]) (by rw [hI 8 (by decide)]) (by rw [hF]) (by rw [hF]) (by rw [hF]), z2, z3, z4.fr (fun i hi => ⟨fun f => by rw [hI _ (by omega)], fun f => by rw [hF], fun f => by rw [hF]⟩) (fun r f a b => by rw [ht]) hir hiv⟩
theorem t_one {s t : uS} {dy ri : Nat} {tx snd : List Nat} {rcs : List (List Nat)} {us : List Nat} (K20 : Int32 → Int32 → uS → Option uS) (h : dM dy tx snd rcs us s t) (hE : crE tx) (as_ : adO snd) (hd : dlS rcs us) (hi : ri < rcs.length) (hn2 : s.n + 20 ≤ 600000) (hm2 : s.m + 11000 ≤ 7302250) : ∃ (s1 t1 : uS) (b : Bool), fb_X11_deliver_20 K20 (nI rcs.length) (nI ri) s = K20 (nI rcs.length) (nI (ri + 1)) s1 ∧ fn_X12_deliver (nI ri) t = some (t1, b) ∧ dOut dy tx snd rcs us s t s1 t1 b := by
  have h0 := h
  obtain ⟨hw, ⟨cm, ct, hcn, hrn⟩, ⟨hn, hnt⟩, hls, hM, hs0, hT, hRT, hRs, hRc⟩ := h
  obtain ⟨hpl, har⟩ := hd ri hi
  obtain ⟨hu, -⟩ := hRc.2.2.2 ri hi
  have hr4 := hRc.2.1
  have hTl := hT.1
  obtain ⟨u, hu0⟩ : ∃ u, u = us.getD ri 0 := ⟨_, rfl⟩
  rw [← hu0] at hpl hu
  -- the reference up to the script
  obtain ⟨t1, a1, a2, a3, a4⟩ := r_take hRc hi
  rw [← hu0] at a2
  have y1 : tY t t1 := tY_out a4 (fun f b z => by unfold rkI at z; unfold yB at b; omega) (fun k f b z => by unfold rkF at z; unfold yA at b; omega)
  have x1 : tX t t1 := tX_out a4 (fun f b z => by unfold rkI at z; unfold xB at b; omega) (fun k f b z => by unfold rkF at z; unfold xA at b; omega)
  obtain ⟨t2, b1, b2, b3⟩ := r_header (hRT.ty y1) hE
  have y2 : tY t t2 := tY_t y1 (tY_out b3 (fun f b z => by unfold rhI at z; unfold yB at b; omega) (fun k f b z => by unfold rhF at z; unfold yA at b; omega))
  have x2 : tX t t2 := tX_t x1 (tX_out b3 (fun f b z => by unfold rhI at z; unfold xB at b; omega) (fun k f b z => by unfold rhF at z; unfold xA at b; omega))
  have hls2 : lsO t2 := fun n hn' => by
    rw [b3.2.2 _ _ (by unfold rhF; omega), b3.2.2 _ _ (by unfold rhF; omega), a4.2.2 _ _ (by unfold rkF; omega), a4.2.2 _ _ (by unfold rkF; omega)]
    exact hls n hn'
  have hw2 : wW dy s t2 := hw.o hn oc_r x2
  have hRT2 := hRT.ty y2
  have hRM2 : rMs t2 (hdr tx) snd (rcs.getD ri []) tx.length := ⟨b2, hRs.ty y2, a3.o b3 (by unfold rhI; omega) (fun f => by unfold rhF; omega), hRT2.2.2.1, hTl⟩
  have hnt2 : 1171 ≤ t2.n := Nat.le_trans hnt y2.1
  have d2 : t2.I 1079 1 = nI dy := by rw [b3.2.1 _ _ (by unfold rhI; omega), a4.2.1 _ _ (by unfold rkI; omega)]; exact hrn.2.1
  have u2 : t2.I 1079 89 = nI u := by rw [b3.2.1 _ _ (by unfold rhI; omega)]; exact a2
  obtain ⟨bx, bgx, c1, c2, c3, c4⟩ := hw2.1 u hu
  obtain ⟨ns, c5, c6, c7⟩ := hw2.2.1 u hu
  obtain ⟨s1, t3, an, aw, e1, e2, ⟨ts, p, ir, iv, f1, f2, f3, f4, f5, f6, f7, f8, f9⟩, e4, e5, e6, e7, e8⟩ := t_run (kT K20 rcs.length ri u) hu hn hnt2 (hw2.2.2.1 u hu) hM hs0 (hdr_ok hE hT.2.1 hTl) as_ har hi hRM2 c1 c2 c4 c5 c6 c7 hcn.2.1 d2 u2 hls2
  have y3 : tY t t3 := tY_t y2 (tY_w e5)
  have o3 : sW cS s s1 := cA_S e4
  have hw3 : wW dy s1 t3 := hw2.w hn e4 e5
  have r0 := (e4.2 0 (by omega) (by unfold cA; omega)).2.1
  have hcn3 : cN s1 true dy cm ct := by obtain ⟨z1, z2, z3, z4, z5⟩ := hcn; exact ⟨by rw [r0]; exact z1, by rw [r0]; exact z2, by rw [r0]; exact z3, by rw [r0]; exact z4, z5⟩
  have J3 : ∀ f : Nat, f ≤ 3 → t3.I 1079 f = t.I 1079 f := fun f hf => by rw [e5.2.1 _ (by unfold rB; omega), b3.2.1 _ _ (by unfold rhI; omega), a4.2.1 _ _ (by unfold rkI; omega)]
  have hrn3 : rN t3 true dy cm ct := by obtain ⟨z1, z2, z3, z4, z5⟩ := hrn; exact ⟨(J3 _ (by omega)).trans z1, (J3 _ (by omega)).trans z2, (J3 _ (by omega)).trans z3, (J3 _ (by omega)).trans z4, z5⟩
  have dm3 : dM dy tx snd rcs us s1 t3 := h0.m o3 y3 hw3 ⟨cm, ct, hcn3, hrn3⟩ e6
  have i9 : s1.I 0 9 = s.I 0 9 := by rw [r0]
  have hn3 : 1171 ≤ s1.n := by rw [e7]; exact hn
  -- the class up to the script
  have cls : fb_X11_deliver_20 K20 (nI rcs.length) (nI ri) s = kT K20 rcs.length ri u s1 := by
    unfold fb_X11_deliver_20
    have hpi := c_plIn (W := kW_11) uTx_rc hM.2.2.1.choose_spec hi (by decide) (by decide)
    rw [hpl] at hpi
    have huo : fn_X0_userOf (nI ri) s = some (nI u) := by
      unfold fn_X0_userOf
      rw [hpi, Option.bind_some]
      have : ∀ v : Nat, v < 4 → some (if (0 : Int32) < oI (some v) then oI (some v) else (0 : Int32)) = some (nI v) := by decide
      exact this u hu
    have htb : fn_X0_isTooBig s = some false := by
      unfold fn_X0_isTooBig
      rw [hM.2.2.2.1, if_pos (show nI tx.length ≤ 4000 from nI_le (b := 4000) hTl (by decide))]
    rw [if_neg (nI_ge hi (by omega)), hcn.1, if_neg (by decide), htb, Option.bind_some, if_neg (by decide), huo, Option.bind_some, pgt_usr hu, Option.bind_some, if_pos (so_usr hu)]
    rw [← e1]
    unfold cRun
    rw [pgt_usr hu]
    rfl
  have ref : fn_X12_deliver (nI ri) t = fb_X12_deliver_146 aw an.isSome t3 := by
    rw [a1, (hRT.ty y1).2.2.1, if_pos (show nI tx.length ≤ 4000 from nI_le (b := 4000) hTl (by decide)), b1, Option.bind_some]
    exact e2
  obtain ⟨ms, p0, m1, m2, m3, m4⟩ := hw3.2.2.2.2
  obtain ⟨g1, g2, g3, g4, g5⟩ := fcB_f.mp f4
  have hF6 : (pF p).length ≤ 6 := by rw [← cf_len (bx := bx) (ts := ts)]; exact f1.1.2.1
  have hfc := c_fits (an := an) (nF := (pF p).length) (tx := tx) m1 m4 (by rw [f1.1.1, cf_len]) hF6 f1.2.2.1.1 g1 dm3.2.2.2.2.1.2.2.2.1 hTl f6.1 (fun x hx => ⟨by have := (f6.2 x hx).1.2.2.2.1; rw [Nat.zero_add] at this; exact this, f9 x hx⟩)
  have hfr := r_fits (aw := aw) (an := an) (tx := tx) m2 m4 f2.2.1.1 hF6 f2.2.2.1.1 g1 (hRT.ty y3).2.2.1 hTl (fun x hx => ⟨(f6.2 x hx).2.1, f9 x hx⟩)
  rw [cls, ref, hfr]
  unfold kT
  rw [hfc, Option.bind_some]
  cases hb : fitB ms p0 (pF p).length (pDr p).length tx.length an with
  | false =>
    rw [if_neg (by decide), if_neg (by decide)]
    obtain ⟨s2, t4, q1, q2, q3⟩ := q_lineP (show 4 < 5 by decide) (w := kW_2) (by decide) (hw3.2.2.2.1 4 (by decide))
    refine ⟨s2, t4, true, ?_, ?_, s2, t4, dm3.m q3.cs.1 q3.cs.2 (hw3.q hn3 q3) (q3.cn ⟨cm, ct, hcn3, hrn3⟩) (q3.ls e6), sW_t o3 q3.cs.1, ?_, tY_t y3 q3.cs.2, ?_, ?_, Or.inl ⟨rfl, rfl, rfl⟩⟩
    · rw [show pgt 24 s1 2 4 = some (qk 4) from pgt_que (show 4 < 5 by decide), Option.bind_some, if_pos (so_que (show 4 < 5 by decide)), q1, Option.bind_some, nI_1]
    · unfold fb_X12_deliver_233
      rw [show kW_160 = kW_2 from rfl, show (4 : Int32) = nI 4 from rfl, q2, Option.bind_some]
    · rw [q3.2.1.2.1 _ _ (fun z => by have := qC4 z; omega)]; exact i9
    · rw [q3.2.1.1.2.2.2.2.1]; omega
    · rw [q3.2.1.1.2.2.2.2.2]; omega
  | true =>
    rw [if_pos rfl, if_pos rfl]
    by_cases c : ct = 1
    · subst c
      rw [c_cutoff hcn3, r_cutoff hrn3, Option.bind_some, Option.bind_some]
      dsimp only
      rw [if_neg (by decide), if_neg (by decide), nI_1]
      exact ⟨_, _, false, rfl, rfl, s1, t3, dm3, o3, i9, y3, by omega, by omega, Or.inr ⟨rfl, ⟨dy, cm, hcn3, hrn3⟩, rfl, rfl⟩⟩
    · rw [c_commit hcn3 c, r_commit hrn3 c, Option.bind_some, Option.bind_some]
      dsimp only
      rw [if_pos rfl, if_pos rfl]
      obtain ⟨s2, hs2⟩ : ∃ s2, s2 = wI (wI s1 0 15 (nI (ct - 1))) 0 14 (nI (cm + 1)) := ⟨_, rfl⟩
      obtain ⟨t4, ht4⟩ : ∃ t4, t4 = wI (wI t3 1079 3 (nI (ct - 1))) 1079 2 (nI (cm + 1)) := ⟨_, rfl⟩
      rw [← hs2, ← ht4]
      have hI2 : ∀ k f : Nat, (k ≠ 0 ∨ (f ≠ 14 ∧ f ≠ 15)) → s2.I k f = s1.I k f := fun k f z => by rw [hs2, wI_o (by omega), wI_o (by omega)]
      have hI2' : ∀ k : Nat, k ≠ 0 → s2.I k = s1.I k := fun k z => funext fun f => hI2 k f (Or.inl z)
      have hF2 : s2.F = s1.F := by rw [hs2, wI_Fe, wI_Fe]
      have hR2 : s2.R = s1.R := by rw [hs2]; rfl
      have hn_2 : s2.n = s1.n ∧ s2.m = s1.m := by rw [hs2]; exact ⟨rfl, rfl⟩
      have hJ4 : ∀ f : Nat, f ≠ 2 → f ≠ 3 → t4.I 1079 f = t3.I 1079 f := fun f z w => by rw [ht4, wI_o (by omega), wI_o (by omega)]
      have hF4 : t4.F = t3.F := by rw [ht4, wI_Fe, wI_Fe]
      have hL4 : t4.L = t3.L := by rw [ht4]; rfl
      have hn_4 : t4.n = t3.n := by rw [ht4]; rfl
      have oc1 : oc okI okF okF okF s1 s2 := by
        rw [hs2]
        exact oc_I (oc_I oc_r (Or.inl (Or.inl ⟨rfl, by omega⟩))) (Or.inl (Or.inl ⟨rfl, by omega⟩))
      have oc2 : oc (fun k f => k = 0 ∧ (f = 14 ∨ f = 15)) rNo rNo rNo s1 s2 := by
        rw [hs2]
        exact oc_I (oc_I oc_r (Or.inl ⟨rfl, Or.inr rfl⟩)) (Or.inl ⟨rfl, Or.inl rfl⟩)
      have tx4 : tX t3 t4 := ⟨fun f z => hJ4 f (by unfold xB at z; omega) (by unfold xB at z; omega), fun k z => ⟨by rw [hF4], by rw [hL4]⟩⟩
      have ty4 : tY t3 t4 := ⟨Nat.le_of_eq hn_4.symm, fun f z => hJ4 f (by unfold yB at z; omega) (by unfold yB at z; omega), fun k z => ⟨by rw [hF4], by rw [hL4]⟩⟩
      have sw2 : sW cS s1 s2 := sW_oc oc2 hn3 (fun k z => ⟨fun f w => by unfold cS at z; omega, fun f w => w, fun f w => w, fun f w => w⟩)
      have hcn4 : cN s2 true dy (cm + 1) (ct - 1) := by obtain ⟨z1, z2, z3, z4, z5⟩ := hcn3; exact ⟨(hI2 _ _ (by omega)).trans z1, (hI2 _ _ (by omega)).trans z2, by rw [hs2, wI_e], by rw [hs2, wI_o (by omega), wI_e], by omega⟩
      have hrn4 : rN t4 true dy (cm + 1) (ct - 1) := by obtain ⟨z1, z2, z3, z4, z5⟩ := hrn3; exact ⟨(hJ4 _ (by omega) (by omega)).trans z1, (hJ4 _ (by omega) (by omega)).trans z2, by rw [ht4, wI_e], by rw [ht4, wI_o (by omega), wI_e], by omega⟩
      have hls4 : lsO t4 := fun n hn' => by rw [hF4]; exact e6 n hn'
      have dm4 : dM dy tx snd rcs us s2 t4 := dm3.m sw2 ty4 (hw3.o hn3 oc1 tx4) ⟨_, _, hcn4, hrn4⟩ hls4
      have lowc : low (fun k f => k = 0 ∧ (f = 14 ∨ f = 15)) := fun k f z w => by omega
      obtain ⟨hw4, -, -, -, hM4, hs4, hT4, hRT4, hRs4, hRc4⟩ := id dm4
      obtain ⟨s3, t5, k1, k2, k3, k4, k5, k6, k7⟩ := t_store (aw := aw) (an := an) (snd := snd) (tx := tx) (ns := ns) (ms := ms) (p0 := p0) (bx := bx) (ts := ts) (p := p) (ir := ir) (iv := iv) (bgx := bgx) hu (by omega) (by omega) (by omega) hw4 hcn4.2.1 hrn4.2.1 ((hJ4 _ (by omega) (by omega)).trans ((e5.2.1 _ (by unfold rB; omega)).trans u2)) c1 ((c2.sw e4 (by omega) (by unfold cA; omega) (by unfold cA; omega) (by unfold cA; omega) (by unfold cA; omega)).oc oc2 (by omega) (fun f z => by omega) (fun _ _ _ _ z => z)) c3 ((c4.tw e5).tx tx4) c5 ((c6.sw e4 hu hn (by unfold cA; omega) (by unfold cA; omega) cA_n).oc oc2 hu hn3 lowc low_no low_no (by omega) (fun _ z => z)) ((c7.tw e5).tx tx4) (m1.oc oc2 hn3 lowc low_no low_no (by omega) (by omega) (by omega) (fun _ z => z)) (m2.tx tx4) (f1.c (hI2' _ (by decide)) hF2 hR2) (f2.c (fun f z => hJ4 f (by omega) (by omega)) hF4) (f3.c hI2' hF2 hF4 f1.2.2.2.2.2.2.1 f1.2.2.2.2.2.2.2) f4 f5 ⟨by rw [hI2' 1070 (by decide)]; exact f6.1, fun x hx => ⟨(f6.2 x hx).1.fr (by rw [hI2' 1075 (by decide)]) (by rw [hI2' 1075 (by decide)]) (by rw [hI2' 1075 (by decide)]) (by rw [hF2]) (by rw [hF2]) (by rw [hF2]), (hJ4 _ (by omega) (by omega)).trans (f6.2 x hx).2.1, (f6.2 x hx).2.2.1, (f6.2 x hx).2.2.2.1, fun j hj => by rw [hF4]; exact (f6.2 x hx).2.2.2.2 j hj⟩⟩ f7 f8 f9 hT4 hM4.2.2.2.1 hs4 hRs.2.2.1 hRT4 hRs4 hb
      have sw3 : sW cS s2 s3 := sW_oc k4 (by omega) (fun k z => ⟨fun f w => by have := w; unfold plI smI naI at this; unfold cS at z; omega, fun f w => by have := w; unfold plF tF at this; unfold cS at z; omega, fun f w => w, fun f w => by have := w; unfold plP smP naP at this; unfold cS at z; omega⟩)
      have ty5 : tY t4 t5 := tY_ol k5 (fun f z w => by unfold gnI at w; unfold yB at z; omega) (fun k f z w => by unfold gnF mbF gbF at w; unfold yA at z; omega) (fun k f z w => by unfold gnL at w; unfold yA at z; omega)
      have hls5 : lsO t5 := fun n hn' => by
        rw [k5.2.2.1 _ _ (by unfold gnF mbF gbF; omega), k5.2.2.1 _ _ (by unfold gnF mbF gbF; omega)]
        exact hls4 n hn'
      have I3 : ∀ f : Nat, 13 ≤ f ∨ f = 9 → s3.I 0 f = s2.I 0 f := fun f z => k4.2.2.2.1 _ _ (by omega) (by unfold plI smI naI; omega)
      have J5 : ∀ f : Nat, f ≤ 3 → t5.I 1079 f = t4.I 1079 f := fun f z => k5.2.1 _ _ (by unfold gnI; omega)
      have hcr5 : ∃ cm ct : Nat, cN s3 true dy cm ct ∧ rN t5 true dy cm ct := by
        obtain ⟨z1, z2, z3, z4, z5⟩ := hcn4
        obtain ⟨w1, w2, w3, w4, w5⟩ := hrn4
        exact ⟨_, _, ⟨(I3 _ (by omega)).trans z1, (I3 _ (by omega)).trans z2, (I3 _ (by omega)).trans z3, (I3 _ (by omega)).trans z4, z5⟩, ⟨(J5 _ (by omega)).trans w1, (J5 _ (by omega)).trans w2, (J5 _ (by omega)).trans w3, (J5 _ (by omega)).trans w4, w5⟩⟩
      have dm5 : dM dy tx snd rcs us s3 t5 := dm4.m sw3 ty5 k3 hcr5 hls5
      obtain ⟨b4', hrc5⟩ := dm5.2.2.2.2.1.2.2.1
      have a3' : rTe t5 91 1136 (rcs.getD ri []) := by
        obtain ⟨z1, z2, z3, z4⟩ := hRM2.2.2.1
        refine ⟨?_, z2, z3, fun j hj => ?_⟩
        · rw [k5.2.1 _ _ (by unfold gnI; omega), hJ4 _ (by omega) (by omega), e5.2.1 _ (by unfold rB; omega)]; exact z1
        · rw [k5.2.2.1 _ _ (by unfold gnF mbF gbF; omega), hF4, (e5.2.2 1136 (by unfold rA; omega)).1]; exact z4 j hj
      obtain ⟨s4, t6, l1, l2, l3⟩ := t_ansD (k3.2.2.2.1 4 (by decide)) hrc5 hi a3'
      refine ⟨s4, t6, true, ?_, ?_, s4, t6, dm5.m l3.cs.1 l3.cs.2 (k3.q dm5.2.2.1.1 l3) (l3.cn hcr5) (l3.ls hls5), sW_t o3 (sW_t sw2 (sW_t sw3 l3.cs.1)), ?_, tY_t y3 (tY_t ty4 (tY_t ty5 l3.cs.2)), ?_, ?_, Or.inl ⟨rfl, rfl, rfl⟩⟩
      · rw [k1, Option.bind_some, l1, Option.bind_some, nI_1]
      · rw [k2]; exact l2
      · rw [l3.2.1.2.1 _ _ (fun z => by have := qC4 z; omega), I3 _ (by omega), hI2 _ _ (by omega)]; exact i9
      · rw [l3.2.1.1.2.2.2.2.1]; omega
      · rw [l3.2.1.1.2.2.2.2.2]; omega
