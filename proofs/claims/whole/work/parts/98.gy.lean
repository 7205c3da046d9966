/-! one recipient: a commit between, and the step as a whole -/
theorem cFR.c {s s1 : uS} {u : Nat} {bx ts : List (List Nat)} {p : pl} {ir iv : Nat} (h : cFR s u bx ts p ir iv) (hI : s1.I 1070 = s.I 1070) (hF : s1.F = s.F) (hR : s1.R = s.R) : cFR s1 u bx ts p ir iv := by
  obtain ⟨h1, h2, h3, h4, h5, h6, h7, h8⟩ := h
  exact ⟨h1.a (by rw [hI]) (by rw [hF]) (by rw [hF]), h2.a (by rw [hI]) (by rw [hF]), h3.a (by rw [hI]) (by rw [hF]), by rw [hR]; exact h4, by rw [hR]; exact h5, by rw [hR]; exact h6, h7, h8⟩
theorem rFR.c {t t1 : uS} {ts : List (List Nat)} {p : pl} (h : rFR t ts p) (hI : ∀ f : Nat, 94 ≤ f → t1.I 1079 f = t.I 1079 f) (hF : t1.F = t.F) : rFR t1 ts p := by
  obtain ⟨h1, h2, h3, h4, h5, h6, h7⟩ := h
  refine ⟨h1.fr (fun k j z => by rw [hF]), ⟨(hI _ (by omega)).trans h2.1, fun k hk => ?_⟩, ⟨(hI _ (by omega)).trans h3.1, fun k hk => ?_⟩, (hI _ (by omega)).trans h4, fun z => (hI _ (by omega)).trans (h5 z), (hI _ (by omega)).trans h6, fun z => (hI _ (by omega)).trans (h7 z)⟩
  · rw [hF]; exact h2.2 k hk
  · rw [hF]; exact h3.2 k hk
theorem sFR.c {s t s1 t1 : uS} {ts : List (List Nat)} {p : pl} {ir iv : Nat} (h : sFR s t ts p ir iv) (hI : ∀ k : Nat, k ≠ 0 → s1.I k = s.I k) (hF : s1.F = s.F) (ht : t1.F = t.F) (hir : ir < 320) (hiv : iv < 320) : sFR s1 t1 ts p ir iv := by
  rcases h with z | ⟨ts1, bg, z1, z2, z3, z4⟩
  · exact Or.inl z
  · exact Or.inr ⟨ts1, bg, z1.fr (by rw [hI 8 (by decide)]) (by rw [hI 8 (by decide)]) (by rw [hI 8 (by decide)]) (by rw [hF]) (by rw [hF]) (by rw [hF]), z2, z3, z4.fr (fun i hi => ⟨fun f => by rw [hI _ (by omega)], fun f => by rw [hF], fun f => by rw [hF]⟩) (fun r f a b => by rw [ht]) hir hiv⟩
theorem t_one {s t : uS} {dy ri : Nat} {tx snd : List Nat} {rcs : List (List Nat)} {us : List Nat} (K20 : Int32 → Int32 → uS → Option uS) (h : dM dy tx snd rcs us s t) (hE : crE tx) (as_ : adO snd) (hd : dlS rcs us) (hi : ri < rcs.length) (hn2 : s.n + 20 ≤ 600000) (hm2 : s.m + 11000 ≤ 7302250) : ∃ (s1 t1 : uS) (b : Bool), fb_X11_deliver_20 K20 (nI rcs.length) (nI ri) s = K20 (nI rcs.length) (nI (ri + 1)) s1 ∧ fn_X12_deliver (nI ri) t = some (t1, b) ∧ dOut dy tx snd rcs us s t s1 t1 b := by
  have h0 := h
  obtain ⟨hw, ⟨cm, ct, hcn, hrn⟩, ⟨hn, hnt⟩, hls, hM, hs0, hT, hRT, hRs, hRc⟩ := h
  obtain ⟨hpl, har⟩ := hd ri hi
  obtain ⟨hu, -⟩ := hRc.2.2.2 ri hi
  have hr4 := hRc.2.1
  have hTl := hT.1
  obtain ⟨u, hu0⟩ : ∃ u, u = us.getD ri 0 := ⟨_, rfl⟩
  rw [← hu0] at hpl hu
  -- the reference up to the script
  obtain ⟨t1, a1, a2, a3, a4⟩ := r_take hRc hi
  rw [← hu0] at a2
  have y1 : tY t t1 := tY_out a4 (fun f b z => by unfold rkI at z; unfold yB at b; omega) (fun k f b z => by unfold rkF at z; unfold yA at b; omega)
  have x1 : tX t t1 := tX_out a4 (fun f b z => by unfold rkI at z; unfold xB at b; omega) (fun k f b z => by unfold rkF at z; unfold xA at b; omega)
  obtain ⟨t2, b1, b2, b3⟩ := r_header (hRT.ty y1) hE
  have y2 : tY t t2 := tY_t y1 (tY_out b3 (fun f b z => by unfold rhI at z; unfold yB at b; omega) (fun k f b z => by unfold rhF at z; unfold yA at b; omega))
  have x2 : tX t t2 := tX_t x1 (tX_out b3 (fun f b z => by unfold rhI at z; unfold xB at b; omega) (fun k f b z => by unfold rhF at z; unfold xA at b; omega))
  have hls2 : lsO t2 := fun n hn' => by
    rw [b3.2.2 _ _ (by unfold rhF; omega), b3.2.2 _ _ (by unfold rhF; omega), a4.2.2 _ _ (by unfold rkF; omega), a4.2.2 _ _ (by unfold rkF; omega)]
    exact hls n hn'
  have hw2 : wW dy s t2 := hw.o hn oc_r x2
  have hRT2 := hRT.ty y2
  have hRM2 : rMs t2 (hdr tx) snd (rcs.getD ri []) tx.length := ⟨b2, hRs.ty y2, a3.o b3 (by unfold rhI; omega) (fun f => by unfold rhF; omega), hRT2.2.2.1, hTl⟩
  have hnt2 : 1171 ≤ t2.n := Nat.le_trans hnt y2.1
  have d2 : t2.I 1079 1 = nI dy := by rw [b3.2.1 _ _ (by unfold rhI; omega), a4.2.1 _ _ (by unfold rkI; omega)]; exact hrn.2.1
  have u2 : t2.I 1079 89 = nI u := by rw [b3.2.1 _ _ (by unfold rhI; omega)]; exact a2
  obtain ⟨bx, bgx, c1, c2, c3, c4⟩ := hw2.1 u hu
  obtain ⟨ns, c5, c6, c7⟩ := hw2.2.1 u hu
  obtain ⟨s1, t3, an, aw, e1, e2, ⟨ts, p, ir, iv, f1, f2, f3, f4, f5, f6, f7, f8, f9⟩, e4, e5, e6, e7, e8⟩ := t_run (kT K20 rcs.length ri u) hu hn hnt2 (hw2.2.2.1 u hu) hM hs0 (hdr_ok hE hT.2.1 hTl) as_ har hi hRM2 c1 c2 c4 c5 c6 c7 hcn.2.1 d2 u2 hls2
  have y3 : tY t t3 := tY_t y2 (tY_w e5)
  have o3 : sW cS s s1 := cA_S e4
  have hw3 : wW dy s1 t3 := hw2.w hn e4 e5
  have r0 := (e4.2 0 (by omega) (by unfold cA; omega)).2.1
  have hcn3 : cN s1 true dy cm ct := by obtain ⟨z1, z2, z3, z4, z5⟩ := hcn; exact ⟨by rw [r0]; exact z1, by rw [r0]; exact z2, by rw [r0]; exact z3, by rw [r0]; exact z4, z5⟩
  have J3 : ∀ f : Nat, f ≤ 3 → t3.I 1079 f = t.I 1079 f := fun f hf => by rw [e5.2.1 _ (by unfold rB; omega), b3.2.1 _ _ (by unfold rhI; omega), a4.2.1 _ _ (by unfold rkI; omega)]
  have hrn3 : rN t3 true dy cm ct := by obtain ⟨z1, z2, z3, z4, z5⟩ := hrn; exact ⟨(J3 _ (by omega)).trans z1, (J3 _ (by omega)).trans z2, (J3 _ (by omega)).trans z3, (J3 _ (by omega)).trans z4, z5⟩
  have dm3 : dM dy tx snd rcs us s1 t3 := h0.m o3 y3 hw3 ⟨cm, ct, hcn3, hrn3⟩ e6
  have i9 : s1.I 0 9 = s.I 0 9 := by rw [r0]
  have hn3 : 1171 ≤ s1.n := by rw [e7]; exact hn
  -- the class up to the script
  have cls : fb_X11_deliver_20 K20 (nI rcs.length) (nI ri) s = kT K20 rcs.length ri u s1 := by
    unfold fb_X11_deliver_20
    have hpi := c_plIn (W := kW_11) uTx_rc hM.2.2.1.choose_spec hi (by decide) (by decide)
    rw [hpl] at hpi
    have huo : fn_X0_userOf (nI ri) s = some (nI u) := by
      unfold fn_X0_userOf
      rw [hpi, Option.bind_some]
      have : ∀ v : Nat, v < 4 → some (if (0 : Int32) < oI (some v) then oI (some v) else (0 : Int32)) = some (nI v) := by decide
      exact this u hu
    have htb : fn_X0_isTooBig s = some false := by
      unfold fn_X0_isTooBig
      rw [hM.2.2.2.1, if_pos (show nI tx.length ≤ 4000 from nI_le (b := 4000) hTl (by decide))]
    rw [if_neg (nI_ge hi (by omega)), hcn.1, if_neg (by decide), htb, Option.bind_some, if_neg (by decide), huo, Option.bind_some, pgt_usr hu, Option.bind_some, if_pos (so_usr hu)]
    rw [← e1]
    unfold cRun
    rw [pgt_usr hu]
    rfl
  have ref : fn_X12_deliver (nI ri) t = fb_X12_deliver_146 aw an.isSome t3 := by
    rw [a1, (hRT.ty y1).2.2.1, if_pos (show nI tx.length ≤ 4000 from nI_le (b := 4000) hTl (by decide)), b1, Option.bind_some]
    exact e2
  sorry
