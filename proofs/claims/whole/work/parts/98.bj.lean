/-! PUTSCRIPT, CHECKSCRIPT -/
/-- both have parsed part p of the line -/
theorem m_parse (PW : parseW) {u p : Nat} (hu : u < 4) (hp2 : p < 2) {s t : uS} {ps : List (Nat × List Nat)} {bg v : Nat} (h : cCx u s t ps bg v) (hls : lsO t) (hp : p < ps.length) : ∃ (fr : Nat) (s1 t0 t1 : uS) (ln : Nat) (r : Int32), iget 20 s (978 + 16 * u + 1 + 2) (nI p) = some (nI fr) ∧ iget 20 s (978 + 16 * u + 1 + 3) (nI p) = some (nI (fr + (ps.getD p pk0).2.length)) ∧ fn_X4_parse (978 + 16 * u + 1 + 1) (nI fr) (nI (fr + (ps.getD p pk0).2.length)) s = some (s1, nI ln) ∧ fn_X12_source (nI u) (nI p) t = some t0 ∧ fn_X12_read t0 = some (t1, r) ∧ pMid u s t s1 t1 ∧ s1.n = s.n ∧ s1.m = s.m ∧ oc psI psI psI psI s s1 ∧ ol scI scF rNo t t1 ∧ lsO t1 ∧ t1.I 1079 29 = nI (ps.getD p pk0).2.length ∧ (∀ j : Nat, j < (ps.getD p pk0).2.length → t1.F 1096 j = nI ((ps.getD p pk0).2.getD j 0)) ∧ (ln = 0 ∧ r < 0 ∧ gdS (ps.getD p pk0).2 ∨ ∃ q : Nat, q ≤ (ps.getD p pk0).2.length ∧ r = nI q ∧ ln = 1 + lnc (ps.getD p pk0).2 q) := by
  obtain ⟨fr, a1, a2, a3, a4⟩ := tz_rd (kOk_u hu).1 h.2.2.1 (show p < (ps.map Prod.snd).length by rw [List.length_map]; exact hp)
  rw [getD_map_snd] at a2 a3 a4
  have hpt := h.2.2.2.1 p hp2 hp
  have hx := hpt.1
  generalize (ps.getD p pk0).2 = x at *
  have hk := (kOk_u hu).1
  have e29 : (cpy (wI t 1079 29 (nI x.length)) 1096 0 0 x.length (fun j => nI (x.getD j 0))).I 1079 29 = nI x.length := by rw [cpy_I, wI_e]
  have e96 : ∀ j : Nat, j < x.length → (cpy (wI t 1079 29 (nI x.length)) 1096 0 0 x.length (fun j => nI (x.getD j 0))).F 1096 j = nI (x.getD j 0) := fun j hj => by have := cpy_Fe (s := wI t 1079 29 (nI x.length)) (K := 1096) (off := 0) (g := fun j => nI (x.getD j 0)) (Nat.zero_le j) hj; rwa [Nat.zero_add] at this
  have eLs : lsO (cpy (wI t 1079 29 (nI x.length)) 1096 0 0 x.length (fun j => nI (x.getD j 0))) := fun n hn => by rw [cpy_Fo (by omega), cpy_Fo (by omega)]; exact hls n hn
  obtain ⟨s1, t1, ln, r, b1, b2, b3, b4, b5, b6, b8, b7⟩ := PW s (cpy (wI t 1079 29 (nI x.length)) 1096 0 0 x.length (fun j => nI (x.getD j 0))) (978 + 16 * u + 1 + 1) fr 6000 x (by omega) hk.2.1 (by omega) (by omega) a3 a4 hx h.1.1 e29 e96 eLs
  have o0 : ol scI scF rNo t (cpy (wI t 1079 29 (nI x.length)) 1096 0 0 x.length (fun j => nI (x.getD j 0))) := ol_t (ol_I ol_r (by unfold scI; omega)) (ol_out (out_cpy (fun f => by unfold scF; omega)))
  have o1 : ol scI scF rNo t t1 := ol_t o0 (ol_w b6 (fun k f h => by unfold rdI at h; unfold scI; omega) (fun k f h => by unfold rdF at h; unfold scF; omega) (fun _ _ h => h))
  refine ⟨fr, s1, _, t1, ln, r, a1, a2, b1, r_source hu hp2 hpt, b2, h.2.1.ps hu h.1.1 b3 o1, b4, b5, b3, o1, b8, ?_, ?_, b7.imp (fun z => ⟨z.1, z.2, _, t1, r, e29, e96, eLs, b2, z.2⟩) (fun z => z)⟩
  · rw [b6.2.1 _ _ (by unfold rdI; omega), cpy_I, wI_e]
  · intro j hj
    rw [b6.2.2.1 _ _ (by unfold rdF; omega)]
    have := cpy_Fe (s := wI t 1079 29 (nI x.length)) (K := 1096) (off := 0) (g := fun j => nI (x.getD j 0)) (Nat.zero_le j) hj
    rwa [Nat.zero_add] at this
/-- a fault is told -/
theorem m_fault {u : Nat} (hu : u < 4) {s t s1 t0 t1 : uS} {x : List Nat} {q : Nat} (hs : 1171 ≤ s.n) (hx : x.length ≤ 2000) (h8 : bys x) (hq : q ≤ x.length) (hr : fn_X12_read t0 = some (t1, nI q)) (h : pMid u s t s1 t1) (hn : s1.n = s.n) (hm : s1.m = s.m) (hF : ∀ j : Nat, j < x.length → t1.F 1096 j = nI (x.getD j 0)) : ∃ s2 t2 : uS, fn_X5_faultLine (qk u) (nI (1 + lnc x q)) s1 = some s2 ∧ fn_X12_isScript (nI u) t0 = some (t2, false) ∧ cmdR u s t s2 t2 true := by
  have hln := lnc_le x q
  obtain ⟨s2, t2, t3, t4, a1, a2, a3, a4, a5, a6, a7⟩ := q_fault (n := 1 + lnc x q) hu (by omega) h.2.1
  obtain ⟨b1, b2, b3⟩ := h.qq hu hs a5 a6 a7
  refine ⟨s2, t4, a1, ?_, Or.inl ⟨rfl, b1⟩, by omega, by omega⟩
  unfold fn_X12_isScript
  rw [hr, Option.bind_some]
  show (if (0 : Int32) ≤ nI q then fn_X12_isScript_16 uFu (nI u) (nI q) 1 0 t1 else _) = _
  have := r_scL hu hx h8 hq hF uFu 0 (by show _ < 0 + 1000000; omega) (Nat.zero_le _)
  have this' : fn_X12_isScript_16 uFu (nI u) (nI q) 1 0 t1 = _ := this
  rw [if_pos (nI_pos' (by omega)), this', a2, Option.bind_some, a3, Option.bind_some, a4, Option.bind_some]
theorem cCx.tz {u : Nat} {s s1 t : uS} {ps : List (Nat × List Nat)} {bg v : Nat} (hu : u < 4) (h : cCx u s t ps bg v) (o : oc psI psI psI psI s s1) : cTz s1 (978 + 16 * u + 1) 6000 3 (ps.map Prod.snd) bg [] := by
  have hs := h.1.1
  exact h.2.2.1.fr (o.2.2.2.1 _ _ (by omega) (by unfold psI; omega)) (o.2.2.2.1 _ _ (by omega) (by unfold psI; omega)) (o.2.2.2.1 _ _ (by omega) (by unfold psI; omega)) (o.F (by omega) (fun f => by unfold psI; omega)) (o.F (by omega) (fun f => by unfold psI; omega)) (o.F (by omega) (fun f => by unfold psI; omega))
theorem rPt.ol {u p : Nat} (hu : u < 4) {t t1 : uS} {x : List Nat} (h : rPt u p t x) (o : ol scI scF rNo t t1) : rPt u p t1 x := by
  obtain ⟨a, b, c, d⟩ := h
  exact ⟨a, b, (o.2.2.1 _ _ (by unfold scF; omega)).trans c, fun j hj => (o.2.2.1 _ _ (by unfold scF; omega)).trans (d j hj)⟩
theorem m_check (PW : parseW) {u : Nat} (hu : u < 4) {s t : uS} {ps : List (Nat × List Nat)} {bg v : Nat} (h : cCx u s t ps bg v) (hls : lsO t) (hp : ps.length = 1) : ∃ s1 t1 : uS, fn_X11_execute (nI u) 1 s = some s1 ∧ fb_X12_ordered_83 (nI u) 1 true t = some (t1, true) ∧ cmdR u s t s1 t1 true := by
  have hu5 : u < 5 := by omega
  obtain ⟨fr, s1, t0, t1, ln, r, a1, a2, a3, a4, a5, a6, a7, a8, a9, a10, aL, a11, a12, a13⟩ := m_parse PW hu (show 0 < 2 by decide) h hls (by omega)
  have hc : s.I (978 + 16 * u + 1) 3 = nI 1 := by have := h.2.2.1.1; rw [List.length_map, hp] at this; exact this
  have hpt := h.2.2.2.1 0 (by decide) (by omega)
  obtain ⟨scs, ac, ⟨es, h4⟩, sl, h5⟩ := a6.2.2.1
  have htz := h.tz hu a9
  have hnm := c_named hu (kOk_u hu).1 htz (show 0 < (ps.map Prod.snd).length by rw [List.length_map]; omega) h4
  have hnm' : fn_X10_scriptNamed (985 + 16 * u) (978 + 16 * u + 1) 0 s1 = _ := hnm
  unfold fn_X11_execute fn_X11_takeScript fb_X12_ordered_83
  have e1 : (nI 1 - 1 : Int32) = nI 0 := rfl
  simp only [show ¬ ((1 : Int32) = 0) by decide, ↓reduceIte, pgt_ses hu, Option.bind_some, if_pos (so_ses hu), hc, e1, a1, a2, a3, pgt_usr hu, if_pos (so_usr hu), hnm', pgt_que hu5, if_pos (so_que hu5)]
  have a4' : fn_X12_source (nI u) 0 t = some t0 := a4
  rw [a4', Option.bind_some]
  rcases a13 with ⟨l0, r0, -⟩ | ⟨q, q1, q2, q3⟩
  · subst l0
    have hsc : fn_X12_isScript (nI u) t0 = some (t1, true) := by
      unfold fn_X12_isScript
      rw [a5, Option.bind_some]
      show (if (0 : Int32) ≤ r then _ else _) = _
      rw [if_neg (Int32.not_le.mpr r0)]
    rw [hsc, Option.bind_some]
    obtain ⟨s2, t2, l1, l2, l3⟩ := cmd_line hu (w := kW_3) (by decide) a6 h.1.1 (by omega) (by omega)
    refine ⟨s2, t2, ?_, ?_, l3⟩
    · rw [l1]
      cases (snx ((ps.map Prod.snd).getD 0 []) scs 0).map (fun i => es.getD i 0) <;> rfl
    · show ((fn_X12_line (nI u) kW_204 t1).bind _) = _
      rw [show kW_204 = kW_3 from rfl, l2, Option.bind_some]
  · subst q3
    rw [q2] at a5
    obtain ⟨s2, t2, m1, m2, m3⟩ := m_fault hu h.1.1 hpt.1 hpt.2.1 q1 a5 a6 a7 a8 a12
    rw [m2, Option.bind_some, m1]
    have hln := lnc_le (ps.getD 0 pk0).2 q
    have hx := hpt.1
    refine ⟨s2, t2, ?_, rfl, m3⟩
    rw [if_neg (nI_nle (by omega) (by omega))]
    cases (snx ((ps.map Prod.snd).getD 0 []) scs 0).map (fun i => es.getD i 0) <;> rfl
