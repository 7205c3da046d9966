/-! running a script: all actions of the class -/
theorem lvR.i {s0 t0 s : uS} {N : Nat} {fs : List (List Nat × List Nat)} {snd : List Nat} {rcs : List (List Nat)} {sz ri : Nat} {ts bx : List (List Nat)} {bg uu u w : Nat} {ts1 : List (List Nat)} {p : pl} {ir iv : Nat} {s1 : uS} {g1 : Nat} {kp1 : Bool} (hu : uu < 4) (hw : u ≤ w) (h : lvR s0 t0 N fs snd rcs sz ri ts bx bg uu u ts1 p ir iv s) (o : out (fun k f => k = 1070 ∧ (f = 13 ∨ f = 14)) rNo s s1) (e13 : s1.I 1070 13 = nI g1) (e14 : s1.I 1070 14 = bI kp1) : lvR s0 t0 N fs snd rcs sz ri ts bx bg uu w ts1 (pF p, pDr p, g1, prj p, pvc p, pnr p, pnv p, kp1, pac p) ir iv s1 := by
  obtain ⟨hc, hst, ⟨f1, f2, f3, f4, f5, f6, f7, f8, f9, f10, f11⟩, ⟨bgx, hbz⟩, hsv, hds, hfc⟩ := h
  have oA : out aI aF s s1 := out_w o (fun k f z => by unfold aI; omega) (fun _ _ z => z.elim)
  have I1 : ∀ k f : Nat, ¬ (k = 1070 ∧ (f = 13 ∨ f = 14)) → s1.I k f = s.I k f := fun k f z => o.2.1 k f z
  have F1 : ∀ k : Nat, s1.F k = s.F k := fun k => funext fun f => o.2.2 k f (fun z => z)
  exact ⟨hc.a oA e13 ((I1 _ _ (by omega)).trans hc.2.2.2.2.2), hst.a oA hw, ⟨f1.a (I1 _ _ (by omega)) (F1 _) (F1 _), f2.a (I1 _ _ (by omega)) (F1 _), f3.a (I1 _ _ (by omega)) (F1 _), by rw [oA.1.2.1]; exact f4, by rw [oA.1.2.1]; exact f5, e14, (I1 _ _ (by omega)).trans f7, (I1 _ _ (by omega)).trans f8, by rw [oA.1.2.1]; exact f9, f10, f11⟩, ⟨bgx, hbz.a oA (by omega)⟩, hsv.up hw (fun _ _ => rfl), hds, hfc⟩
theorem uso_n {i : Nat} (h : i < 320) : uSo (16 + 3 * i) 3 := so_nod h
theorem c_actn {s0 t0 s : uS} {N : Nat} {fs : List (List Nat × List Nat)} {snd : List Nat} {rcs : List (List Nat)} {sz ri : Nat} {ts bx : List (List Nat)} {bg uu u w i n κ : Nat} {ts1 : List (List Nat)} {p : pl} {ir iv f b : Nat} {fl : Option Nat} {cp : Bool} (hu : uu < 4) (hi : i < 320) (hbx : bxO bx) (hw : u ≤ w) (hwt : w ≤ ts.length) (hn : n < 520) (hk : 2 ≤ κ ∧ κ ≤ 10) (h0 : s0.I (16 + 3 * i) 0 = nI κ) (hg : pg p < 32) (h : lvR s0 t0 N fs snd rcs sz ri ts bx bg uu u ts1 p ir iv s) (hY : acY κ i u w ts s0 f fl cp b) (ha : acR κ i n u w ts s0 t0) : acO s0 t0 N fs snd rcs sz ri ts bx bg uu w i ts1 (stp κ n ts f fl cp b p) s := by
  have h' := h
  obtain ⟨hc, hst, ⟨f1, f2, f3, f4, f5, f6, f7, f8, f9, f10, f11⟩, ⟨bgx, hbz⟩, hsv, hds, hfc⟩ := h
  obtain ⟨y1, y2, y3, y4⟩ := hY
  obtain ⟨q1, q2, q3, q4, q5⟩ := fcB_f.mp hfc
  have nd : ∀ f : Nat, s.I (16 + 3 * i) f = s0.I (16 + 3 * i) f := (hc.1 i hi).1
  have hcase : κ = 2 ∨ κ = 3 ∨ κ = 4 ∨ κ = 5 ∨ κ = 6 ∨ κ = 7 ∨ κ = 8 ∨ κ = 9 ∨ κ = 10 := by omega
  have e13 : s.I 1070 13 = nI (pg p) := hc.2.2.2.2.1
  have bad : ∀ p1 : pl, ¬ ((pDr p1).length ≤ 4 ∧ prj p1 ≤ 1 ∧ (prj p1 = 1 → pac p1 = false ∧ pvc p1 = 0) ∧ pvc p1 ≤ 1 ∧ bx.length + (nbsF bx ts (pF p1)).length ≤ 6) → fn_X7_perform (16 + 3 * i) s = some (wI (wI s 1070 16 1) 1070 17 1) → acO s0 t0 N fs snd rcs sz ri ts bx bg uu w i ts1 p1 s := fun p1 z e => Or.inr ⟨fcP_t z, _, e, by rw [wI_o (by omega), wI_e], by rw [wI_e]⟩
  rcases hcase with z | z | z | z | z | z | z | z | z
  · subst z
    have hP : fn_X7_perform (16 + 3 * i) s = some (wI s 1070 14 0) := by unfold fn_X7_perform; rw [nd, h0, if_neg (show ¬ nI 2 = 1 by decide), if_pos (show nI 2 = 2 by decide)]
    exact Or.inl ⟨_, ir, iv, hP, lvR.i hu hw h' (out_I out_r ⟨rfl, Or.inr rfl⟩) (by rw [wI_o (by omega)]; exact e13) (by rw [wI_e]; rfl)⟩
  · subst z
    have hP : fn_X7_perform (16 + 3 * i) s = ((fn_X7_file 0 (16 + 3 * i) s).bind fun s1 => some s1) := by unfold fn_X7_perform; rw [nd, h0, if_neg (show ¬ nI 3 = 1 by decide), if_neg (show ¬ nI 3 = 2 by decide), if_pos (show nI 3 = 3 by decide)]
    have e : abxF bx ts (addF ts (pF p) none (fl.getD (pg p))) = abxF bx ts (pF p) ++ [] := by
      rw [List.append_nil]
      unfold addF
      cases c : hasF ts (pF p) none with
      | true => rw [if_pos rfl]
      | false => rw [if_neg (by decide)]; exact abx_n rfl
    have hn2 : nbsF bx ts (addF ts (pF p) none (fl.getD (pg p))) = nbsF bx ts (pF p) := by
      unfold addF
      cases c : hasF ts (pF p) none with
      | true => rw [if_pos rfl]
      | false => rw [if_neg (by decide)]; exact nbs_n rfl
    have hlen : ∀ F : List (Option Nat × Nat), (abxF bx ts F).length = bx.length + (nbsF bx ts F).length := fun F => by unfold abxF nmL; rw [List.length_append, List.length_map]
    rcases c_file (p1 := (addF ts (pF p) none (fl.getD (pg p)), pDr p, pg p, prj p, pvc p, pnr p, pnv p, pkp p && cp, true)) (more := []) (b := 0) hu hi hbx hw h' (y1 (Or.inl rfl)) rfl e rfl (by show (abxF bx ts (addF ts (pF p) none (fl.getD (pg p)))).length ≤ 6; rw [e, List.append_nil, hlen]; exact q5) out_r (by show cNb s (nbsF bx ts (addF ts (pF p) none (fl.getD (pg p)))); rw [hn2]; exact f2) (fun j z => by cases z) with ⟨s1, a1, a2⟩ | ⟨a0, s1, a1, a2, a3⟩
    · have a1' : fn_X7_file 0 (16 + 3 * i) s = some s1 := a1
      exact Or.inl ⟨s1, ir, iv, by rw [hP, a1', Option.bind_some], a2⟩
    · have a1' : fn_X7_file 0 (16 + 3 * i) s = some s1 := a1
      exact Or.inr ⟨a0, s1, by rw [hP, a1', Option.bind_some], a2, a3⟩
  · subst z
    have hP : fn_X7_perform (16 + 3 * i) s = ((iget 20 s (16 + 3 * i + 1) 3).bind fun v3 => (fn_X7_boxOf v3 s).bind fun r5 => (fn_X7_file r5.2 (16 + 3 * i) r5.1).bind fun s7 => some s7) := by unfold fn_X7_perform; rw [nd, h0, if_neg (show ¬ nI 4 = 1 by decide), if_neg (show ¬ nI 4 = 2 by decide), if_neg (show ¬ nI 4 = 3 by decide), if_pos (show nI 4 = 4 by decide)]
    rcases c_finto hu hi hbx hw hwt h' (y1 (Or.inr (Or.inl rfl))) (y2 rfl) with ⟨s1, a1, a2⟩ | ⟨a0, s1, a1, a2, a3⟩
    · exact Or.inl ⟨s1, ir, iv, hP.trans a1, a2⟩
    · exact Or.inr ⟨a0, s1, hP.trans a1, a2, a3⟩
  · subst z
    have hP : fn_X7_perform (16 + 3 * i) s = ((fn_X7_redirect (16 + 3 * i) s).bind fun s9 => some s9) := by unfold fn_X7_perform; rw [nd, h0, if_neg (show ¬ nI 5 = 1 by decide), if_neg (show ¬ nI 5 = 2 by decide), if_neg (show ¬ nI 5 = 3 by decide), if_neg (show ¬ nI 5 = 4 by decide), if_pos (show nI 5 = 5 by decide)]
    rcases c_redir hu hi hw hwt h' (y1 (Or.inr (Or.inr rfl))) (y3 rfl) with ⟨s1, a1, a2⟩ | ⟨a0, s1, a1, a2, a3⟩
    · exact Or.inl ⟨s1, ir, iv, by rw [hP, a1, Option.bind_some], a2⟩
    · exact Or.inr ⟨a0, s1, by rw [hP, a1, Option.bind_some], a2, a3⟩
  · subst z
    have hP : fn_X7_perform (16 + 3 * i) s = ((fn_X7_rejectMessage (16 + 3 * i) s).bind fun s11 => some s11) := by unfold fn_X7_perform; rw [nd, h0, if_neg (show ¬ nI 6 = 1 by decide), if_neg (show ¬ nI 6 = 2 by decide), if_neg (show ¬ nI 6 = 3 by decide), if_neg (show ¬ nI 6 = 4 by decide), if_neg (show ¬ nI 6 = 5 by decide), if_pos (show nI 6 = 6 by decide)]
    have hfail : fn_X7_rejectMessage (16 + 3 * i) s = some (wI (wI s 1070 16 1) 1070 17 1) → fn_X7_perform (16 + 3 * i) s = some (wI (wI s 1070 16 1) 1070 17 1) := fun z => by rw [hP, z, Option.bind_some]
    cases hac : pac p with
    | true =>
      refine bad _ (fun z => ?_) (hfail ?_)
      · obtain ⟨-, z2, z3, -⟩ := z
        have z2' : prj p + 1 ≤ 1 := z2
        have z3' : prj p + 1 = 1 → pac p = false ∧ pvc p = 0 := z3
        have := (z3' (by omega)).1
        rw [hac] at this
        cases this
      · unfold fn_X7_rejectMessage fb_X7_rejectMessage_21
        rw [f7, hac, if_neg (show ¬ bI true = 0 by decide), c_fail, Option.bind_some]
    | false =>
      have e0 : s.I 1070 15 = 0 := by rw [f7, hac]; rfl
      by_cases hr : prj p = 0
      · have R10 : s.R 1070 10 = none := by rw [f4, if_pos hr]
        by_cases hv : pvc p = 0
        · have R9 : s.R 1070 9 = none := by rw [f5, if_pos hv]
          have hrm : fn_X7_rejectMessage (16 + 3 * i) s = some (wI (wR s 1070 10 (some (16 + 3 * i))) 1070 14 0) := by
            unfold fn_X7_rejectMessage
            rw [if_pos e0, R10]
            show (match s.R 1070 9 with | none => some (wI (wR s 1070 10 (some (16 + 3 * i))) 1070 14 0) | some j3 => if uSo j3 3 then (fb_X7_rejectMessage_21 s) else none) = _
            rw [R9]
          left
          refine ⟨_, i, iv, by rw [hP, hrm, Option.bind_some], ?_⟩
          have o1 : out (fun k f => k = 1070 ∧ (f = 13 ∨ f = 14)) rNo s (wI s 1070 14 0) := out_I out_r ⟨rfl, Or.inr rfl⟩
          obtain ⟨g1, g2, ⟨k1, k2, k3, k4, k5, k6, k7, k8, k9, k10, k11⟩, g4, g5, g6, g7⟩ := lvR.i (g1 := pg p) (kp1 := false) hu hw h' o1 (by rw [wI_o (by omega)]; exact e13) (by rw [wI_e]; rfl)
          refine ⟨g1, g2, ⟨k1, k2, k3, ?_, ?_, k6, k7, k8, ?_, hi, f11⟩, g4, ?_, g6, ?_⟩
          · show (wR s 1070 10 (some (16 + 3 * i))).R 1070 10 = (if prj p + 1 = 0 then none else some (16 + 3 * i))
            rw [wR_R, if_pos ⟨rfl, rfl⟩, if_neg (by omega)]
          · show (wR s 1070 10 (some (16 + 3 * i))).R 1070 9 = (if pvc p = 0 then none else some (16 + 3 * iv))
            rw [wR_R, if_neg (by omega)]; exact f5
          · show (wR s 1070 10 (some (16 + 3 * i))).R 1070 11 = _
            rw [wR_R, if_neg (by omega)]; exact f9
          · obtain ⟨v1, v2, v3, v4⟩ := g5
            exact ⟨v1, v2, fun _ => ⟨u, w, Nat.le_refl _, ha.2.2.2.1 rfl, h0, hn, fun j x _ => hst.2.2.1 j x⟩, v4⟩
          · exact fcB_f.mpr ⟨q1, by show prj p + 1 ≤ 1; omega, fun _ => ⟨hac, hv⟩, q4, q5⟩
        · have R9 : s.R 1070 9 = some (16 + 3 * iv) := by rw [f5, if_neg hv]
          refine bad _ (fun z => ?_) (hfail ?_)
          · obtain ⟨-, z2, z3, -⟩ := z
            have z3' : prj p + 1 = 1 → pac p = false ∧ pvc p = 0 := z3
            exact hv (z3' (by omega)).2
          · unfold fn_X7_rejectMessage fb_X7_rejectMessage_21
            rw [if_pos e0, R10]
            show (match s.R 1070 9 with | none => some (wI (wR s 1070 10 (some (16 + 3 * i))) 1070 14 0) | some j3 => if uSo j3 3 then ((fn_X7_fail s).bind fun s1 => some s1) else none) = _
            rw [R9]
            show (if uSo (16 + 3 * iv) 3 then ((fn_X7_fail s).bind fun s1 => some s1) else none) = _
            rw [if_pos (so_nod f11), c_fail, Option.bind_some]
      · have R10 : s.R 1070 10 = some (16 + 3 * ir) := by rw [f4, if_neg hr]
        refine bad _ (fun z => ?_) (hfail ?_)
        · obtain ⟨-, z2, -, -⟩ := z
          have z2' : prj p + 1 ≤ 1 := z2
          omega
        · unfold fn_X7_rejectMessage fb_X7_rejectMessage_21
          rw [if_pos e0, R10]
          show (if uSo (16 + 3 * ir) 3 then ((fn_X7_fail s).bind fun s1 => some s1) else none) = _
          rw [if_pos (so_nod f10), c_fail, Option.bind_some]
  · subst z
    have hP : fn_X7_perform (16 + 3 * i) s = some (wI s 1070 13 (s.I (16 + 3 * i) 11)) := by
      rw [nd 11]; unfold fn_X7_perform; rw [nd 0, h0, if_neg (show ¬ nI 7 = 1 by decide), if_neg (show ¬ nI 7 = 2 by decide), if_neg (show ¬ nI 7 = 3 by decide), if_neg (show ¬ nI 7 = 4 by decide), if_neg (show ¬ nI 7 = 5 by decide), if_neg (show ¬ nI 7 = 6 by decide), if_pos (show nI 7 = 7 by decide), nd 11]
    exact Or.inl ⟨_, ir, iv, hP, lvR.i hu hw h' (out_I out_r ⟨rfl, Or.inl rfl⟩) (by rw [wI_e, nd]; exact (y4 (by omega)).2) (by rw [wI_o (by omega)]; exact f6)⟩
  · subst z
    have hP : fn_X7_perform (16 + 3 * i) s = some (wI s 1070 13 ((s.I 1070 13) ||| (s.I (16 + 3 * i) 11))) := by
      rw [nd 11]; unfold fn_X7_perform; rw [nd 0, h0, if_neg (show ¬ nI 8 = 1 by decide), if_neg (show ¬ nI 8 = 2 by decide), if_neg (show ¬ nI 8 = 3 by decide), if_neg (show ¬ nI 8 = 4 by decide), if_neg (show ¬ nI 8 = 5 by decide), if_neg (show ¬ nI 8 = 6 by decide), if_neg (show ¬ nI 8 = 7 by decide), if_pos (show nI 8 = 8 by decide), nd 11]
    exact Or.inl ⟨_, ir, iv, hP, lvR.i hu hw h' (out_I out_r ⟨rfl, Or.inl rfl⟩) (by rw [wI_e, e13, nd, (y4 (by omega)).2]; exact (or_n hg (y4 (by omega)).1).1) (by rw [wI_o (by omega)]; exact f6)⟩
  · subst z
    have hP : fn_X7_perform (16 + 3 * i) s = some (wI s 1070 13 ((s.I 1070 13) &&& ((s.I (16 + 3 * i) 11) ^^^ (-1)))) := by
      rw [nd 11]; unfold fn_X7_perform; rw [nd 0, h0, if_neg (show ¬ nI 9 = 1 by decide), if_neg (show ¬ nI 9 = 2 by decide), if_neg (show ¬ nI 9 = 3 by decide), if_neg (show ¬ nI 9 = 4 by decide), if_neg (show ¬ nI 9 = 5 by decide), if_neg (show ¬ nI 9 = 6 by decide), if_neg (show ¬ nI 9 = 7 by decide), if_neg (show ¬ nI 9 = 8 by decide), if_pos (show nI 9 = 9 by decide), nd 11]
    exact Or.inl ⟨_, ir, iv, hP, lvR.i hu hw h' (out_I out_r ⟨rfl, Or.inl rfl⟩) (by rw [wI_e, e13, nd, (y4 (by omega)).2]; exact (rm_n _ _ hg (y4 (by omega)).1).1) (by rw [wI_o (by omega)]; exact f6)⟩
  · subst z
    have hP : fn_X7_perform (16 + 3 * i) s = ((fn_X7_goAway (16 + 3 * i) s).bind fun s13 => some s13) := by unfold fn_X7_perform; rw [nd, h0, if_neg (show ¬ nI 10 = 1 by decide), if_neg (show ¬ nI 10 = 2 by decide), if_neg (show ¬ nI 10 = 3 by decide), if_neg (show ¬ nI 10 = 4 by decide), if_neg (show ¬ nI 10 = 5 by decide), if_neg (show ¬ nI 10 = 6 by decide), if_neg (show ¬ nI 10 = 7 by decide), if_neg (show ¬ nI 10 = 8 by decide), if_neg (show ¬ nI 10 = 9 by decide), if_pos (show nI 10 = 10 by decide)]
    have hfail : fn_X7_goAway (16 + 3 * i) s = some (wI (wI s 1070 16 1) 1070 17 1) → fn_X7_perform (16 + 3 * i) s = some (wI (wI s 1070 16 1) 1070 17 1) := fun z => by rw [hP, z, Option.bind_some]
    by_cases hr : prj p = 0
    · have R10 : s.R 1070 10 = none := by rw [f4, if_pos hr]
      by_cases hv : pvc p = 0
      · have R9 : s.R 1070 9 = none := by rw [f5, if_pos hv]
        have hga : fn_X7_goAway (16 + 3 * i) s = some (wR s 1070 9 (some (16 + 3 * i))) := by
          unfold fn_X7_goAway
          rw [R10]
          show (match s.R 1070 9 with | none => some (wR s 1070 9 (some (16 + 3 * i))) | some j2 => if uSo j2 3 then (fb_X7_goAway_14 s) else none) = _
          rw [R9]
        left
        refine ⟨_, ir, i, by rw [hP, hga, Option.bind_some], ?_⟩
        obtain ⟨g1, g2, ⟨k1, k2, k3, k4, k5, k6, k7, k8, k9, k10, k11⟩, g4, g5, g6, g7⟩ := lvR.i (g1 := pg p) (kp1 := pkp p) hu hw h' out_r e13 f6
        refine ⟨g1, g2, ⟨k1, k2, k3, ?_, ?_, k6, k7, k8, ?_, f10, hi⟩, g4, ?_, g6, ?_⟩
        · show (wR s 1070 9 (some (16 + 3 * i))).R 1070 10 = (if prj p = 0 then none else some (16 + 3 * ir))
          rw [wR_R, if_neg (by omega)]; exact f4
        · show (wR s 1070 9 (some (16 + 3 * i))).R 1070 9 = (if pvc p + 1 = 0 then none else some (16 + 3 * i))
          rw [wR_R, if_pos ⟨rfl, rfl⟩, if_neg (by omega)]
        · show (wR s 1070 9 (some (16 + 3 * i))).R 1070 11 = _
          rw [wR_R, if_neg (by omega)]; exact f9
        · obtain ⟨v1, v2, v3, v4⟩ := g5
          exact ⟨v1, v2, v3, fun _ => ⟨u, w, Nat.le_refl _, hwt, ha.2.2.2.2.2 rfl, h0, hn, fun j x _ => hst.2.2.1 j x⟩⟩
        · refine fcB_f.mpr ⟨q1, q2, fun z => ?_, by show pvc p + 1 ≤ 1; omega, q5⟩
          have z' : prj p = 1 := z
          omega
      · have R9 : s.R 1070 9 = some (16 + 3 * iv) := by rw [f5, if_neg hv]
        refine bad _ (fun z => ?_) (hfail ?_)
        · obtain ⟨-, -, -, z4, -⟩ := z
          have z4' : pvc p + 1 ≤ 1 := z4
          omega
        · unfold fn_X7_goAway fb_X7_goAway_14
          rw [R10]
          show (match s.R 1070 9 with | none => some (wR s 1070 9 (some (16 + 3 * i))) | some j2 => if uSo j2 3 then ((fn_X7_fail s).bind fun s1 => some s1) else none) = _
          rw [R9]
          show (if uSo (16 + 3 * iv) 3 then ((fn_X7_fail s).bind fun s1 => some s1) else none) = _
          rw [if_pos (so_nod f11), c_fail, Option.bind_some]
    · have R10 : s.R 1070 10 = some (16 + 3 * ir) := by rw [f4, if_neg hr]
      refine bad _ (fun z => ?_) (hfail ?_)
      · obtain ⟨-, z2, z3, -⟩ := z
        have z2' : prj p ≤ 1 := z2
        have z3' : prj p = 1 → pac p = false ∧ pvc p + 1 = 0 := z3
        have := (z3' (by omega)).2
        omega
      · unfold fn_X7_goAway fb_X7_goAway_14
        rw [R10]
        show (if uSo (16 + 3 * ir) 3 then ((fn_X7_fail s).bind fun s1 => some s1) else none) = _
        rw [if_pos (so_nod f10), c_fail, Option.bind_some]
