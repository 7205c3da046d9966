/-! running a script: each action on both sides -/
theorem eqT_c (a b : List Nat) : eqT true a b = eqT true b a := by
  unfold eqT
  by_cases c : a.length = b.length
  · rw [decide_eq_true c, decide_eq_true c.symm, c]
    congr 1
    refine decide_eq_decide.mpr ⟨fun h j hj => ?_, fun h j hj => ?_⟩
    · have := h j hj
      unfold eqB at this ⊢
      rw [if_pos rfl] at this ⊢
      exact decide_eq_true (of_decide_eq_true this).symm
    · have := h j hj
      unfold eqB at this ⊢
      rw [if_pos rfl] at this ⊢
      exact decide_eq_true (of_decide_eq_true this).symm
  · rw [decide_eq_false c, decide_eq_false (show ¬ b.length = a.length from fun z => c z.symm), Bool.false_and, Bool.false_and]
/-- a redirect's place among those that are there -/
theorem c_redL {s : uS} {ts1 : List (List Nat)} {D : List Nat} {bg f : Nat} (hs : cTz s 8 2000 301 ts1 bg []) (hD : cDi s D) (hDl : ∀ k : Nat, k < D.length → D.getD k 0 < ts1.length) (hf : f < ts1.length) : fn_X7_redirect_30 uFu (nI f) 0 s = if hasD ts1 D f = true then some s else if D.length = 4 then some (wI (wI s 1070 16 1) 1070 17 1) else some (wI (wF s 1074 D.length (nI f)) 1070 7 (nI (D.length + 1))) := by
  obtain ⟨d1, d2, d3⟩ := hD
  have hl := any0 (F := fun n x => fn_X7_redirect_30 n (nI f) x s) (p := fun k => eqT true (ts1.getD f []) (ts1.getD (D.getD k 0) [])) (fin := fun B => if B = true then some s else if D.length = 4 then some (wI (wI s 1070 16 1) 1070 17 1) else some (wI (wF s 1074 D.length (nI f)) 1070 7 (nI (D.length + 1)))) (L := D.length) (fun n k hk => ?_) (by show _ < 1000000; omega)
  · exact hl
  · show fb_X7_redirect_30 (fn_X7_redirect_30 n) (nI f) (nI k) s = _
    unfold fb_X7_redirect_30
    by_cases c : D.length ≤ k
    · rw [if_pos (by rw [d1]; exact nI_le c (by omega)), if_pos c, if_neg (show ¬ (false = true) by decide), d1]
      by_cases e : D.length = 4
      · rw [if_pos (by rw [e]; rfl), if_pos e, c_fail, Option.bind_some]
      · rw [if_neg (show ¬ nI D.length = 4 from nI_ne (b := 4) (by omega) (by decide) e), if_neg e, p_1074 (by omega), Option.bind_some]
        have e7 : (wF s 1074 D.length (nI f)).I 1070 7 = nI D.length := d1
        rw [e7, nI_1]
    · rw [if_neg (by rw [d1]; exact nI_ge (by omega) (by omega)), if_neg c, g_1074 (by omega), Option.bind_some, d3 k (by omega), c_sameText uTx_str hs (hDl k (by omega)) uTx_str hs hf, Option.bind_some, eqT_c, nI_1]
      cases eqT true (ts1.getD f []) (ts1.getD (D.getD k 0) []) with
      | true => rw [if_pos rfl, if_pos rfl, if_pos rfl]
      | false => rw [if_neg (by decide), if_neg (by decide)]
theorem hasD_c {ts ts1 : List (List Nat)} {D : List Nat} {f : Nat} (h : ∀ j ∈ D, ts1.getD j [] = ts.getD j []) (hf : ts1.getD f [] = ts.getD f []) : hasD ts1 D f = hasD ts D f := by
  unfold hasD
  refine anyB_c _ _ (fun k _ hk => ?_)
  rw [hf, h (D.getD k 0) (getD_mem (by omega))]
theorem cDi.app {s s1 : uS} {D : List Nat} {f : Nat} (h : cDi s D) (h4 : D.length < 4) (e : s1 = wI (wF s 1074 D.length (nI f)) 1070 7 (nI (D.length + 1))) : cDi s1 (D ++ [f]) ∧ out (fun k f => k = 1070 ∧ f = 7) (fun k _ => k = 1074) s s1 := by
  obtain ⟨n1, n2, n3⟩ := h
  rw [e]
  refine ⟨⟨by rw [wI_e, List.length_append]; rfl, by rw [List.length_append]; simp; omega, fun k hk => ?_⟩, out_I (out_F out_r rfl) ⟨rfl, rfl⟩⟩
  rw [List.length_append] at hk
  simp at hk
  rw [wI_F]
  by_cases c : k = D.length
  · rw [c, wF_e, getDn_end]
  · rw [wF_o (by omega), getDn_app (by omega)]
    exact n3 k (by omega)
theorem c_redir {s0 t0 s : uS} {N : Nat} {fs : List (List Nat × List Nat)} {snd : List Nat} {rcs : List (List Nat)} {sz ri : Nat} {ts bx : List (List Nat)} {bg uu u w i : Nat} {ts1 : List (List Nat)} {p : pl} {ir iv f : Nat} {fl : Option Nat} {cp : Bool} (hu : uu < 4) (hi : i < 320) (hw : u ≤ w) (hwt : w ≤ ts.length) (h : lvR s0 t0 N fs snd rcs sz ri ts bx bg uu u ts1 p ir iv s) (hY : tgY i fl cp s0) (hf : u ≤ f ∧ f < w ∧ f < ts.length ∧ adB (ts.getD f []) = true ∧ s0.F (17 + 3 * i) 4 = nI f) : (∃ (s1 : uS), fn_X7_redirect (16 + 3 * i) s = some s1 ∧ lvR s0 t0 N fs snd rcs sz ri ts bx bg uu w ts1 (pF p, addD ts (pDr p) f, pg p, prj p, pvc p, pnr p, pnv p, pkp p && cp, true) ir iv s1) ∨ (fcP bx ts (pF p, addD ts (pDr p) f, pg p, prj p, pvc p, pnr p, pnv p, pkp p && cp, true) = true ∧ ∃ s1 : uS, fn_X7_redirect (16 + 3 * i) s = some s1 ∧ s1.I 1070 16 = 1 ∧ s1.I 1070 17 = 1) := by
  obtain ⟨hc, hst, ⟨f1, f2, f3, f4, f5, f6, f7, f8, f9, f10, f11⟩, ⟨bgx, hbz⟩, hsv, hds, hfc⟩ := h
  obtain ⟨g, y1, y2, y3, y4, y5⟩ := hY
  obtain ⟨q1, q2, q3, q4, q5⟩ := fcB_f.mp hfc
  obtain ⟨z1, z2, z3, z4, z5⟩ := hf
  have e17 : iget 20 s (16 + 3 * i + 1) 4 = some (nI f) := by
    have hN : ucl (16 + 3 * i + 1) = (20, 12) := by
      unfold ucl
      rw [if_neg (by omega), if_pos (by omega), if_neg (by omega)]
    have := iget_c (s := s) (t := 20) (k := 16 + 3 * i + 1) (N := 12) (i := 4) (by omega) hN (by decide) (by decide)
    rw [show (4 : Int32) = nI 4 from rfl, this, show 16 + 3 * i + 1 = 17 + 3 * i by omega, (hc.1 i hi).2.1, z5]
  have hfst : ts1.getD f [] = ts.getD f [] := hst.2.2.1 f z1
  have hfl : f < ts1.length := by rw [hst.2.1]; exact z3
  unfold fn_X7_redirect
  rw [e17, Option.bind_some]
  by_cases hr : prj p = 0
  · have hR : s.R 1070 10 = none := by rw [f4, if_pos hr]
    rw [c_act0 (kp := pkp p) (cp := cp) hR f6 (((hc.1 i hi).1 5).trans y1) y2 y3 hi, Option.bind_some, if_pos rfl]
    dsimp only
    have oA : out (fun k f => k = 1070 ∧ (f = 14 ∨ f = 15)) rNo s (wI (wI s 1070 15 1) 1070 14 (bI (pkp p && cp))) := out_I (out_I out_r ⟨rfl, Or.inr rfl⟩) ⟨rfl, Or.inl rfl⟩
    have W : ∀ k f : Nat, ¬ (k = 1070 ∧ (f = 14 ∨ f = 15)) → (wI (wI s 1070 15 1) 1070 14 (bI (pkp p && cp))).I k f = s.I k f := fun k f z => by rw [wI_o (by omega), wI_o (by omega)]
    have e14 : (wI (wI s 1070 15 1) 1070 14 (bI (pkp p && cp))).I 1070 14 = bI (pkp p && cp) := by rw [wI_e]
    have e15 : (wI (wI s 1070 15 1) 1070 14 (bI (pkp p && cp))).I 1070 15 = 1 := by rw [wI_o (by omega), wI_e]
    have eF : (wI (wI s 1070 15 1) 1070 14 (bI (pkp p && cp))).F = s.F := rfl
    generalize wI (wI s 1070 15 1) 1070 14 (bI (pkp p && cp)) = s3 at *
    have oA' : out aI aF s s3 := out_w oA (fun k f z => by unfold aI; omega) (fun _ _ z => z.elim)
    have hst3 := hst.1.a oA' (by omega)
    have D3 : cDi s3 (pDr p) := f3.a (W _ _ (by omega)) (by rw [eF])
    have hDl : ∀ k : Nat, k < (pDr p).length → (pDr p).getD k 0 < ts1.length := fun k hk => by rw [hst.2.1]; exact (hsv.2.1 _ (getD_mem hk)).2.1
    have eh : hasD ts1 (pDr p) f = hasD ts (pDr p) f := hasD_c (fun j hj => (hsv.2.1 j hj).2.2.2) hfst
    rw [c_redL hst3 D3 hDl hfl, eh]
    have fin : ∀ (s4 : uS) (D1 : List Nat), cDi s4 D1 → D1 = addD ts (pDr p) f → out (fun k f => k = 1070 ∧ f = 7) (fun k _ => k = 1074) s3 s4 → D1.length ≤ 4 → lvR s0 t0 N fs snd rcs sz ri ts bx bg uu w ts1 (pF p, addD ts (pDr p) f, pg p, prj p, pvc p, pnr p, pnv p, pkp p && cp, true) ir iv s4 := by
      intro s4 D1 hD1 eD o4 hl4
      have oF : out aI aF s s4 := out_t oA' (out_w o4 (fun k f z => by unfold aI; omega) (fun k f z => by unfold aF; omega))
      have I4 : ∀ k f : Nat, ¬ (k = 1070 ∧ f = 7) → s4.I k f = s3.I k f := fun k f z => o4.2.1 k f z
      have F4 : ∀ k : Nat, k ≠ 1074 → s4.F k = s.F k := fun k z => by rw [show s4.F k = s3.F k from funext fun f => o4.2.2 k f z, eF]
      refine ⟨hc.a oF ((I4 _ _ (by omega)).trans ((W _ _ (by omega)).trans hc.2.2.2.2.1)) ((I4 _ _ (by omega)).trans ((W _ _ (by omega)).trans hc.2.2.2.2.2)), hst.a oF hw, ⟨f1.a ((I4 _ _ (by omega)).trans (W _ _ (by omega))) (F4 _ (by omega)) (F4 _ (by omega)), f2.a ((I4 _ _ (by omega)).trans (W _ _ (by omega))) (F4 _ (by omega)), by rw [eD] at hD1; exact hD1, by rw [oF.1.2.1]; exact f4, by rw [oF.1.2.1]; exact f5, (I4 _ _ (by omega)).trans e14, (I4 _ _ (by omega)).trans e15, (I4 _ _ (by omega)).trans ((W _ _ (by omega)).trans f8), by rw [oF.1.2.1]; exact f9, f10, f11⟩, ⟨bgx, hbz.a oF (by omega)⟩, ?_, hds, ?_⟩
      · obtain ⟨v1, v2, v3, v4⟩ := hsv.up (w := w) hw (fun q _ => rfl)
        refine ⟨v1, fun j hj => ?_, v3, v4⟩
        have hj' : j ∈ addD ts (pDr p) f := hj
        unfold addD at hj'
        cases c : hasD ts (pDr p) f with
        | true => rw [c, if_pos rfl] at hj'; exact v2 j hj'
        | false =>
          rw [c, if_neg (by decide)] at hj'
          rcases List.mem_append.mp hj' with y | y
          · exact v2 j y
          · rw [List.mem_singleton.mp y]
            exact ⟨z2, z3, z4, hfst⟩
      · refine fcB_f.mpr ⟨by rw [eD] at hl4; exact hl4, q2, fun z => ?_, q4, q5⟩
        have z' : prj p = 1 := z
        omega
    cases c : hasD ts (pDr p) f with
    | true =>
      left
      rw [if_pos rfl]
      exact ⟨s3, rfl, fin s3 (pDr p) D3 (by unfold addD; rw [c, if_pos rfl]) out_r q1⟩
    | false =>
      rw [if_neg (by decide)]
      by_cases e4 : (pDr p).length = 4
      · right
        rw [if_pos e4]
        refine ⟨fcP_t (fun z => ?_), _, rfl, by rw [wI_o (by omega), wI_e], by rw [wI_e]⟩
        have z1' : (addD ts (pDr p) f).length ≤ 4 := z.1
        unfold addD at z1'
        rw [c, if_neg (by decide), List.length_append, List.length_cons, List.length_nil] at z1'
        omega
      · left
        rw [if_neg e4]
        obtain ⟨x1, x2⟩ := D3.app (f := f) (by omega) rfl
        exact ⟨_, rfl, fin _ _ x1 (by unfold addD; rw [c, if_neg (by decide)]) x2 (by rw [List.length_append]; simp; omega)⟩
  · right
    have hR : s.R 1070 10 = some (16 + 3 * ir) := by rw [f4, if_neg hr]
    rw [c_act1 hR f10, Option.bind_some]
    dsimp only
    rw [if_neg (by decide)]
    refine ⟨fcP_t (fun z => ?_), _, rfl, by rw [wI_o (by omega), wI_e], by rw [wI_e]⟩
    obtain ⟨-, z2, z3, -⟩ := z
    have z2' : prj p ≤ 1 := z2
    have z3' : prj p = 1 → true = false ∧ pvc p = 0 := z3
    have := (z3' (by omega)).1
    cases this
