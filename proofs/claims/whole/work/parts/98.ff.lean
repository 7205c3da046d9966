/-! running a script: each action on both sides -/
theorem ig_nod {s : uS} {i l d : Nat} (hi : i < 320) (hl : l < 12) (hd : d = 1 ∨ d = 2) : iget 20 s (16 + 3 * i + d) (nI l) = some (s.F (16 + 3 * i + d) l) := by
  have hN : ucl (16 + 3 * i + d) = (20, 12) := by
    unfold ucl
    rw [if_neg (by omega), if_pos (by omega), if_neg (by omega)]
  exact iget_c (by omega) hN hl (by decide)
theorem nmL_c {ts ts1 : List (List Nat)} {nb : List Nat} (h : ∀ j ∈ nb, ts1.getD j [] = ts.getD j []) : nmL ts1 nb = nmL ts nb := List.map_congr_left h
theorem nbs_in {bx ts : List (List Nat)} {F : List (Option Nat × Nat)} {j : Nat} (h : j ∈ nbsF bx ts F) : ∃ q ∈ F, q.1 = some j := by
  unfold nbsF at h
  obtain ⟨q, h1, h2⟩ := List.mem_filterMap.mp h
  refine ⟨q, h1, ?_⟩
  unfold nbf at h2
  cases c : bxN bx (fky ts q.1) with
  | some b => rw [c] at h2; cases h2
  | none => rw [c] at h2; exact h2
theorem c_finto {s0 t0 s : uS} {N : Nat} {fs : List (List Nat × List Nat)} {snd : List Nat} {rcs : List (List Nat)} {sz ri : Nat} {ts bx : List (List Nat)} {bg uu u w i : Nat} {ts1 : List (List Nat)} {p : pl} {ir iv f : Nat} {fl : Option Nat} {cp : Bool} (hu : uu < 4) (hi : i < 320) (hbx : bxO bx) (hw : u ≤ w) (hwt : w ≤ ts.length) (h : lvR s0 t0 N fs snd rcs sz ri ts bx bg uu u ts1 p ir iv s) (hY : tgY i fl cp s0) (hf : u ≤ f ∧ f < w ∧ f < ts.length ∧ bxn (ts.getD f []) = true ∧ s0.F (17 + 3 * i) 3 = nI f) : (∃ (s1 : uS), ((iget 20 s (16 + 3 * i + 1) 3).bind fun v3 => (fn_X7_boxOf v3 s).bind fun r5 => (fn_X7_file r5.2 (16 + 3 * i) r5.1).bind fun s7 => some s7) = some s1 ∧ lvR s0 t0 N fs snd rcs sz ri ts bx bg uu w ts1 (addF ts (pF p) (some f) (fl.getD (pg p)), pDr p, pg p, prj p, pvc p, pnr p, pnv p, pkp p && cp, true) ir iv s1) ∨ (fcP bx ts (addF ts (pF p) (some f) (fl.getD (pg p)), pDr p, pg p, prj p, pvc p, pnr p, pnv p, pkp p && cp, true) = true ∧ ∃ s1 : uS, ((iget 20 s (16 + 3 * i + 1) 3).bind fun v3 => (fn_X7_boxOf v3 s).bind fun r5 => (fn_X7_file r5.2 (16 + 3 * i) r5.1).bind fun s7 => some s7) = some s1 ∧ s1.I 1070 16 = 1 ∧ s1.I 1070 17 = 1) := by
  have h' := h
  obtain ⟨hc, hst, ⟨f1, f2, f3, f4, f5, f6, f7, f8, f9, f10, f11⟩, ⟨bgx, hbz⟩, hsv, hds, hfc⟩ := h
  obtain ⟨z1, z2, z3, z4, z5⟩ := hf
  obtain ⟨q1, q2, q3, q4, q5⟩ := fcB_f.mp hfc
  have hfst : ts1.getD f [] = ts.getD f [] := hst.2.2.1 f z1
  have e1 : iget 20 s (16 + 3 * i + 1) 3 = some (nI f) := by
    rw [show (3 : Int32) = nI 3 from rfl, ig_nod hi (by decide) (Or.inl rfl), show 16 + 3 * i + 1 = 17 + 3 * i by omega, (hc.1 i hi).2.1, z5]
  have hnb : ∀ j ∈ nbsF bx ts (pF p), ts1.getD j [] = ts.getD j [] ∧ j < ts.length := by
    intro j hj
    obtain ⟨q, y1, y2⟩ := nbs_in hj
    obtain ⟨-, b, -, d⟩ := hsv.1 q y1 j y2
    exact ⟨d, b⟩
  have ek : fky ts1 (some f) = fky ts (some f) := by
    show (if eqW (ts1.getD f []) kW_142 = true then none else some (ts1.getD f [])) = _
    rw [hfst]; rfl
  have hbo := c_boxOf hu hst.1 hbz f9 f2 (fun k hk => by rw [hst.2.1]; exact (hnb _ (getD_mem hk)).2) (show f < ts1.length by rw [hst.2.1]; exact z3)
  rw [nmL_c (fun j hj => (hnb j hj).1), ek] at hbo
  have hbo' : fn_X7_boxOf (nI f) s = bRes (bxN (abxF bx ts (pF p)) (fky ts (some f))) f s := hbo
  have hxx : ∀ j : Nat, some f = some j → j < w ∧ j < ts.length ∧ bxn (ts.getD j []) = true ∧ ts1.getD j [] = ts.getD j [] := fun j z => by rw [← Option.some.inj z]; exact ⟨z2, z3, z4, hfst⟩
  have hlen : ∀ F : List (Option Nat × Nat), (abxF bx ts F).length = bx.length + (nbsF bx ts F).length := fun F => by unfold abxF nmL; rw [List.length_append, List.length_map]
  rw [e1, Option.bind_some, hbo']
  cases hr : bxN (abxF bx ts (pF p)) (fky ts (some f)) with
  | some b =>
    rw [show bRes (some b) f s = some (s, nI b) from rfl, Option.bind_some]
    dsimp only
    have e : abxF bx ts (addF ts (pF p) (some f) (fl.getD (pg p))) = abxF bx ts (pF p) ++ [] := by
      rw [List.append_nil]
      unfold addF
      cases c : hasF ts (pF p) (some f) with
      | true => rw [if_pos rfl]
      | false =>
        rw [if_neg (by decide)]
        refine abx_n ?_
        unfold nbf
        cases c2 : bxN bx (fky ts (some f)) with
        | some b2 => rfl
        | none =>
          exfalso
          obtain ⟨j, j1, j2⟩ := fky_n c2
          rw [j2] at hr
          have hr2 : fndI (abxF bx ts (pF p)) (ts.getD j []) 0 = some b := hr
          rw [j2] at c2
          have c3 : fndI bx (ts.getD j []) 0 = none := c2
          have hm : ts.getD j [] ∈ abxF bx ts (pF p) := by
            apply Classical.byContradiction
            intro hm
            rw [fndI_no.mpr hm] at hr2
            cases hr2
          rcases List.mem_append.mp hm with y | y
          · exact (fndI_no.mp c3) y
          · obtain ⟨q, y1, y2⟩ := nbs_of y
            obtain ⟨k, k1, k2⟩ := List.getElem_of_mem y1
            refine hasF_no c k1 ?_
            have eq : (pF p).getD k (none, 0) = q := by
              rw [List.getD_eq_getElem?_getD, List.getElem?_eq_getElem k1, k2]
              rfl
            rw [j2, eq]
            exact y2.symm
    have hn2 : cNb s (nbsF bx ts (addF ts (pF p) (some f) (fl.getD (pg p)))) := by
      have : nbsF bx ts (addF ts (pF p) (some f) (fl.getD (pg p))) = nbsF bx ts (pF p) := by
        unfold addF
        cases c : hasF ts (pF p) (some f) with
        | true => rw [if_pos rfl]
        | false =>
          rw [if_neg (by decide)]
          have hl1 := hlen (addF ts (pF p) (some f) (fl.getD (pg p)))
          rw [e, List.append_nil, hlen] at hl1
          unfold addF at hl1
          rw [c, if_neg (by decide)] at hl1
          cases c3 : nbf bx ts (some f, fl.getD (pg p)) with
          | none => exact nbs_n c3
          | some j => rw [nbs_s c3, List.length_append] at hl1; simp at hl1
      rw [this]
      exact f2
    rcases c_file (p1 := (addF ts (pF p) (some f) (fl.getD (pg p)), pDr p, pg p, prj p, pvc p, pnr p, pnv p, pkp p && cp, true)) (more := []) (b := b) hu hi hbx hw h' hY rfl e (by rw [List.append_nil]; exact hr) (by show (abxF bx ts (addF ts (pF p) (some f) (fl.getD (pg p)))).length ≤ 6; rw [e, List.append_nil, hlen]; exact q5) out_r hn2 hxx with ⟨s1, a1, a2⟩ | ⟨a0, s1, a1, a2, a3⟩
    · exact Or.inl ⟨s1, by rw [a1, Option.bind_some], a2⟩
    · exact Or.inr ⟨a0, s1, by rw [a1, Option.bind_some], a2, a3⟩
  | none =>
    have hnf : hasF ts (pF p) (some f) = false := by
      cases c : hasF ts (pF p) (some f) with
      | false => rfl
      | true =>
        obtain ⟨k, k1, k2⟩ := hasF_yes c
        obtain ⟨b, b1, -⟩ := fky_res (ts := ts) hbx.1 (getDp_mem k1)
        rw [← k2, hr] at b1
        cases b1
    have c2 : bxN bx (fky ts (some f)) = none := by
      cases c : bxN bx (fky ts (some f)) with
      | none => rfl
      | some b2 =>
        have : bxN (abxF bx ts (pF p)) (fky ts (some f)) = some b2 := bxN_app c
        rw [hr] at this
        cases this
    obtain ⟨j, j1, j2⟩ := fky_n c2
    have ej : j = f := (Option.some.inj j1).symm
    rw [ej] at j2
    have c3 : nbf bx ts (some f, fl.getD (pg p)) = some f := by
      unfold nbf
      show (match bxN bx (fky ts (some f)) with | some _ => none | none => some f) = some f
      rw [c2]
    have eF : addF ts (pF p) (some f) (fl.getD (pg p)) = pF p ++ [(some f, fl.getD (pg p))] := by unfold addF; rw [hnf, if_neg (by decide)]
    rw [show bRes none f s = bEnd (nI f) s from rfl, c_bEnd hu hbz f9 f2 q5]
    by_cases c6 : bx.length + (nbsF bx ts (pF p)).length < 6
    · rw [if_pos c6, Option.bind_some]
      dsimp only
      obtain ⟨n1, n2⟩ := f2.app (j := f) (by have := hbx.1; omega) rfl
      have e : abxF bx ts (addF ts (pF p) (some f) (fl.getD (pg p))) = abxF bx ts (pF p) ++ [ts.getD f []] := by rw [eF]; exact abx_s c3
      have hb : bxN (abxF bx ts (pF p) ++ [ts.getD f []]) (fky ts (some f)) = some (bx.length + (nbsF bx ts (pF p)).length) := by
        rw [j2] at hr ⊢
        show fndI (abxF bx ts (pF p) ++ [ts.getD f []]) (ts.getD f []) 0 = _
        have hr' : fndI (abxF bx ts (pF p)) (ts.getD f []) 0 = none := hr
        rw [fndI_app, hr']
        show (if ts.getD f [] = ts.getD f [] then some (0 + (abxF bx ts (pF p)).length) else _) = _
        rw [if_pos rfl, Nat.zero_add, hlen]
      rcases c_file (p1 := (addF ts (pF p) (some f) (fl.getD (pg p)), pDr p, pg p, prj p, pvc p, pnr p, pnv p, pkp p && cp, true)) (more := [ts.getD f []]) (b := bx.length + (nbsF bx ts (pF p)).length) hu hi hbx hw h' hY rfl e hb (by show (abxF bx ts (addF ts (pF p) (some f) (fl.getD (pg p)))).length ≤ 6; rw [e, List.length_append, hlen]; simp; omega) n2 (by show cNb _ (nbsF bx ts (addF ts (pF p) (some f) (fl.getD (pg p)))); rw [eF, nbs_s c3]; exact n1) hxx with ⟨s1, a1, a2⟩ | ⟨a0, s1, a1, a2, a3⟩
      · exact Or.inl ⟨s1, by rw [a1, Option.bind_some], a2⟩
      · exact Or.inr ⟨a0, s1, by rw [a1, Option.bind_some], a2, a3⟩
    · right
      rw [if_neg c6, Option.bind_some]
      dsimp only
      refine ⟨fcP_t (fun z => ?_), wI (wI s 1070 16 1) 1070 17 1, ?_, ?_, ?_⟩
      · obtain ⟨-, -, -, -, z5⟩ := z
        have z5' : bx.length + (nbsF bx ts (addF ts (pF p) (some f) (fl.getD (pg p)))).length ≤ 6 := z5
        rw [eF, nbs_s c3, List.length_append, List.length_cons, List.length_nil] at z5'
        omega
      · unfold fn_X7_file
        rw [if_pos (by decide), Option.bind_some]
      · rw [wI_o (by omega), wI_e]
      · rw [wI_e]
