/-! a script has run: the plan on both sides -/
def pl0 : pl := ([], [], 0, 0, 0, 0, 0, true, false)
/-- what is filed at the end -/
def finF (ts : List (List Nat)) (p : pl) : List (Option Nat × Nat) := if pkp p = true then addF ts (pF p) none (pg p) else pF p
def plE (ts : List (List Nat)) (p : pl) : pl := (finF ts p, pDr p, pg p, prj p, pvc p, pnr p, pnv p, pkp p, pac p)
/-- the plan as the class holds it, at the end -/
def cFR (s : uS) (u : Nat) (bx ts : List (List Nat)) (p : pl) (ir iv : Nat) : Prop := cFi s (cfF bx ts (pF p)) ∧ cNb s (nbsF bx ts (pF p)) ∧ cDi s (pDr p) ∧ s.R 1070 10 = (if prj p = 0 then none else some (16 + 3 * ir)) ∧ s.R 1070 9 = (if pvc p = 0 then none else some (16 + 3 * iv)) ∧ s.R 1070 11 = some (985 + 16 * u) ∧ ir < 320 ∧ iv < 320
/-- as the reference does -/
def rFR (t : uS) (ts : List (List Nat)) (p : pl) : Prop := rSt t ts ∧ rFi t ts (pF p) ∧ rDi t ts (pDr p) ∧ t.I 1079 102 = nI (prj p) ∧ (0 < prj p → t.I 1079 103 = nI (pnr p)) ∧ t.I 1079 104 = nI (pvc p) ∧ (0 < pvc p → t.I 1079 105 = nI (pnv p))
/-- the strings that it speaks of -/
def sFR (s t : uS) (ts : List (List Nat)) (p : pl) (ir iv : Nat) : Prop := ((∀ q ∈ pF p, q.1 = none) ∧ pDr p = [] ∧ prj p = 0 ∧ pvc p = 0) ∨ ∃ (ts1 : List (List Nat)) (bg : Nat), cTz s 8 2000 301 ts1 bg [] ∧ ts1.length = ts.length ∧ (∀ j : Nat, (ts1.getD j []).length = (ts.getD j []).length) ∧ svP s t ts ts1 ts.length p ir iv
theorem nbs_none {bx ts : List (List Nat)} {F : List (Option Nat × Nat)} {g : Nat} : nbsF bx ts (addF ts F none g) = nbsF bx ts F := by
  unfold addF
  cases hasF ts F none with
  | true => rw [if_pos rfl]
  | false => rw [if_neg (by decide)]; exact nbs_n rfl
theorem finF_nb {bx ts : List (List Nat)} {p : pl} : nbsF bx ts (finF ts p) = nbsF bx ts (pF p) := by
  unfold finF
  cases pkp p with
  | true => rw [if_pos rfl]; exact nbs_none
  | false => rw [if_neg (by decide)]
theorem fcP_E {bx ts : List (List Nat)} {p : pl} : fcP bx ts (plE ts p) = fcP bx ts p := by
  unfold fcP
  show fcB (pDr p).length (prj p) (pvc p) (bx.length + (nbsF bx ts (finF ts p)).length) (pac p) = _
  rw [finF_nb]
theorem dsF_E {ts : List (List Nat)} {p : pl} (h : dsF ts (pF p)) : dsF ts (finF ts p) := by
  unfold finF
  cases pkp p with
  | true => rw [if_pos rfl]; exact dsF_add h
  | false => rw [if_neg (by decide)]; exact h
/-- the implicit keep -/
theorem c_fin11 {s : uS} {bx ts : List (List Nat)} {p : pl} {x : Int32} (hbx : bxO bx) (hF : cFi s (cfF bx ts (pF p))) (hds : dsF ts (pF p)) (hfc : fcP bx ts p = false) (e14 : s.I 1070 14 = bI (pkp p)) (e13 : s.I 1070 13 = nI (pg p)) : ∃ S : uS, fb_X7_finish_11 x s = fb_X7_finish_27 x S ∧ cFi S (cfF bx ts (finF ts p)) ∧ out pfI pfF s S := by
  unfold fb_X7_finish_11 finF
  rw [e14, e13]
  cases pkp p with
  | false => rw [if_pos (show bI false = 0 from rfl), if_neg (by decide)]; exact ⟨s, rfl, hF, out_r⟩
  | true =>
    rw [if_neg (show ¬ bI true = 0 by decide), if_pos rfl]
    have hlen : ∀ F : List (Option Nat × Nat), (abxF bx ts F).length = bx.length + (nbsF bx ts F).length := fun F => by unfold abxF nmL; rw [List.length_append, List.length_map]
    have e : abxF bx ts (addF ts (pF p) none (pg p)) = abxF bx ts (pF p) ++ [] := by
      rw [List.append_nil]
      unfold abxF
      rw [nbs_none]
    obtain ⟨S, a1, a2, a3⟩ := c_fil (x := none) (g := pg p) (b := 0) hbx.1 hbx.2.2.1 hF hds e rfl (by rw [hlen, nbs_none]; exact (fcB_f.mp hfc).2.2.2.2)
    have a1' : fn_X7_addFile 0 (nI (pg p)) s = some S := a1
    exact ⟨S, by rw [a1', Option.bind_some], a2, a3⟩
theorem r_sort46 {t : uS} {ts : List (List Nat)} {p : pl} (hs : rSt t ts) (hF : rFi t ts (pF p)) (hl : (pF p).length ≤ 101) (e95 : t.I 1079 95 = bI (pkp p)) (e94 : t.I 1079 94 = nI (pg p)) : ∃ t1 : uS, fb_X12_sortIt_46 t = some t1 ∧ rFi t1 ts (finF ts p) ∧ out fiI fiF t t1 := by
  unfold fb_X12_sortIt_46 finF
  rw [e95, e94]
  cases pkp p with
  | false => rw [if_pos (show bI false = 0 from rfl), if_neg (by decide)]; exact ⟨t, rfl, hF, out_r⟩
  | true =>
    rw [if_neg (show ¬ bI true = 0 by decide), if_pos rfl]
    obtain ⟨t1, a1, a2, a3⟩ := r_file1 (x := none) (b := pg p) (fun j z => by cases z) hl hs hF
    have a1' : fn_X12_file1 (-1) (nI (pg p)) t = some t1 := a1
    exact ⟨t1, by rw [a1', Option.bind_some], a2, a3⟩
/-- a plan at its beginning -/
def cP0 (s : uS) (u ri : Nat) : Prop := s.I 1070 5 = 0 ∧ s.I 1070 6 = 0 ∧ s.I 1070 7 = 0 ∧ s.I 1070 8 = 0 ∧ s.I 1070 13 = 0 ∧ s.I 1070 14 = 1 ∧ s.I 1070 15 = 0 ∧ s.R 1070 9 = none ∧ s.R 1070 10 = none ∧ s.R 1070 11 = some (985 + 16 * u) ∧ s.I 1070 12 = nI ri
theorem c_clearP {s : uS} {u ri : Nat} (h11 : s.R 1070 11 = some (985 + 16 * u)) (h12 : s.I 1070 12 = nI ri) : ∃ s1 : uS, fn_X7_clearPlan s = some s1 ∧ cP0 s1 u ri ∧ s1.I 1070 16 = s.I 1070 16 ∧ s1.I 1070 17 = s.I 1070 17 := by
  refine ⟨_, rfl, ⟨?_, ?_, ?_, ?_, ?_, ?_, ?_, ?_, ?_, ?_, ?_⟩, ?_, ?_⟩
  · rw [wI_o (by omega), wI_o (by omega), wI_o (by omega), wI_o (by omega)]
    show (wI (wI (wI s 1070 5 0) 1070 6 0) 1070 7 0).I 1070 5 = 0
    rw [wI_o (by omega), wI_o (by omega), wI_e]
  · rw [wI_o (by omega), wI_o (by omega), wI_o (by omega), wI_o (by omega)]
    show (wI (wI (wI s 1070 5 0) 1070 6 0) 1070 7 0).I 1070 6 = 0
    rw [wI_o (by omega), wI_e]
  · rw [wI_o (by omega), wI_o (by omega), wI_o (by omega), wI_o (by omega)]
    show (wI (wI (wI s 1070 5 0) 1070 6 0) 1070 7 0).I 1070 7 = 0
    rw [wI_e]
  · rw [wI_o (by omega), wI_o (by omega), wI_o (by omega), wI_e]
  · rw [wI_e]
  · rw [wI_o (by omega), wI_e]
  · rw [wI_o (by omega), wI_o (by omega), wI_e]
  · show (wR (wR (wI (wI (wI s 1070 5 0) 1070 6 0) 1070 7 0) 1070 9 none) 1070 10 none).R 1070 9 = none
    rw [wR_R, if_neg (by omega), wR_R, if_pos ⟨rfl, rfl⟩]
  · show (wR (wR (wI (wI (wI s 1070 5 0) 1070 6 0) 1070 7 0) 1070 9 none) 1070 10 none).R 1070 10 = none
    rw [wR_R, if_pos ⟨rfl, rfl⟩]
  · show (wR (wR (wI (wI (wI s 1070 5 0) 1070 6 0) 1070 7 0) 1070 9 none) 1070 10 none).R 1070 11 = _
    rw [wR_R, if_neg (by omega), wR_R, if_neg (by omega)]; exact h11
  · rw [wI_o (by omega), wI_o (by omega), wI_o (by omega), wI_o (by omega)]
    show (wI (wI (wI s 1070 5 0) 1070 6 0) 1070 7 0).I 1070 12 = _
    rw [wI_o (by omega), wI_o (by omega), wI_o (by omega)]; exact h12
  · rw [wI_o (by omega), wI_o (by omega), wI_o (by omega), wI_o (by omega)]
    show (wI (wI (wI s 1070 5 0) 1070 6 0) 1070 7 0).I 1070 16 = _
    rw [wI_o (by omega), wI_o (by omega), wI_o (by omega)]
  · rw [wI_o (by omega), wI_o (by omega), wI_o (by omega), wI_o (by omega)]
    show (wI (wI (wI s 1070 5 0) 1070 6 0) 1070 7 0).I 1070 17 = _
    rw [wI_o (by omega), wI_o (by omega), wI_o (by omega)]
theorem cP0.lists {s : uS} {u ri : Nat} (h : cP0 s u ri) : cFi s [] ∧ cNb s [] ∧ cDi s [] :=
  ⟨⟨h.1, by decide, fun k hk => absurd hk (Nat.not_lt_zero k)⟩, ⟨h.2.1, by decide, fun k hk => absurd hk (Nat.not_lt_zero k)⟩, ⟨h.2.2.1, by decide, fun k hk => absurd hk (Nat.not_lt_zero k)⟩⟩
/-- the class, its plan empty, keeps the message alone -/
theorem c_fin0 {s : uS} {u ri : Nat} {bx ts : List (List Nat)} {x : Int32} (hbx : bxO bx) (h : cP0 s u ri) : ∃ S : uS, fb_X7_finish_11 x s = fb_X7_finish_27 x S ∧ cFR S u bx ts (plE ts pl0) 0 0 ∧ S.I 1070 8 = 0 ∧ S.I 1070 12 = nI ri ∧ out pfI pfF s S := by
  obtain ⟨l1, l2, l3⟩ := h.lists
  obtain ⟨h1, h2, h3, h4, h5, h6, h7, h8, h9, h10, h11⟩ := h
  obtain ⟨S, a1, a2, a3⟩ := c_fin11 (bx := bx) (ts := ts) (p := pl0) (x := x) hbx l1 (fun i j _ hj => absurd hj (Nat.not_lt_zero j)) (fcB_f.mpr ⟨by decide, by decide, fun z => (by cases z), by decide, hbx.2.1⟩) h6 h5
  have I : ∀ f : Nat, f ≠ 5 → S.I 1070 f = s.I 1070 f := fun f z => a3.2.1 _ _ (by unfold pfI; omega)
  refine ⟨S, a1, ⟨a2, ?_, ?_, ?_, ?_, ?_, by decide, by decide⟩, (I _ (by omega)).trans h4, (I _ (by omega)).trans h11, a3⟩
  · have : nbsF bx ts (pF (plE ts pl0)) = [] := finF_nb (bx := bx) (ts := ts) (p := pl0)
    rw [this]
    exact l2.a (I _ (by omega)) (funext fun f => a3.2.2 _ _ (by unfold pfF; omega))
  · exact l3.a (I _ (by omega)) (funext fun f => a3.2.2 _ _ (by unfold pfF; omega))
  · rw [a3.1.2.1]; exact h9
  · rw [a3.1.2.1]; exact h8
  · rw [a3.1.2.1]; exact h10
theorem sFR_0 {s t : uS} {ts : List (List Nat)} : sFR s t ts (plE ts pl0) 0 0 := by
  refine Or.inl ⟨fun q hq => ?_, rfl, rfl, rfl⟩
  have hq' : q ∈ finF ts pl0 := hq
  have e : finF ts pl0 = [(none, 0)] := rfl
  rw [e] at hq'
  rw [List.mem_singleton.mp hq']
/-- the reference at the beginning -/
theorem r_begin {t : uS} {ts : List (List Nat)} : ∃ t1 : uS, fn_X12_begin t = some t1 ∧ rPn t1 ts pl0 false ∧ out (fun k f => k = 1079 ∧ (94 ≤ f ∧ f ≤ 106)) rNo t t1 := by
  refine ⟨_, rfl, ⟨⟨?_, fun k hk => absurd hk (Nat.not_lt_zero k)⟩, ⟨?_, fun k hk => absurd hk (Nat.not_lt_zero k)⟩, ?_, by decide, ?_, ?_, ?_, fun z => absurd z (by decide), ?_, fun z => absurd z (by decide), ?_⟩, ?_⟩
  · rw [wI_o (by omega), wI_o (by omega), wI_o (by omega), wI_e]; rfl
  · rw [wI_o (by omega), wI_o (by omega), wI_e]; rfl
  · rw [wI_o (by omega), wI_o (by omega), wI_o (by omega), wI_o (by omega), wI_o (by omega), wI_o (by omega), wI_o (by omega), wI_e]; rfl
  · rw [wI_o (by omega), wI_o (by omega), wI_o (by omega), wI_o (by omega), wI_o (by omega), wI_o (by omega), wI_e]; rfl
  · rw [wI_o (by omega), wI_o (by omega), wI_o (by omega), wI_o (by omega), wI_o (by omega), wI_e]; rfl
  · rw [wI_o (by omega), wI_e]; rfl
  · rw [wI_e]; rfl
  · rw [wI_o (by omega), wI_o (by omega), wI_o (by omega), wI_o (by omega), wI_e]; rfl
  · exact out_I (out_I (out_I (out_I (out_I (out_I (out_I (out_I out_r ⟨rfl, by omega⟩) ⟨rfl, by omega⟩) ⟨rfl, by omega⟩) ⟨rfl, by omega⟩) ⟨rfl, by omega⟩) ⟨rfl, by omega⟩) ⟨rfl, by omega⟩) ⟨rfl, by omega⟩
theorem rSt_nil (t : uS) : rSt t [] := ⟨0, fun j hj => absurd hj (Nat.not_lt_zero j), by decide, by decide, fun j => by rw [List.getD_nil]; exact bys_nil⟩
theorem rPn.fr46 {t : uS} {ts : List (List Nat)} {p : pl} {st : Bool} (hs : rSt t ts) (h : rPn t ts p st) (hl : (pF p).length ≤ 101) : ∃ t1 : uS, fb_X12_sortIt_46 t = some t1 ∧ rFR t1 ts (plE ts p) ∧ out fiI fiF t t1 := by
  obtain ⟨h1, h2, h3, h4, h5, h6, h7, h8, h9, h10, h11⟩ := h
  obtain ⟨t1, a1, a2, a3⟩ := r_sort46 hs h1 hl h5 h3
  have I : ∀ f : Nat, 100 ≤ f → f ≤ 106 → t1.I 1079 f = t.I 1079 f := fun f a b => a3.2.1 _ _ (by unfold fiI onwI; omega)
  exact ⟨t1, a1, ⟨hs.fr (fun k j z => a3.2.2 _ _ (by unfold fiF onwF; omega)), a2, h2.o a3 (by unfold fiI onwI; omega) (fun f => by unfold fiF onwF; omega), (I _ (by omega) (by omega)).trans h7, fun z => (I _ (by omega) (by omega)).trans (h8 z), (I _ (by omega) (by omega)).trans h9, fun z => (I _ (by omega) (by omega)).trans (h10 z)⟩, a3⟩
/-- without a script -/
theorem r_sort0 {t : uS} {u : Nat} (hu : u < 4) (h89 : t.I 1079 89 = nI u) (h : t.F 1150 u = -1) : ∃ t1 : uS, fn_X12_sortIt t = some t1 ∧ rFR t1 [] (plE [] pl0) := by
  obtain ⟨t1, a1, a2, a3⟩ := r_begin (t := t) (ts := [])
  obtain ⟨t2, b1, b2, -⟩ := a2.fr46 (rSt_nil t1) (by decide)
  refine ⟨t2, ?_, b2⟩
  unfold fn_X12_sortIt fn_X12_activeOf
  rw [a1, Option.bind_some, a3.2.1 _ _ (by omega), h89, g_1150 hu, Option.bind_some, a3.2.2 _ _ (fun z => z), h, Option.bind_some, if_pos (by decide)]
  exact b1
