/-! running a script: pieces for lists of commands and choices -/
/-- no else stands there -/
def nEl (s : uS) (N j : Nat) : Prop := j = N ∨ (j < N ∧ ∃ κ : Nat, s.I (16 + 3 * j) 0 = nI κ ∧ κ ≠ 22 ∧ κ ≠ 23 ∧ κ < 100)
theorem c_elE {s0 s : uS} {N j F : Nat} (hN : N ≤ 310) (h62 : s.I 6 2 = nI N) (hnd : ∀ i : Nat, i < 320 → ndS i s0 s) (hj : j ≤ N) (h : nEl s0 N j) : fn_X7_behindElses_2 (F + 1) (nI j) s = some (nI j) := by
  show fb_X7_behindElses_2 (fn_X7_behindElses_2 F) (nI j) s = _
  unfold fb_X7_behindElses_2
  rw [h62]
  rcases h with e | ⟨e, κ, k1, k2, k3, k4⟩
  · rw [if_pos (nI_le (by omega) (by omega))]
  · rw [if_neg (nI_ge e (by omega)), pgt_nod (by omega), Option.bind_some, if_pos (so_nod (by omega))]
    unfold fn_X3_isElse
    rw [(hnd j (by omega)).1, k1, if_neg (show ¬ nI κ = 22 from nI_ne (b := 22) (by omega) (by decide) k2), if_neg (show ¬ nI κ = 23 from nI_ne (b := 23) (by omega) (by decide) k3), Option.bind_some, if_neg (by decide)]
theorem c_elS {s0 s : uS} {N i j F κ : Nat} (hN : N ≤ 310) (h62 : s.I 6 2 = nI N) (hnd : ∀ i : Nat, i < 320 → ndS i s0 s) (hi : i + 1 < j) (hj : j ≤ N) (hκ : κ = 22 ∨ κ = 23) (h0 : s0.I (16 + 3 * i) 0 = nI κ) (h4 : s0.I (16 + 3 * i) 4 = nI j) : fn_X7_behindElses_2 (F + 1) (nI i) s = fn_X7_behindElses_2 F (nI j) s := by
  show fb_X7_behindElses_2 (fn_X7_behindElses_2 F) (nI i) s = _
  unfold fb_X7_behindElses_2
  have he : fn_X3_isElse (16 + 3 * i) s = some true := by
    unfold fn_X3_isElse
    rw [(hnd i (by omega)).1, h0]
    rcases hκ with z | z
    · rw [z, if_pos (show nI 22 = 22 from rfl)]
    · rw [z, if_neg (show ¬ nI 23 = 22 by decide), if_pos (show nI 23 = 23 from rfl)]
  rw [h62, if_neg (nI_ge (by omega) (by omega)), pgt_nod (by omega), Option.bind_some, if_pos (so_nod (by omega)), he, Option.bind_some, if_pos rfl, Option.bind_some, if_pos (so_nod (by omega)), (hnd i (by omega)).1, h4, nI_1, if_pos (nI_lt hi (by omega))]
theorem c_elsx {C : Nat → Nat → Nat → Nat → Nat → Nat → Prop} {s0 t0 s : uS} {N : Nat} {z : Bool} (hN : N ≤ 310) (h62 : s.I 6 2 = nI N) (hnd : ∀ i : Nat, i < 320 → ndS i s0 s) : ∀ (L : List (Nat × Nat × Nat)) (κ i j n m u w FU : Nat), brsR C s0 t0 z L κ i j n m u w → (κ = 22 ∨ κ = 23) → j ≤ N → nEl s0 N j → L.length + 2 ≤ FU → fn_X7_behindElses_2 FU (nI i) s = some (nI j) := by
  intro L
  induction L with
  | nil =>
    intro κ i j n m u w FU h hκ hj he hF
    obtain ⟨-, hb, -⟩ := h
    have hl := hb.lt
    obtain ⟨h0, h4, -⟩ := hb
    obtain ⟨f2, rfl⟩ : ∃ f2, FU = f2 + 2 := ⟨FU - 2, by simp at hF; omega⟩
    rw [c_elS (F := f2 + 1) hN h62 hnd hl.1 hj hκ h0 h4]
    exact c_elE hN h62 hnd hj he
  | cons q L ih =>
    intro κ i j n m u w FU h hκ hj he hF
    obtain ⟨hk, hb, -, hr⟩ := h
    have hl := hb.lt
    obtain ⟨h0, h4, -⟩ := hb
    simp only [List.length_cons] at hF
    obtain ⟨f2, rfl⟩ : ∃ f2, FU = f2 + 1 := ⟨FU - 1, by omega⟩
    have hq : q.1 ≤ N := by
      rcases hr with y | y
      · have := brsR.lt y; omega
      · have := brsR.lt y; omega
    rw [c_elS (F := f2) hN h62 hnd hl.1 hq hκ h0 h4]
    rcases hr with y | y
    · exact ih 22 q.1 j q.2.1 m q.2.2 w f2 y (Or.inl rfl) hj he (by omega)
    · exact ih 23 q.1 j q.2.1 m q.2.2 w f2 y (Or.inr rfl) hj he (by omega)
theorem lvR.up {s0 t0 : uS} {N : Nat} {fs : List (List Nat × List Nat)} {snd : List Nat} {rcs : List (List Nat)} {sz ri : Nat} {ts bx : List (List Nat)} {bg uu : Nat} {u w : Nat} {ts1 : List (List Nat)} {p : pl} {ir iv : Nat} {s : uS} (h : lvR s0 t0 N fs snd rcs sz ri ts bx bg uu u ts1 p ir iv s) (hw : u ≤ w) : lvR s0 t0 N fs snd rcs sz ri ts bx bg uu w ts1 p ir iv s := by
  obtain ⟨h1, h2, h3, h4, h5, h6, h7⟩ := h
  exact ⟨h1, h2.up hw, h3, h4, h5.up hw (fun _ _ => rfl), h6, h7⟩
/-- behind a test -/
theorem lvR.t {s0 t0 : uS} {N : Nat} {fs : List (List Nat × List Nat)} {snd : List Nat} {rcs : List (List Nat)} {sz ri : Nat} {ts bx : List (List Nat)} {bg uu : Nat} {u w : Nat} {ts1 ts2 : List (List Nat)} {p : pl} {ir iv : Nat} {s s1 : uS} (hu : uu < 4) (h : lvR s0 t0 N fs snd rcs sz ri ts bx bg uu u ts1 p ir iv s) (o : out lgI lgF s s1) (hs : cStr s1 ts bg w ts2) (hw : u ≤ w) (hk : ∀ q : Nat, q < u → ts2.getD q [] = ts1.getD q []) : lvR s0 t0 N fs snd rcs sz ri ts bx bg uu w ts2 p ir iv s1 := by
  obtain ⟨h1, h2, ⟨f1, f2, f3, f4, f5, f6, f7, f8, f9, f10, f11⟩, ⟨bgx, h4⟩, h5, h6, h7⟩ := h
  have I : ∀ f : Nat, s1.I 1070 f = s.I 1070 f := fun f => o.2.1 _ _ (by unfold lgI; omega)
  have F : ∀ k : Nat, 1071 ≤ k → k ≤ 1074 → s1.F k = s.F k := fun k a b => funext fun f => o.2.2 _ _ (by unfold lgF tF; omega)
  exact ⟨h1.o o, hs, ⟨f1.a (I _) (F _ (by omega) (by omega)) (F _ (by omega) (by omega)), f2.a (I _) (F _ (by omega) (by omega)), f3.a (I _) (F _ (by omega) (by omega)), by rw [o.1.2.1]; exact f4, by rw [o.1.2.1]; exact f5, (I _).trans f6, (I _).trans f7, (I _).trans f8, by rw [o.1.2.1]; exact f9, f10, f11⟩, ⟨bgx, h4.o o (fun f => by unfold lgI; omega) (fun f => by unfold lgF tF; omega) (fun f => by unfold lgF tF; omega) (fun f => by unfold lgF tF; omega)⟩, h5.up hw hk, h6, h7⟩
theorem rCt.a {t0 t t1 : uS} {ts : List (List Nat)} {fs : List (List Nat × List Nat)} {snd rcp : List Nat} {sz g g1 : Nat} (h : rCt t0 t ts fs snd rcp sz g) (o : out acI acF t t1) (hg : t1.I 1079 94 = nI g1) : rCt t0 t1 ts fs snd rcp sz g1 := by
  obtain ⟨h1, h2, ⟨m1, m2, m3, m4, m5⟩, h4⟩ := h
  have F : ∀ k j : Nat, ¬ acF k j → t1.F k j = t.F k j := fun k j hk => o.2.2 k j hk
  exact ⟨fun r f a b => (F _ _ (by unfold acF; omega)).trans (h1 r f a b), h2.fr (fun k j _ => F _ _ (by unfold acF; omega)), ⟨m1.o o (by unfold acI; omega) (fun _ _ _ _ => by unfold acF; omega), m2.o o (by unfold acI; omega) (fun _ => by unfold acF; omega), m3.o o (by unfold acI; omega) (fun _ => by unfold acF; omega), (o.2.1 _ _ (by unfold acI; omega)).trans m4, m5⟩, hg⟩
theorem rPn.le {t t1 : uS} {ts : List (List Nat)} {p : pl} {st : Bool} (h : rPn t ts p st) (o : out leI leF t t1) : rPn t1 ts p st := h.o o (fun f _ _ => by unfold leI; omega) (fun k f _ _ => by unfold leF; omega)
/-- how much may be in a plan ahead of the class's node i -/
def bdP (s0 : uS) (i : Nat) (p : pl) : Prop := (pF p).length ≤ acN s0 1 i ∧ (pDr p).length ≤ acN s0 1 i ∧ prj p ≤ i ∧ pvc p ≤ i
theorem bdP.up {s0 : uS} {i j : Nat} {p : pl} (h : bdP s0 i p) (h1 : 1 ≤ i) (hj : i ≤ j) : bdP s0 j p := by
  have e := acN_sp (s := s0) (a := 1) (b := i) h1 (c := j) hj
  obtain ⟨a, b, c, d⟩ := h
  exact ⟨by omega, by omega, by omega, by omega⟩
theorem addF_len {ts : List (List Nat)} {F : List (Option Nat × Nat)} {x : Option Nat} {b : Nat} : (addF ts F x b).length ≤ F.length + 1 ∧ F.length ≤ (addF ts F x b).length := by
  unfold addF
  cases hasF ts F x with
  | true => rw [if_pos rfl]; omega
  | false => rw [if_neg (by decide), List.length_append, List.length_cons, List.length_nil]; omega
theorem addD_len {ts : List (List Nat)} {D : List Nat} {j : Nat} : (addD ts D j).length ≤ D.length + 1 ∧ D.length ≤ (addD ts D j).length := by
  unfold addD
  cases hasD ts D j with
  | true => rw [if_pos rfl]; omega
  | false => rw [if_neg (by decide), List.length_append, List.length_cons, List.length_nil]; omega
theorem nbs_le {bx ts : List (List Nat)} {F : List (Option Nat × Nat)} {x : Option Nat} {b : Nat} : (nbsF bx ts F).length ≤ (nbsF bx ts (addF ts F x b)).length := by
  unfold addF
  cases hasF ts F x with
  | true => rw [if_pos rfl]; omega
  | false =>
    rw [if_neg (by decide)]
    unfold nbsF
    rw [List.filterMap_append, List.length_append]
    omega
theorem bdP.st {s0 : uS} {i κ n f b : Nat} {ts : List (List Nat)} {fl : Option Nat} {cp : Bool} {p : pl} (h : bdP s0 i p) (h1 : 1 ≤ i) (h0 : s0.I (16 + 3 * i) 0 = nI κ) (hk : κ ≤ 10) : bdP s0 (i + 1) (stp κ n ts f fl cp b p) := by
  obtain ⟨a1, a2, a3, a4⟩ := h
  have e := acN_s (s := s0) (a := 1) (b := i) h1
  have kA1 : κ = 3 ∨ κ = 4 ∨ κ = 5 → kA s0 i = 1 := by
    intro z
    unfold kA
    rw [h0, if_pos]
    rcases z with z | z | z <;> subst z
    · exact Or.inl rfl
    · exact Or.inr (Or.inl rfl)
    · exact Or.inr (Or.inr rfl)
  have l1 := addF_len (ts := ts) (F := pF p) (x := none) (b := fl.getD (pg p))
  have l2 := addF_len (ts := ts) (F := pF p) (x := some f) (b := fl.getD (pg p))
  have l3 := addD_len (ts := ts) (D := pDr p) (j := f)
  unfold stp
  by_cases c2 : κ = 2
  · rw [if_pos c2]
    exact ⟨show (pF p).length ≤ _ by omega, show (pDr p).length ≤ _ by omega, show prj p ≤ _ by omega, show pvc p ≤ _ by omega⟩
  rw [if_neg c2]
  by_cases c3 : κ = 3
  · have := kA1 (Or.inl c3)
    rw [if_pos c3]
    exact ⟨show (addF ts (pF p) none (fl.getD (pg p))).length ≤ _ by omega, show (pDr p).length ≤ _ by omega, show prj p ≤ _ by omega, show pvc p ≤ _ by omega⟩
  rw [if_neg c3]
  by_cases c4 : κ = 4
  · have := kA1 (Or.inr (Or.inl c4))
    rw [if_pos c4]
    exact ⟨show (addF ts (pF p) (some f) (fl.getD (pg p))).length ≤ _ by omega, show (pDr p).length ≤ _ by omega, show prj p ≤ _ by omega, show pvc p ≤ _ by omega⟩
  rw [if_neg c4]
  by_cases c5 : κ = 5
  · have := kA1 (Or.inr (Or.inr c5))
    rw [if_pos c5]
    exact ⟨show (pF p).length ≤ _ by omega, show (addD ts (pDr p) f).length ≤ _ by omega, show prj p ≤ _ by omega, show pvc p ≤ _ by omega⟩
  rw [if_neg c5]
  by_cases c6 : κ = 6
  · rw [if_pos c6]
    exact ⟨show (pF p).length ≤ _ by omega, show (pDr p).length ≤ _ by omega, show prj p + 1 ≤ _ by omega, show pvc p ≤ _ by omega⟩
  rw [if_neg c6]
  by_cases c7 : κ = 7
  · rw [if_pos c7]
    exact ⟨show (pF p).length ≤ _ by omega, show (pDr p).length ≤ _ by omega, show prj p ≤ _ by omega, show pvc p ≤ _ by omega⟩
  rw [if_neg c7]
  by_cases c8 : κ = 8
  · rw [if_pos c8]
    exact ⟨show (pF p).length ≤ _ by omega, show (pDr p).length ≤ _ by omega, show prj p ≤ _ by omega, show pvc p ≤ _ by omega⟩
  rw [if_neg c8]
  by_cases c9 : κ = 9
  · rw [if_pos c9]
    exact ⟨show (pF p).length ≤ _ by omega, show (pDr p).length ≤ _ by omega, show prj p ≤ _ by omega, show pvc p ≤ _ by omega⟩
  rw [if_neg c9]
  by_cases c10 : κ = 10
  · rw [if_pos c10]
    exact ⟨show (pF p).length ≤ _ by omega, show (pDr p).length ≤ _ by omega, show prj p ≤ _ by omega, show pvc p + 1 ≤ _ by omega⟩
  rw [if_neg c10]
  exact ⟨show (pF p).length ≤ _ by omega, show (pDr p).length ≤ _ by omega, show prj p ≤ _ by omega, show pvc p ≤ _ by omega⟩
/-- a script that has failed stays so -/
theorem fcP_st {κ n f b : Nat} {ts bx : List (List Nat)} {fl : Option Nat} {cp : Bool} {p : pl} (h : fcP bx ts p = true) : fcP bx ts (stp κ n ts f fl cp b p) = true := by
  refine fcP_t (fun z => ?_)
  have hn : ¬ ((pDr p).length ≤ 4 ∧ prj p ≤ 1 ∧ (prj p = 1 → pac p = false ∧ pvc p = 0) ∧ pvc p ≤ 1 ∧ bx.length + (nbsF bx ts (pF p)).length ≤ 6) := by
    intro y
    have : fcP bx ts p = false := fcB_f.mpr y
    rw [h] at this
    cases this
  apply hn
  obtain ⟨z1, z2, z3, z4, z5⟩ := z
  have l1 := nbs_le (bx := bx) (ts := ts) (F := pF p) (x := none) (b := fl.getD (pg p))
  have l2 := nbs_le (bx := bx) (ts := ts) (F := pF p) (x := some f) (b := fl.getD (pg p))
  have l3 := addD_len (ts := ts) (D := pDr p) (j := f)
  unfold stp at z1 z2 z3 z4 z5
  by_cases c2 : κ = 2
  · rw [if_pos c2] at z1 z2 z3 z4 z5
    exact ⟨z1, z2, z3, z4, z5⟩
  rw [if_neg c2] at z1 z2 z3 z4 z5
  by_cases c3 : κ = 3
  · rw [if_pos c3] at z1 z2 z3 z4 z5
    have z5' : bx.length + (nbsF bx ts (addF ts (pF p) none (fl.getD (pg p)))).length ≤ 6 := z5
    have z3' : prj p = 1 → true = false ∧ pvc p = 0 := z3
    exact ⟨z1, z2, fun y => absurd (z3' y).1 (by decide), z4, by omega⟩
  rw [if_neg c3] at z1 z2 z3 z4 z5
  by_cases c4 : κ = 4
  · rw [if_pos c4] at z1 z2 z3 z4 z5
    have z5' : bx.length + (nbsF bx ts (addF ts (pF p) (some f) (fl.getD (pg p)))).length ≤ 6 := z5
    have z3' : prj p = 1 → true = false ∧ pvc p = 0 := z3
    exact ⟨z1, z2, fun y => absurd (z3' y).1 (by decide), z4, by omega⟩
  rw [if_neg c4] at z1 z2 z3 z4 z5
  by_cases c5 : κ = 5
  · rw [if_pos c5] at z1 z2 z3 z4 z5
    have z1' : (addD ts (pDr p) f).length ≤ 4 := z1
    have z3' : prj p = 1 → true = false ∧ pvc p = 0 := z3
    exact ⟨by omega, z2, fun y => absurd (z3' y).1 (by decide), z4, z5⟩
  rw [if_neg c5] at z1 z2 z3 z4 z5
  by_cases c6 : κ = 6
  · rw [if_pos c6] at z1 z2 z3 z4 z5
    have z2' : prj p + 1 ≤ 1 := z2
    exact ⟨z1, by omega, fun y => by omega, z4, z5⟩
  rw [if_neg c6] at z1 z2 z3 z4 z5
  by_cases c7 : κ = 7
  · rw [if_pos c7] at z1 z2 z3 z4 z5
    exact ⟨z1, z2, z3, z4, z5⟩
  rw [if_neg c7] at z1 z2 z3 z4 z5
  by_cases c8 : κ = 8
  · rw [if_pos c8] at z1 z2 z3 z4 z5
    exact ⟨z1, z2, z3, z4, z5⟩
  rw [if_neg c8] at z1 z2 z3 z4 z5
  by_cases c9 : κ = 9
  · rw [if_pos c9] at z1 z2 z3 z4 z5
    exact ⟨z1, z2, z3, z4, z5⟩
  rw [if_neg c9] at z1 z2 z3 z4 z5
  by_cases c10 : κ = 10
  · rw [if_pos c10] at z1 z2 z3 z4 z5
    have z4' : pvc p + 1 ≤ 1 := z4
    have z3' : prj p = 1 → pac p = false ∧ pvc p + 1 = 0 := z3
    exact ⟨z1, z2, fun y => ⟨(z3' y).1, by omega⟩, by omega, z5⟩
  rw [if_neg c10] at z1 z2 z3 z4 z5
  exact ⟨z1, z2, z3, z4, z5⟩
