/-! rows that stay, and a script that has run, with them -/
/-- rows of A are as they were -/
def sW (A : Nat → Prop) (s s1 : uS) : Prop := s.n ≤ s1.n ∧ ∀ k : Nat, k < s.n → A k → s1.c k = s.c k ∧ s1.I k = s.I k ∧ s1.R k = s.R k ∧ s1.F k = s.F k ∧ s1.P k = s.P k
theorem sW_r {A : Nat → Prop} {s : uS} : sW A s s := ⟨Nat.le_refl _, fun _ _ _ => ⟨rfl, rfl, rfl, rfl, rfl⟩⟩
theorem sW_t {A : Nat → Prop} {s s1 s2 : uS} (h : sW A s s1) (g : sW A s1 s2) : sW A s s2 := by
  refine ⟨Nat.le_trans h.1 g.1, fun k hk ha => ?_⟩
  obtain ⟨a1, a2, a3, a4, a5⟩ := h.2 k hk ha
  obtain ⟨b1, b2, b3, b4, b5⟩ := g.2 k (Nat.lt_of_lt_of_le hk h.1) ha
  exact ⟨b1.trans a1, b2.trans a2, b3.trans a3, b4.trans a4, b5.trans a5⟩
theorem sW_w {A B : Nat → Prop} {s s1 : uS} (h : sW A s s1) (w : ∀ k : Nat, B k → A k) : sW B s s1 := ⟨h.1, fun k hk hb => h.2 k hk (w k hb)⟩
theorem sW_oc {A : Nat → Prop} {PI PF PR PP : Nat → Nat → Prop} {s s1 : uS} (o : oc PI PF PR PP s s1) (_hn : 1171 ≤ s.n) (h : ∀ k : Nat, A k → (∀ f, ¬ PI k f) ∧ (∀ f, ¬ PF k f) ∧ (∀ f, ¬ PR k f) ∧ ∀ f, ¬ PP k f) : sW A s s1 := ⟨o.1, fun k hk ha => ⟨o.2.1 k hk, o.I hk (h k ha).1, o.R hk (h k ha).2.2.1, o.F hk (h k ha).2.1, o.P hk (h k ha).2.2.2⟩⟩
theorem sW_out {A : Nat → Prop} {PI PF : Nat → Nat → Prop} {s s1 : uS} (o : out PI PF s s1) (h : ∀ k : Nat, A k → (∀ f, ¬ PI k f) ∧ ∀ f, ¬ PF k f) : sW A s s1 := ⟨Nat.le_of_eq o.1.2.2.2.2.1.symm, fun k _ ha => ⟨by rw [o.1.1], funext fun f => o.2.1 k f ((h k ha).1 f), by rw [o.1.2.1], funext fun f => o.2.2 k f ((h k ha).2 f), by rw [o.1.2.2.2.1]⟩⟩
theorem sW_agf {A : Nat → Prop} {ps : List (Nat × Nat)} {as rs ks : List Nat} {s s1 : uS} (h : agf ps as rs ks s s1) (hn : 1171 ≤ s.n) (g : ∀ k : Nat, A k → rg k ∉ rs ∧ k ∉ ks ∧ k ∉ as ∧ ∀ f : Nat, (k, f) ∉ ps) : sW A s s1 := by
  obtain ⟨a1, a2, a3, a4, a5⟩ := h hn
  refine ⟨a1, fun k hk ha => ?_⟩
  obtain ⟨g1, g2, g3, g4⟩ := g k ha
  obtain ⟨b1, b2, b3⟩ := a5 k hk g1 g2 g3
  exact ⟨a2 k hk, funext fun f => (a4 k f hk g1 g2 (g4 f)).1, funext fun f => (a4 k f hk g1 g2 (g4 f)).2, b1, b3⟩
/-- the class's rows that no run of a script touches -/
def cA (k : Nat) : Prop := k ≤ 5 ∨ (976 ≤ k ∧ k ≤ 1061) ∨ 1171 ≤ k
theorem mem_ps {k f : Nat} {ps : List (Nat × Nat)} (h : ∀ q ∈ ps, q.1 ≠ k) : (k, f) ∉ ps := fun z => h _ z rfl
theorem cA_run : ∀ k : Nat, cA k → rg k ∉ ([] : List Nat) ∧ k ∉ ([9, 1063, 1062, 1064, 1065, 1066, 1067, 1069, 1068] : List Nat) ∧ k ∉ ([1064, 1065, 1071, 1072, 1073, 1074] : List Nat) ∧ ∀ f : Nat, (k, f) ∉ ([(1070, 5), (1070, 6), (1070, 7), (1070, 9), (1070, 10), (1070, 13), (1070, 14), (1070, 15), (1070, 16), (1070, 17)] : List (Nat × Nat)) := by
  intro k h
  unfold cA at h
  refine ⟨by simp only [List.not_mem_nil, not_false_eq_true], ?_, ?_, fun f => ?_⟩ <;> simp only [List.mem_cons, Prod.mk.injEq, List.not_mem_nil, or_false, false_and, not_false_eq_true] <;> omega
theorem cA_clr : ∀ k : Nat, cA k → rg k ∉ ([] : List Nat) ∧ k ∉ ([] : List Nat) ∧ k ∉ ([] : List Nat) ∧ ∀ f : Nat, (k, f) ∉ ([(1070, 5), (1070, 6), (1070, 7), (1070, 8), (1070, 9), (1070, 10), (1070, 13), (1070, 14), (1070, 15)] : List (Nat × Nat)) := by
  intro k h
  unfold cA at h
  refine ⟨by simp only [List.not_mem_nil, not_false_eq_true], ?_, ?_, fun f => ?_⟩ <;> simp only [List.mem_cons, Prod.mk.injEq, List.not_mem_nil, or_false, false_and, not_false_eq_true] <;> omega
theorem cA_beg : ∀ k : Nat, cA k → rg k ∉ ([] : List Nat) ∧ k ∉ ([] : List Nat) ∧ k ∉ ([] : List Nat) ∧ ∀ f : Nat, (k, f) ∉ ([(1070, 5), (1070, 6), (1070, 7), (1070, 8), (1070, 9), (1070, 10), (1070, 11), (1070, 12), (1070, 13), (1070, 14), (1070, 15), (1070, 16), (1070, 17)] : List (Nat × Nat)) := by
  intro k h
  unfold cA at h
  refine ⟨by simp only [List.not_mem_nil, not_false_eq_true], ?_, ?_, fun f => ?_⟩ <;> simp only [List.mem_cons, Prod.mk.injEq, List.not_mem_nil, or_false, false_and, not_false_eq_true] <;> omega
theorem cA_fin : ∀ k : Nat, cA k → rg k ∉ ([] : List Nat) ∧ k ∉ ([1075, 1076, 1065, 1064, 1062, 1063] : List Nat) ∧ k ∉ ([1071, 1072] : List Nat) ∧ ∀ f : Nat, (k, f) ∉ ([(1070, 5), (1070, 6), (1070, 7), (1070, 8), (1070, 9), (1070, 10), (1070, 13), (1070, 14), (1070, 15)] : List (Nat × Nat)) := by
  intro k h
  unfold cA at h
  refine ⟨by simp only [List.not_mem_nil, not_false_eq_true], ?_, ?_, fun f => ?_⟩ <;> simp only [List.mem_cons, Prod.mk.injEq, List.not_mem_nil, or_false, false_and, not_false_eq_true] <;> omega
theorem t_scrF {s t : uS} {u ri tb sl : Nat} {x nm : List Nat} {fs : List (List Nat × List Nat)} {snd : List Nat} {rcs bx : List (List Nat)} {sz bgx : Nat} {day : Int32} (hu : u < 4) (hn : 1171 ≤ s.n) (hnt : 1171 ≤ t.n) (h0 : cP0 s u ri) (h16 : s.I 1070 16 = 0) (h17 : s.I 1070 17 = 0) (hx : cBn s tb x) (hM : cMs s fs snd rcs sz) (ho : fsO fs) (as_ : adO snd) (ar : adO (rcs.getD ri [])) (hri : ri < rcs.length) (hbz : cTz s (988 + 16 * u) 120 6 bx bgx []) (hbx : bxO bx) (h89 : t.I 1079 89 = nI u) (hac : t.F 1150 u = nI sl) (hsl : sl < 16) (hse : rSe t sl (nm, x)) (hls : lsO t) (hRM : rMs t fs snd (rcs.getD ri []) sz) (hRB : rBx t u bx) : ∃ s1 s2 S t1 : uS, fn_X4_parse tb (nI 0) (nI x.length) s = some (s1, nI 0) ∧ fn_X7_run s1 = some s2 ∧ fn_X7_finish day s2 = fb_X7_finish_27 day S ∧ fn_X12_sortIt t = some t1 ∧ lsO t1 ∧ srO s t S t1 u ri bx ∧ sW cA s S := by
  obtain ⟨l1, l2, l3⟩ := h0.lists
  obtain ⟨tb0, a1, a2, a3⟩ := r_begin (t := t) (ts := [])
  have F0 : tb0.F = t.F := funext fun k => funext fun f => a3.2.2 k f (fun z => z)
  have L0 : tb0.L = t.L := a3.1.2.2.1
  have hse0 : rSe tb0 sl (nm, x) := hse.fr (by rw [F0]) (fun j _ => by rw [F0]) (by rw [F0]) (fun j _ => by rw [L0])
  have hx2 : x.length ≤ 2000 := hse.2.1.1
  have hld := r_load hsl hse0
  have hld' : fn_X12_loadScript (nI sl) tb0 = some (cpy (wI tb0 1079 29 (nI x.length)) 1096 0 0 x.length (fun j => nI (x.getD j 0))) := hld
  have o1 : out (fun k f => k = 1079 ∧ f = 29) (fun k _ => k = 1096) tb0 (cpy (wI tb0 1079 29 (nI x.length)) 1096 0 0 x.length (fun j => nI (x.getD j 0))) := out_t (out_I out_r ⟨rfl, rfl⟩) (out_cpy (fun _ => rfl))
  have e29 : (cpy (wI tb0 1079 29 (nI x.length)) 1096 0 0 x.length (fun j => nI (x.getD j 0))).I 1079 29 = nI x.length := by rw [cpy_I, wI_e]
  have e96 : ∀ j : Nat, j < x.length → (cpy (wI tb0 1079 29 (nI x.length)) 1096 0 0 x.length (fun j => nI (x.getD j 0))).F 1096 j = nI (x.getD j 0) := fun j hj => by have := cpy_Fe (s := wI tb0 1079 29 (nI x.length)) (K := 1096) (off := 0) (g := fun j => nI (x.getD j 0)) (Nat.zero_le j) hj; rwa [Nat.zero_add] at this
  generalize cpy (wI tb0 1079 29 (nI x.length)) 1096 0 0 x.length (fun j => nI (x.getD j 0)) = tL at *
  have FL : ∀ k : Nat, k ≠ 1096 → tL.F k = t.F k := fun k hk => by rw [show tL.F k = tb0.F k from funext fun f => o1.2.2 k f hk, F0]
  have hlsL : lsO tL := fun n hn' => by rw [FL _ (by decide), FL _ (by decide)]; exact hls n hn'
  obtain ⟨s1, tR, r, b1, b2, b3, b4, b5, b6, b7, ts, bg, N, M, u0, hsc⟩ := p_good (by rw [hx.cl]; show x.length ≤ 10000; omega) (by have := hx.2.1; omega) hx.rd (by omega) hx2 e29 e96 hlsL hse.2.1.2
  rw [Nat.zero_add] at b1
  obtain ⟨c1, c2, c3, c4, c5, c6, c7, c8, c9, c10, c11⟩ := hsc
  have o2 := ol_o b6
  have hM1 : cMs s1 fs snd rcs sz := hM.oc b3 hn (fun k f _ _ => by unfold psI; omega) (fun k f _ _ => by unfold psI; omega)
  have hbz1 : cTz s1 (988 + 16 * u) 120 6 bx bgx [] := hbz.oc b3 (by omega) (fun f => by unfold psI; omega) (fun j f _ _ => by unfold psI; omega)
  have I1 : ∀ f : Nat, s1.I 1070 f = s.I 1070 f := fun f => b3.2.2.2.1 _ _ (by omega) (by unfold psI; omega)
  have R1 : ∀ f : Nat, s1.R 1070 f = s.R 1070 f := fun f => b3.2.2.2.2.2.1 _ _ (by omega) (by unfold psI; omega)
  have F1 : ∀ k : Nat, 1071 ≤ k → k ≤ 1074 → s1.F k = s.F k := fun k _ _ => b3.F (by omega) (fun f => by unfold psI; omega)
  have hRM1 : rMs tR fs snd (rcs.getD ri []) sz := ((hRM.o a3 (fun f z => by omega) (fun _ _ _ z => z)).o o1 (fun f z => by omega) (fun k f z => by omega)).o o2 (fun f z => by unfold rdI; omega) (fun k f z => by unfold rdF; omega)
  have hp0 : rPn tR ts pl0 false := (((rPn_0 a2).o o1 (fun f _ _ => by omega) (fun k f _ _ => by omega)).o o2 (fun f _ _ => by unfold rdI; omega) (fun k f _ _ => by unfold rdF; omega))
  have hbys : ∀ j : Nat, bys (ts.getD j []) := by
    intro j
    by_cases z : j < ts.length
    · obtain ⟨fr, -, h⟩ := c1.2.2.2.2.2.2.2
      exact (h j z).1
    · rw [List.getD_eq_getElem?_getD, List.getElem?_eq_none (by omega)]; exact bys_nil
  have hst : rSt tR ts := ⟨bg, c2, by omega, c4, hbys⟩
  have hrB1 : rBx tR u bx := ((hRB.fr (fun k j _ _ => by rw [F0])).fr (fun k j _ _ => o1.2.2 _ _ (by omega))).fr (fun k j _ _ => o2.2.2 _ _ (by unfold rdF; omega))
  have h891 : tR.I 1079 89 = nI u := by rw [o2.2.1 _ _ (by unfold rdI; omega), o1.2.1 _ _ (by omega), a3.2.1 _ _ (by omega)]; exact h89
  have hN1 : 1 ≤ N := by
    rcases c10 with ⟨z, -⟩ | ⟨L, -, z⟩
    · omega
    · have := chR.lt (fun i j n m u w z => cnR.lt z) z; omega
  have hl1 : ∀ j : Nat, j < ts.length → (ts.getD j []).length ≤ 1000 := fun j hj => by obtain ⟨a, -, -, -, z, -⟩ := c2 j hj; exact z
  have hfc0 : fcP bx ts pl0 = false := fcB_f.mpr ⟨by decide, by decide, fun z => (by cases z), by decide, hbx.2.1⟩
  have hlv : lvR s1 tR N fs snd rcs sz ri ts bx bg u u0 ts pl0 0 0 s1 := by
    obtain ⟨y1, y2, y3, y4, y5, y6, y7, y8, y9, y10, y11⟩ := h0
    refine ⟨⟨fun i _ => ⟨fun _ => rfl, fun _ => rfl, fun _ => rfl⟩, c6, hM1, (I1 _).trans y11, (I1 _).trans y5, (I1 _).trans h17⟩, ⟨c1, rfl, fun _ _ => rfl, fun _ => rfl⟩, ⟨l1.a (I1 _) (F1 _ (by decide) (by decide)) (F1 _ (by decide) (by decide)), l2.a (I1 _) (F1 _ (by decide) (by decide)), l3.a (I1 _) (F1 _ (by decide) (by decide)), (R1 _).trans y9, (R1 _).trans y8, (I1 _).trans y6, (I1 _).trans y7, (I1 _).trans h16, (R1 _).trans y10, by decide, by decide⟩, ⟨bgx, hbz1⟩, ⟨fun q hq => (by cases hq), fun j hj => (by cases hj), fun z => absurd z (by decide), fun z => absurd z (by decide)⟩, fun i j _ hj => absurd hj (Nat.not_lt_zero j), hfc0⟩
  have hbd : bdP s1 1 pl0 := ⟨Nat.zero_le _, Nat.zero_le _, Nat.zero_le _, Nat.zero_le _⟩
  obtain ⟨t1, p1, st1, ⟨x1, x2, x3, x4⟩, y⟩ := t_block (B := 9) (P := 0) (R := (fg_2 59).2.1) (live := true) (show N ≤ 310 by omega) (by decide) (t_cmd (show N ≤ 310 by omega) hu ho as_ ar hri hl1 hbx c11 9 59 (by decide)) (Nat.le_refl 1) c10 (Nat.le_refl _) (by omega) (Nat.le_refl _) (Or.inl rfl) ⟨fun _ _ _ _ => rfl, hst, hRM1, hp0.2.2.1⟩ hp0 hbd (fun _ => hlv) (fun z => by cases z)
  have hF1 : (pF p1).length ≤ 100 := by have := x4.1; omega
  have hst1 := x2.2.1
  have hrun : fn_X12_sortIt t = (fn_X12_fails t1).bind fun r12 => if r12.2 = true then ((fn_X12_begin r12.1).bind fun s15 => fb_X12_sortIt_46 s15) else (fb_X12_sortIt_46 r12.1) := by
    unfold fn_X12_sortIt fn_X12_activeOf
    rw [a1, Option.bind_some, a3.2.1 _ _ (by omega), h89, g_1150 hu, Option.bind_some, F0, hac, Option.bind_some, if_neg (nI_pos (by omega)), hld', Option.bind_some, b2, Option.bind_some]
    show (fn_X12_run (fg_2 59).2.1 (tR.I 1079 67) tR).bind _ = _
    rw [c9, x1, Option.bind_some]
  have hagf := (zg_2 60).1 (nI 0) tR t1 x1
  have hnR : tR.n = t.n := by rw [o2.1.2.2.2.2.1, o1.1.2.2.2.2.1, a3.1.2.2.2.2.1]
  have hfr : ∀ t2 : uS, out (fun k f => k = 1079) (fun k _ => k = 1093 ∨ k = 1094 ∨ k = 1138 ∨ k = 1139) t1 t2 → (∀ r f : Nat, 1097 ≤ r → r ≤ 1117 → t2.F r f = tR.F r f) ∧ lsO t2 := by
    intro t2 o
    have h : ∀ r f : Nat, 1097 ≤ r → r ≤ 1117 → t2.F r f = tR.F r f := fun r f a b => (o.2.2 _ _ (by omega)).trans (x2.1 r f a b)
    exact ⟨h, fun n hn' => by rw [h _ _ (by omega) (by omega), h _ _ (by omega) (by omega)]; exact b7 n hn'⟩
  have hnR' : 1171 ≤ tR.n := by rw [hnR]; exact hnt
  have hB1 : rBx t1 u bx ∧ t1.I 1079 89 = nI u := by
    refine ⟨hrB1.fr (fun k j a b => ?_), ((agf_R hagf hnR' (k := 1079) (f := 89) (by omega) (by decide) (by decide) (by decide)).1).trans h891⟩
    rcases (show k = 1126 ∨ k = 1127 ∨ k = 1128 by omega) with z | z | z
    · rw [z, (agf_F hagf hnR' (k := 1126) (by omega) (by decide) (by decide) (by decide)).1]
    · rw [z, (agf_F hagf hnR' (k := 1127) (by omega) (by decide) (by decide) (by decide)).1]
    · rw [z, (agf_F hagf hnR' (k := 1128) (by omega) (by decide) (by decide) (by decide)).1]
  obtain ⟨t2, f1, f2⟩ := r_fails hu hbx (by omega) hB1.1 hst1 x3.1 hB1.2 x3.2.1.1 x3.2.2.2.2.2.2.1 x3.2.2.2.2.2.2.2.2.1 x3.2.2.2.2.2.2.2.2.2.2 (by have := x4.2.1; omega) (by have := x4.2.2.1; omega) (by have := x4.2.2.2; omega)
  have f1' : fn_X12_fails t1 = some (t2, fcP bx ts p1) := f1
  have x32 := x3.onw f2
  have hst2 : rSt t2 ts := onwT hst1 f2
  have good : fcP bx ts p1 = false → ∀ (s2 : uS) (ts2 : List (List Nat)) (ir iv : Nat) (v : Int32), lvR s1 tR N fs snd rcs sz ri ts bx bg u ts.length ts2 p1 ir iv s2 → fn_X7_run s1 = some (wI s2 1070 17 v) → ∃ s3 S t1 : uS, fn_X7_run s1 = some s3 ∧ fn_X7_finish day s3 = fb_X7_finish_27 day S ∧ fn_X12_sortIt t = some t1 ∧ lsO t1 ∧ srO s t S t1 u ri bx ∧ sW cA s S := by
    intro hfc s2 ts2 ir iv v hL hr
    obtain ⟨hc, hstr, ⟨k1, k2, k3, k4, k5, k6, k7, k8, k9, k10, k11⟩, hbb, hsv, hds, -⟩ := hL
    obtain ⟨t3, g1, g2, g3⟩ := x32.fr46 hst2 (by omega)
    have W : ∀ f : Nat, f ≠ 17 → (wI s2 1070 17 v).I 1070 f = s2.I 1070 f := fun f z => wI_o (by omega)
    obtain ⟨S, m1, m2, m3⟩ := c_fin11 (s := wI s2 1070 17 v) (x := day) hbx (k1.a (W _ (by omega)) rfl rfl) hds hfc ((W _ (by omega)).trans k6) ((W _ (by omega)).trans hc.2.2.2.2.1)
    have hout : out (fun k f => k = 1079) (fun k _ => k = 1093 ∨ k = 1094 ∨ k = 1138 ∨ k = 1139) t1 t3 := out_t (out_w f2 (fun k f z => z.1) (fun k f z => by unfold onwF at z; omega)) (out_w g3 (fun k f z => by unfold fiI onwI at z; omega) (fun k f z => by unfold fiF onwF at z; omega))
    obtain ⟨hfr3, hls3⟩ := hfr t3 hout
    have IS : ∀ k f : Nat, ¬ (k = 1070 ∧ (f = 5 ∨ f = 17)) → S.I k f = s2.I k f := fun k f z => by rw [m3.2.1 _ _ (by unfold pfI; omega), wI_o (by omega)]
    have FS : ∀ k : Nat, k ≠ 1071 → k ≠ 1072 → S.F k = s2.F k := fun k a b => funext fun f => m3.2.2 _ _ (by unfold pfF; omega)
    have hnd : ∀ i : Nat, i < 320 → ndS i s1 S := fun i hi => by
      obtain ⟨z1, z2, z3⟩ := hc.1 i hi
      exact ⟨fun f => (IS _ _ (by omega)).trans (z1 f), fun f => by rw [FS _ (by omega) (by omega)]; exact z2 f, fun f => by rw [FS _ (by omega) (by omega)]; exact z3 f⟩
    refine ⟨_, S, t3, hr, ?_, ?_, hls3, ⟨ts, plE ts p1, ir, iv, ⟨m2, ?_, ?_, ?_, ?_, ?_, k10, k11⟩, g2, Or.inr ⟨ts2, bg, ?_, hstr.2.1, hstr.2.2.2, (hsv.fr hnd hfr3 k10 k11).E⟩, by rw [fcP_E]; exact hfc, dsF_E hds, ?_, ?_⟩, ?_⟩
    · unfold fn_X7_finish
      rw [W _ (by omega), k8, if_pos rfl]
      exact m1
    · rw [hrun, f1', Option.bind_some]
      dsimp only
      rw [hfc, if_neg (by decide)]
      exact g1
    · show cNb S (nbsF bx ts (finF ts p1))
      rw [finF_nb]
      exact k2.a (IS _ _ (by omega)) (FS _ (by decide) (by decide))
    · exact k3.a (IS _ _ (by omega)) (FS _ (by decide) (by decide))
    · rw [m3.1.2.1]; exact k4
    · rw [m3.1.2.1]; exact k5
    · rw [m3.1.2.1]; exact k9
    · exact hstr.1.fr (IS _ _ (by omega)) (IS _ _ (by omega)) (IS _ _ (by omega)) (FS _ (by decide) (by decide)) (FS _ (by decide) (by decide)) (FS _ (by decide) (by decide))
    · have hz := (agf_R (zc_X7_run hr) (by rw [b4]; exact hn) (k := 1070) (f := 8) (by omega) (by decide) (by decide) (by decide)).1
      rw [m3.2.1 _ _ (by unfold pfI; omega), hz, I1]
      exact h0.2.2.2.1
    · exact (IS _ _ (by omega)).trans hc.2.2.2.1
    · exact sW_t (sW_oc b3 hn (fun k h => ⟨fun f z => by unfold psI at z; unfold cA at h; omega, fun f z => by unfold psI at z; unfold cA at h; omega, fun f z => by unfold psI at z; unfold cA at h; omega, fun f z => by unfold psI at z; unfold cA at h; omega⟩)) (sW_t (sW_agf (zc_X7_run hr) (by rw [b4]; exact hn) cA_run) (sW_out m3 (fun k h => ⟨fun f z => by unfold pfI at z; unfold cA at h; omega, fun f z => by unfold pfF at z; unfold cA at h; omega⟩)))
  have hru : fn_X7_run s1 = fn_X7_run_4 1000000 (nI 1) (nI 0) s1 := rfl
  have fin : ∃ s3 S t1 : uS, fn_X7_run s1 = some s3 ∧ fn_X7_finish day s3 = fb_X7_finish_27 day S ∧ fn_X12_sortIt t = some t1 ∧ lsO t1 ∧ srO s t S t1 u ri bx ∧ sW cA s S := by
    rcases y.2 rfl with ⟨-, s2, ts2, tn, ir, iv, q1, q2, q3, q4⟩ | ⟨-, s2, ts2, tn, ir, iv, q1, q2, q3, q4⟩ | ⟨z, s2, tn, q1, q2, q3⟩
    · have e1 := q4 (1000000 - tn) 0 (by omega)
      rw [show 1000000 - tn + tn = 1000000 by omega, ← hru] at e1
      obtain ⟨M1, hM1'⟩ : ∃ M1, 1000000 - tn = M1 + 1 := ⟨1000000 - tn - 1, by omega⟩
      rw [hM1'] at e1
      have e2 : fn_X7_run_4 (M1 + 1) (nI N) (nI (0 + tn)) s2 = some s2 := by
        rw [run_s]
        unfold fb_X7_run_4
        by_cases c : (320 : Int32) ≤ nI (0 + tn)
        · rw [if_pos c]
        · rw [if_neg c, if_pos (by rw [q2.1.2.1]; exact nI_le (Nat.le_refl _) (by omega))]
      refine good q2.2.2.2.2.2.2 s2 ts2 ir iv 0 q2 ?_
      rw [wI_self q2.1.2.2.2.2.2, e1, e2]
    · have e1 := q4 (1000000 - 1 - tn) 0 (by omega)
      rw [show 1000000 - 1 - tn + 1 + tn = 1000000 by omega, ← hru] at e1
      exact good q2.2.2.2.2.2.2 s2 ts2 ir iv 1 q2 e1
    · have e1 := q3 (1000000 - 1 - tn) 0 (by omega)
      rw [show 1000000 - 1 - tn + 1 + tn = 1000000 by omega, ← hru] at e1
      have hz := zc_X7_run e1
      have hn1 : 1171 ≤ s1.n := by rw [b4]; exact hn
      have r11 : s2.R 1070 11 = some (985 + 16 * u) := by
        rw [(agf_R hz hn1 (k := 1070) (f := 11) (by omega) (by decide) (by decide) (by decide)).2, R1]
        exact h0.2.2.2.2.2.2.2.2.2.1
      have i12 : s2.I 1070 12 = nI ri := by
        rw [(agf_R hz hn1 (k := 1070) (f := 12) (by omega) (by decide) (by decide) (by decide)).1, I1]
        exact h0.2.2.2.2.2.2.2.2.2.2
      obtain ⟨s3, n1, n2, -, -⟩ := c_clearP r11 i12
      obtain ⟨S, m1, m2, m3, m4, m5⟩ := c_fin0 (ts := ts) (x := day) hbx n2
      obtain ⟨tB, g1, g2, g3⟩ := r_begin (t := t2) (ts := ts)
      have hstB : rSt tB ts := hst2.fr (fun k j _ => g3.2.2 _ _ (fun z => z))
      obtain ⟨t3, d1, d2, d3⟩ := g2.fr46 hstB (by decide)
      have hout : out (fun k f => k = 1079) (fun k _ => k = 1093 ∨ k = 1094 ∨ k = 1138 ∨ k = 1139) t1 t3 := out_t (out_w f2 (fun k f z => z.1) (fun k f z => by unfold onwF at z; omega)) (out_t (out_w g3 (fun k f z => z.1) (fun _ _ z => z.elim)) (out_w d3 (fun k f z => by unfold fiI onwI at z; omega) (fun k f z => by unfold fiF onwF at z; omega)))
      refine ⟨s2, S, t3, e1, ?_, ?_, (hfr t3 hout).2, ⟨ts, plE ts pl0, 0, 0, m2, d2, sFR_0, by rw [fcP_E]; exact hfc0, dsF_E (p := pl0) (fun i j _ hj => absurd hj (Nat.not_lt_zero j)), m3, m4⟩, sW_t (sW_oc b3 hn (fun k h => ⟨fun f z => by unfold psI at z; unfold cA at h; omega, fun f z => by unfold psI at z; unfold cA at h; omega, fun f z => by unfold psI at z; unfold cA at h; omega, fun f z => by unfold psI at z; unfold cA at h; omega⟩)) (sW_t (sW_agf hz hn1 cA_run) (sW_t (sW_agf (zc_X7_clearPlan n1) (Nat.le_trans hn1 (hz hn1).1) cA_clr) (sW_out m5 (fun k h => ⟨fun f z => by unfold pfI at z; unfold cA at h; omega, fun f z => by unfold pfF at z; unfold cA at h; omega⟩))))⟩
      · unfold fn_X7_finish
        rw [q2, if_neg (by decide), n1, Option.bind_some]
        exact m1
      · rw [hrun, f1', Option.bind_some, z, if_pos rfl, g1, Option.bind_some]
        exact d1
  obtain ⟨s3, S, t4, w1, w2, w3, w4, w5⟩ := fin
  exact ⟨s1, s3, S, t4, b1, w1, w2, w3, w4, w5⟩
