/-! a whole script on both sides -/
theorem pj.en {k fr : Nat} {x : List Nat} {ts : List (List Nat)} {bg b e : Nat} {σ : List (Nat × Nat)} {N M cn ob dp rq T : Nat} {s t : uS} (h : pj k fr x ts bg b e σ N M cn ob dp rq T s t) : (s.I 7 2 = 5 → t.I 1079 31 = 0) ∧ (s.I 7 2 ≠ 5 → t.I 1079 31 ≠ 0) := by
  have main : ∀ a z : Nat, s.I 7 2 = nI a → t.I 1079 31 = nI z → a < 6 → z < 400 → (a = 5 ↔ z = 0) → (s.I 7 2 = 5 → t.I 1079 31 = 0) ∧ (s.I 7 2 ≠ 5 → t.I 1079 31 ≠ 0) := by
    intro a z h1 h2 ha hz h3
    rw [h1, h2]
    refine ⟨fun y => ?_, fun y w => y ?_⟩
    · have : a = 5 := (nI_eq (b := 5) (by omega) (by decide)).mp y
      rw [h3.mp this]; rfl
    · have : z = 0 := (nI_eq (b := 0) (by omega) (by decide)).mp w
      rw [h3.mpr this]; rfl
  rcases h.1 with h | h | h | h | h | h
  · exact main 5 0 h.2.2.2.1 h.2.2.2.2 (by omega) (by omega) (by omega)
  · exact main 0 1 h.2.2.1 h.2.2.2.1 (by omega) (by omega) (by omega)
  · exact main 1 2 h.2.2.1 h.2.2.2.1 (by omega) (by omega) (by omega)
  · exact main 2 3 h.2.2.1 h.2.2.2.1 (by omega) (by omega) (by omega)
  · have hb := h.2.2.1.1.by b
    exact main 4 (100 + x.getD b 0) h.2.2.2.1 h.2.2.2.2.1 (by omega) (by omega) (by omega)
  · obtain ⟨a, str, -, -, -, -, -, -, -, -, -, z, z2⟩ := h
    exact main 3 4 z z2 (by omega) (by omega) (by omega)
/-- the script as both hold it -/
def scR (ts : List (List Nat)) (bg N M u : Nat) (s t : uS) : Prop := cTz s 8 2000 301 ts bg [] ∧ rst ts bg t ∧ t.I 1079 61 = nI ts.length ∧ ts.length ≤ 300 ∧ bg ≤ 2000 ∧ s.I 6 2 = nI N ∧ N ≤ 309 ∧ M ≤ 309 ∧ t.I 1079 67 = nI 0 ∧ lcR (cnR 9 ts s t) t 0 1 N 1 M u ts.length ∧ acN s 1 N ≤ 100
def rdZ (x : List Nat) (s t : uS) (C A : Option (uS × Int32)) : Prop := (∃ (p : Nat) (s1 t1 : uS), p ≤ x.length ∧ C = some (s1, nI (1 + lnc x p)) ∧ A = some (t1, nI p) ∧ out psI psI s s1 ∧ ol rdI rdF rNo t t1 ∧ lsO t1) ∨ ∃ s1 t1 : uS, C = some (s1, 0) ∧ A = some (t1, -1) ∧ out psI psI s s1 ∧ ol rdI rdF rNo t t1 ∧ lsO t1 ∧ ∃ (ts : List (List Nat)) (bg N M u : Nat), scR ts bg N M u s1 t1
def FZ (p : Nat) (t : uS) (A : Option (uS × Int32)) : Prop := ∃ t1 : uS, A = some (t1, nI p) ∧ fO p t1 ∧ ol rdI rdF rNo t t1
theorem RU.z {x : List Nat} {s t : uS} {C : Option (uS × Int32)} {A : Option uS} {g : uS → Option (uS × Int32)} {G : uS → Nat → uS → Prop} (h : RU x s t C A G) (f : ∀ (p : Nat) (t1 : uS), fO p t1 → FZ p t1 (g t1)) (k : ∀ (s1 : uS) (T1 : Nat) (t1 : uS), out psI psI s s1 → ol rdI rdF rNo t t1 → G s1 T1 t1 → rdZ x s1 t1 (pd T1 s1) (g t1)) : rdZ x s t C (A.bind g) := by
  rcases h with ⟨p, s1, h1, h2, h3, t1, h4, h5, h6⟩ | ⟨T1, s1, t1, h1, h2, h3, h4, h5⟩
  · obtain ⟨t2, g1, g2, g3⟩ := f p t1 h5
    rw [h4, Option.bind_some]
    exact Or.inl ⟨p, s1, t2, h1, h2, g1, h3, ol_t h6 g3, g2.2.2.2⟩
  · rw [h1, h2, Option.bind_some]
    rcases k s1 T1 t1 h3 h4 h5 with ⟨p, s2, t2, g1, g2, g3, g4, g5, g6⟩ | ⟨s2, t2, g1, g2, g3, g4, g5, g6⟩
    · exact Or.inl ⟨p, s2, t2, g1, g2, g3, out_t h3 g4, ol_t h4 g5, g6⟩
    · exact Or.inr ⟨s2, t2, g1, g2, out_t h3 g3, ol_t h4 g4, g5, g6⟩
theorem rdZ.pre {x : List Nat} {s t s0 t0 : uS} {C A : Option (uS × Int32)} (h : rdZ x s t C A) (o : out psI psI s0 s) (q : ol rdI rdF rNo t0 t) : rdZ x s0 t0 C A := by
  rcases h with ⟨p, s2, t2, g1, g2, g3, g4, g5, g6⟩ | ⟨s2, t2, g1, g2, g3, g4, g5, g6⟩
  · exact Or.inl ⟨p, s2, t2, g1, g2, g3, out_t o g4, ol_t q g5, g6⟩
  · exact Or.inr ⟨s2, t2, g1, g2, out_t o g3, ol_t q g4, g5, g6⟩
theorem FU.z {p : Nat} {t : uS} {A : Option uS} {g : uS → Option (uS × Int32)} (h : FU p t A) (k : ∀ t1 : uS, fO p t1 → FZ p t1 (g t1)) : FZ p t (A.bind g) := by
  obtain ⟨t1, h1, h2, h3⟩ := h
  obtain ⟨t2, g1, g2, g3⟩ := k t1 h2
  exact ⟨t2, by rw [h1, Option.bind_some]; exact g1, g2, ol_t h3 g3⟩
theorem FV.z {p : Nat} {t : uS} {A : Option (uS × Int32)} {g : uS × Int32 → Option (uS × Int32)} (h : FV p t A) (k : ∀ (t1 : uS) (v : Nat), v < 520 → fO p t1 → FZ p t1 (g (t1, nI v))) : FZ p t (A.bind g) := by
  obtain ⟨t1, v, h1, hv, h2, h3⟩ := h
  obtain ⟨t2, g1, g2, g3⟩ := k t1 v hv h2
  exact ⟨t2, by rw [h1, Option.bind_some]; exact g1, g2, ol_t h3 g3⟩
theorem rd_s {n : Nat} {t : uS} : fn_X12_read_49 (n + 1) t = fb_X12_read_49 (fn_X12_read_49 n) t := rfl
def rdE (s7 : uS) : Option (uS × Int32) := if 0 ≤ (s7.I 1079 40) then (some (s7, s7.I 1079 40)) else (if (s7.I 1079 31) = 0 then (some (s7, s7.I 1079 40)) else ((fn_X12_fail (s7.I 1079 32) s7).bind fun s11 => some (s11, s11.I 1079 40)))
theorem fO.rde {p : Nat} {t : uS} (h : fO p t) : FZ p t (rdE t) := by
  unfold rdE
  rw [if_pos h.lt]
  exact ⟨t, by rw [h.2.1], h, ol_r⟩
theorem fO.rd {p n : Nat} {t : uS} (h : fO p t) : FZ p t (fn_X12_read_49 (n + 1) t) := by
  rw [rd_s]
  unfold fb_X12_read_49
  rw [h.wd, Option.bind_some, if_neg (by decide)]
  refine FV.z (g := fun r5 => ((fg_0 100).2.2.1 ((wI r5.1 1079 67 r5.2).I 1079 67) (wI r5.1 1079 67 r5.2)).bind rdE) (h.nd 1) ?_
  intro t1 v hv h1
  have h2 : fO p (wI t1 1079 67 (nI v)) := h1.I (by decide) (by decide)
  dsimp only
  obtain ⟨t3, g1, g2, g3⟩ := FU.z (h2.cms (n := 99) (a := (wI t1 1079 67 (nI v)).I 1079 67)) (fun t3 h3 => h3.rde)
  exact ⟨t3, g1, g2, ol_t (ol_I ol_r ⟨rfl, by omega⟩) g3⟩
theorem p_take2 {k fr : Nat} {x : List Nat} {ts : List (List Nat)} {bg b e : Nat} {σ : List (Nat × Nat)} {N M cn ob dp rq T : Nat} {s t : uS} {c : Nat} (h : pj k fr x ts bg b e ((13, c) :: σ) N M cn ob dp rq T s t) (hc : c < 128) : RU x s t (pd T s) (fn_X12_take (nI c) t) (fun s1 T1 t1 => b < e ∧ T1 = T + 1 ∧ tkH k fr x ts bg e σ N M cn ob dp rq s t s1 T1 t1) := by
  obtain ⟨v, h1, h2, h3⟩ := h.sg hc
  obtain ⟨k1, k2, k3, k4, k5, k6, k7, k8, k9, k10, k11, k12, k13⟩ := h.2.2.2
  rw [pd_13 h, h1, Option.bind_some]
  unfold fn_X12_take
  rw [h2, Option.bind_some]
  cases v with
  | true =>
    obtain ⟨h4, h5⟩ := h3 rfl
    rw [if_pos rfl, if_pos rfl, c_pop h.2.1, Option.bind_some]
    refine (pj_go (σ1 := σ) (G := fun s1 T1 t1 => b < e ∧ T1 = T + 1 ∧ tkH k fr x ts bg e σ N M cn ob dp rq s t s1 T1 t1) h (by rw [h4]; decide) h5 (out_I out_r (Or.inl rfl)) ol_r h.2.1.pop h.2.2.1 (by simp only [List.length_cons]; omega) (by simp only [List.length_cons] at k5; omega) k6.tl k7 k8 k9 k10 k11 k12 (fun s1 t1 b1 e1 g1 g2 g3 g4 => ⟨h5, rfl, b1, e1, g1, g4, out_t (out_I out_r (Or.inr ⟨rfl, rfl⟩)) (out_w g2 (fun _ _ z => Or.inl z) (fun _ _ z => z)), g3⟩)).uu (fun p t1 z => z.U) (fun s1 T1 t1 _ _ z => RU.ret z)
  | false =>
    rw [if_neg (by decide), if_neg (by decide)]
    exact h.RU out_r (h.fl.uu fun t1 z => z.U)
theorem p_rd {k fr : Nat} {x : List Nat} : ∀ (m fu : Nat) (ts : List (List Nat)) (bg b e rq T : Nat) (s t : uS), x.length + 1 ≤ m + b → m + 2 ≤ fu → T + 2 ≤ 5 * b + 10 → pj k fr x ts bg b e [(0, 0)] 1 0 0 0 0 rq T s t → rdZ x s t (pd T s) (fn_X12_read_49 fu t) := by
  intro m
  induction m using Nat.strongRecOn with
  | ind m im =>
    intro fu ts bg b e rq T s t hm hfu hTb h
    obtain ⟨k1, k2, k3, k4, k5, k6, k7, k8, k9, k10, k11, k12, k13⟩ := h.2.2.2
    have hbl := h.bl
    have hbe := h.1.l.2.2.2.2.2
    obtain ⟨fu2, rfl⟩ : ∃ fu2 : Nat, fu = fu2 + 2 := ⟨fu - 2, by omega⟩
    rw [rd_s, pd_0 h]
    unfold fb_X12_read_49 fn_X4_require
    obtain ⟨v, w1, w2, w3, w4, w5⟩ := h.wrd kW_36 (by decide) (by decide)
    have w1' : v ≤ 1 := w1
    rw [w5 kW_76 0 ⟨by decide, by decide, by decide, by decide, by decide⟩ t ol_r, Option.bind_some]
    have hno : v = 1 → rdZ x s t ((fb_X4_require_54 s).bind fun r => fn_X4_parse_13 (999999 - T) r.2 (nI T + 1) r.1) ((fn_X12_node 1 t).bind fun r5 => ((fg_0 100).2.2.1 ((wI r5.1 1079 67 r5.2).I 1079 67) (wI r5.1 1079 67 r5.2)).bind fun s7 => rdE s7) := by
      intro _
      unfold fb_X4_require_54
      have e5 : s.I 6 5 - 1 = nI ([] : List (Nat × Nat)).length := h.2.1.h1
      have hpm := (h.2.1.pop).psh (a := 1) (c := 0)
      rw [e5, show fn_X4_push 1 0 (wI s 6 5 (nI ([] : List (Nat × Nat)).length)) = some (psh _ ([] : List (Nat × Nat)).length (nI 1) (nI 0)) from c_push (wI_e _ _ _ _) (by decide), Option.bind_some, Option.bind_some, K_pass hbl.2.1]
      obtain ⟨V, u1, u2, u3, u4⟩ := r_nd1 h.2.2.1 (by omega) 1
      rw [u1, Option.bind_some]
      dsimp only
      rw [wI_e]
      have oS : out (fun k f => k = 6) (fun k f => k = 14 ∨ k = 15) s (psh (wI s 6 5 (nI ([] : List (Nat × Nat)).length)) ([] : List (Nat × Nat)).length (nI 1) (nI 0)) := psh_o (out_I out_r rfl) rfl (Or.inl rfl) (Or.inr rfl)
      have qU : ol rnJ rnK rNo t (wI V 1079 67 (nI 0)) := ol_I (nd_rn u2) ⟨rfl, by omega⟩
      have hpr : pr ts bg 1 0 0 0 rq (wI V 1079 67 (nI 0)) := by
        obtain ⟨r1, r2, r3, r4, r5, r6, r7, r8⟩ := u3
        exact ⟨(wI_o (by omega)).trans r1, (wI_o (by omega)).trans r2, (wI_o (by omega)).trans r3, (wI_o (by omega)).trans r4, (wI_o (by omega)).trans r5, (wI_o (by omega)).trans r6, r7.out (fun _ _ => ⟨rfl, rfl⟩) (fun _ _ => rfl), r8⟩
      have hP : pj k fr x ts bg b e [(1, 0)] 1 1 0 0 0 rq (T + 1) (psh (wI s 6 5 (nI ([] : List (Nat × Nat)).length)) ([] : List (Nat × Nat)).length (nI 1) (nI 0)) (wI V 1079 67 (nI 0)) := by
        have hp1 := h.pop
        obtain ⟨l1, l2, l3, l4, l5, l6, l7, l8, l9, l10, l11, l12, l13⟩ := h.2.2.2
        refine ⟨h.1.o k2 (out_w oS (fun k f z => by unfold cnI; omega) (fun k f z => by unfold cnF; omega)) qU, hpm, hpr, by unfold uCl; rw [oS.1.1]; exact l1, l2, l3, l4, by decide, fun p hp => ?_, by omega, by omega, by omega, by omega, by omega, l12, ?_⟩
        · rcases List.mem_cons.mp hp with z | z
          · rw [z]; exact ⟨by decide, fun _ => by decide, by decide⟩
          · cases z
        · show T + 1 + 1 ≤ _; omega
      refine rdZ.pre (s := psh (wI s 6 5 (nI ([] : List (Nat × Nat)).length)) ([] : List (Nat × Nat)).length (nI 1) (nI 0)) (t := wI V 1079 67 (nI 0)) ?_ (cn_ps (out_w oS (fun k f z => by unfold cnI; omega) (fun k f z => by unfold cnF; omega))) (rn_rd qU)
      have pc : ∀ (ts : List (List Nat)) (bg b e N M cn T : Nat) (s t : uS), pj k fr x ts bg b e [(1, 0)] N M cn 0 0 rq T s t → RV x s t ((fn_X4_startCommand s).bind fun r => fn_X4_parse_13 (999999 - T) r.2 (nI T + 1) r.1) ((fg_0 99).2.2.2.2.1 t) (cdG k fr x ts bg b [(1, 0)] N M cn 0 0 rq 9 s t) := fun ts bg b e N M cn T s t h => p_cmd 8 45 (by omega) (by decide) h
      refine RU.z (A := (fg_0 100).2.2.1 (nI 0) (wI V 1079 67 (nI 0))) (p_cmds (B := 9) (ob := 0) (R := (fg_0 99).2.2.2.2.1) (Or.inl rfl) pc (P := 0) (i0 := 1) (n0 := 1) (u := ts.length) (by omega) (x.length + 1) 1000000 ts bg b e 1 1 0 (T + 1) _ _ (by omega) (by omega) (by omega) (by omega) hP (Or.inl ⟨rfl, rfl, rfl, u4.2.1⟩)) (fun p t1 z => z.rde) ?_
      rintro s1 T1 t1 o1 q1 ⟨news, bg1, b1, e1, N1, M1, cn1, c1, c2, c3, c4, c5, c6, c7, c8, c9, c10, c11, c12, c13⟩
      obtain ⟨l1, l2, l3, l4, l5, l6, l7, l8, l9, l10, l11, l12, l13⟩ := c8.2.2.2
      have h40 := c8.1.l.2.2.1
      rw [pd_1 c8]
      unfold rdE
      rw [if_neg (show ¬ (0 : Int32) ≤ t1.I 1079 40 by rw [h40]; decide)]
      by_cases z : s1.I 7 2 = 5
      · rw [if_pos z, K_done c8.bl.2.1, if_pos (c8.en.1 z), h40]
        have hx1 := c8.bl
        refine Or.inr ⟨s1, t1, rfl, rfl, out_r, ol_r, c8.2.2.1.2.2.2.2.2.2.2, ts ++ news, bg1, N1, M1, ts.length, ?_, c8.2.2.1.2.2.2.2.2.2.1, c8.2.2.1.2.2.2.2.2.1, l3, by omega, c8.2.1.2.2.1, by omega, by omega, ?_, ?_, by omega⟩
        · exact (c8.nq (by rw [z]; decide)).2.2.1
        · rw [c12.2.1 _ _ (by unfold trI; omega), wI_e]
        · rcases c10 with ⟨z1, z2, z3, z4⟩ | ⟨L, z1, z2, z3⟩
          · exact Or.inl ⟨z1, z2, by omega, z4⟩
          · exact Or.inr ⟨L, z1, z3⟩
      · rw [if_neg z, if_neg (c8.en.2 z)]
        unfold fn_X4_startCommand fb_X4_startCommand_23
        rw [if_neg c9, if_pos (by decide), Option.bind_some]
        obtain ⟨t2, f1, f2, f3⟩ := c8.fl
        rw [f1, Option.bind_some]
        exact Or.inl ⟨b1, s1, t2, c8.bl.1, c8.rf out_r, by rw [f2.2.1], out_r, f3, f2.2.2.2⟩
    by_cases hv : v = 0
    · subst hv
      have hw : s.I 7 2 = 0 := Decidable.of_not_not fun y => by have := w3 y; exact absurd this (by decide)
      rw [decide_eq_true rfl, if_pos (show true = true from rfl), if_pos hw, show fn_X2_placeIn kW_36 s = some (nI 0) from w2 hw, Option.bind_some, if_pos (show nI 0 = 0 from rfl), show pgt 28 s 13 0 = some 16 from pgt_nod (j := 0) (by decide), Option.bind_some, if_pos (show uSo 16 3 from so_nod (j := 0) (by decide)), show iput 20 s (16 + 2) 11 0 = some (wF s 18 11 0) from p_amt (i := 0) (l := 11) (by decide) (by decide), Option.bind_some]
      have hpm0 : pm [(0, 0)] 1 0 0 rq (wF s 18 11 0) := h.2.1.fr (fun _ => rfl) (fun r f hr => by rw [wF_r (by omega)])
      have hpm1 := hpm0.psh (a := 13) (c := 59)
      have hpm2 := hpm1.psh (a := 11) (c := 11)
      rw [show fn_X4_push 13 59 (wF s 18 11 0) = some (psh _ _ (nI 13) (nI 59)) from c_push hpm0.1 (by decide), Option.bind_some, show fn_X4_pushList 11 0 11 (psh (wF s 18 11 0) [(0, 0)].length (nI 13) (nI 59)) = some (psh _ _ (nI 11) (nI (12 * 0 + 11))) from c_pushL (i := 0) (l := 11) hpm1.1 (by decide), Option.bind_some, Option.bind_some]
      have oS : out (fun k f => k = 6 ∧ f = 5) (fun k f => k = 14 ∨ k = 15 ∨ (k = 18 ∧ f = 11)) s (psh (psh (wF s 18 11 0) [(0, 0)].length (nI 13) (nI 59)) [(13, 59), (0, 0)].length (nI 11) (nI (12 * 0 + 11))) := psh_o (psh_o (out_F out_r (Or.inr (Or.inr ⟨rfl, rfl⟩))) ⟨rfl, rfl⟩ (Or.inl rfl) (Or.inr (Or.inl rfl))) ⟨rfl, rfl⟩ (Or.inl rfl) (Or.inr (Or.inl rfl))
      have hvV : stV [(11, 11), (13, 59), (0, 0)] := by
        intro p hp
        rcases List.mem_cons.mp hp with z | hp
        · rw [z]; exact ⟨by decide, fun z => absurd z (by decide), by decide⟩
        · rcases List.mem_cons.mp hp with z | hp
          · rw [z]; exact ⟨by decide, fun z => absurd z (by decide), by decide⟩
          · rcases List.mem_cons.mp hp with z | hp
            · rw [z]; exact ⟨by decide, fun _ => by decide, by decide⟩
            · cases hp
      refine RU.z (G := fun s1 T1 t1 => ∃ b1 e1 : Nat, e ≤ b1 ∧ out lnI' lqF (psh (psh (wF s 18 11 0) [(0, 0)].length (nI 13) (nI 59)) [(13, 59), (0, 0)].length (nI 11) (nI (12 * 0 + 11))) s1 ∧ out rnI (rqP bg) t t1 ∧ pj k fr x ts bg b1 e1 [(11, 11), (13, 59), (0, 0)] 1 0 0 0 0 rq T1 s1 t1) (pj_go (σ1 := [(11, 11), (13, 59), (0, 0)]) h (by rw [hw]; decide) (w4 hw) (out_w oS (fun k f z => by unfold cnI; omega) (fun k f z => by unfold cnF; omega)) ol_r hpm2 h.2.2.1 (by simp only [List.length_cons, List.length_nil]; omega) (by decide) hvV k7 k8 k9 k10 k11 k12 (fun s1 t1 b1 e1 g1 g2 g3 g4 => ⟨b1, e1, g1, g2, g3, g4⟩)) (fun p t1 z => ?_) ?_
      · exact FU.z (A := fn_X12_requires t1) (by
          unfold fn_X12_requires
          rw [z.sg, Option.bind_some, if_neg (by decide)]
          exact z.rq19 (n := 999999)) fun t2 z2 => FU.z (z2.tk 59) fun t3 z3 => z3.rd
      rintro s1 T1 t1 o1 q1 ⟨b1, e1, g1, g2, g3, g4⟩
      have hb1 := g4.1.l.2.2.2.2.2
      have fA : s1.F 18 11 = nI 0 := by
        rw [g2.2.2 _ _ (by unfold lqF; omega), psh_F (by omega) (by omega), psh_F (by omega) (by omega), wF_e]; rfl
      refine RU.z (p_reqs g4 (by decide) fA) (fun p t1 z => FU.z (z.tk 59) fun t3 z3 => z3.rd) ?_
      rintro s2 T2 t2 o2 q2 ⟨news, rq1, bg1, b2, e2, d1, d2, d3, d4, d5⟩
      have hb2 := d3.1.l.2.2.2.2.2
      refine RU.z (p_take2 d3 (by decide)) (fun p t1 z => z.rd) ?_
      rintro s3 T3 t3 o3 q3 ⟨y0, rfl, b3, e3, y1, y2, y3, y4⟩
      have hT2 : T2 + 2 ≤ 5 * b2 + 10 := d3.2.2.2.2.2.2.2.2.2.2.2.2.2.2.2
      have hwe := w4 hw
      exact im (m - 1) (by omega) (fu2 + 1) (ts ++ news) bg1 b3 e3 rq1 (T2 + 1) s3 t3 (by omega) (by omega) (by omega) y2
    · have hv1 : v = 1 := by omega
      rw [decide_eq_false hv, if_neg (show ¬ false = true by decide)]
      by_cases z : s.I 7 2 = 0
      · rw [if_pos z, w2 z, Option.bind_some, if_pos (show v = ((spl kW_36).1 :: (spl kW_36).2).length from hv1), if_neg (show ¬ (-1 : Int32) = 0 by decide)]
        exact hno hv1
      · rw [if_neg z]
        exact hno hv1
