/-! a command begins on both sides -/
theorem p_cst {k fr : Nat} {x : List Nat} {ts : List (List Nat)} {bg b e : Nat} {σ : List (Nat × Nat)} {N M cn ob dp rq T : Nat} {s t : uS} {R : uS → Option (uS × Int32)} {H : uS → Nat → uS → Nat → Prop} (h : pj k fr x ts bg b e σ N M cn ob dp rq T s t) (hσ : σ.length ≤ 80) (f0 : cn = 100 → FV b t (R t)) (c0 : ∀ S : uS, s.I 7 2 = 0 → b < e → cn < 100 → nwN (stC 0 N σ) N (cn + 1) ob rq (nI 0) (nI 0) (nI 0) s S → RV x s t (fn_X4_parse_13 (999999 - T) 1 (nI T + 1) S) (R t) H) (c : ∀ (v : Nat) (s1 t1 : uS) (b1 e1 : Nat), 1 ≤ v ∧ v ≤ 10 → b < e → e ≤ b1 → cn < 100 → pj k fr x ts bg b1 e1 (stC v N σ) (N + 1) (M + 1) (cn + 1) ob dp rq (T + 1) s1 t1 → nodN N (nI v) (nI 0) (nI 0) s1 → nodR M (nI (v + 1)) t1 → out (tsI N) (tsF N) s s1 → ol trI (trF M ts.length bg) rNo t t1 → RV x s1 t1 (pd (T + 1) s1) (cmK R v (nI M) t1) H) : RV x s t ((fn_X4_startCommand s).bind fun r => fn_X4_parse_13 (999999 - T) r.2 (nI T + 1) r.1) (fn_X12_command R t) H := by
  obtain ⟨v, v1, v2, v3, v4, v5⟩ := h.wrd kW_37 (by decide) (by decide)
  have v1' : v ≤ 11 := v1
  obtain ⟨k1, k2, k3, k4, k5, k6, k7, k8, k9, k10, k11, k12, k13⟩ := h.2.2.2
  have hN : N < 320 ∨ cn = 100 := by omega
  have hN : N < 320 := by omega
  have hstart : fn_X4_startCommand s = fb_X4_startCommand_23 (if v = 11 then -1 else nI v) s := by
    unfold fn_X4_startCommand
    by_cases z : s.I 7 2 = 0
    · rw [if_pos z, v2 z, Option.bind_some]; rfl
    · rw [if_neg z, if_pos (show v = 11 from v3 z)]
  obtain ⟨cs1, cs2⟩ := c_cmd1 (v := v) h.2.1 hN (by omega) k9 k12 v1'
  rw [hstart, r_cmdW v1' v5]
  by_cases z : v = 11 ∨ cn = 100 ∨ ¬ rq &&& NKn.getD v 0 = NKn.getD v 0
  · rw [cs1 z, Option.bind_some]
    refine h.RV out_r ?_
    by_cases z0 : v = 0
    · rw [if_pos z0]
      subst z0
      refine f0 ?_
      rcases z with z | z | z
      · omega
      · exact z
      · exact absurd (Nat.and_zero _) z
    rw [if_neg z0, cm163_e]
    by_cases z2 : cn = 100
    · exact (h.ct0 ol_r h.2.2.1 z2 _).vv fun t1 a ha h1 => h1.cm163 ha
    obtain ⟨V, w1, w2, w3, w4⟩ := r_cnt1 h.2.2.1 (by omega) (by omega) (if v = 11 then -1 else nI (v + 1))
    have qV : ol rnJ rnK rNo t V := ct_rn w2
    rw [w1, Option.bind_some]
    by_cases z1 : v = 11
    · rw [if_pos z1] at w4
      have hM5 : M < 520 := by omega
      obtain ⟨l1, l2, l3, l4, l5, l6⟩ := h.1.l
      have hb := h.bl
      have g40 : V.I 1079 40 = -1 := (w2.2.1 _ _ (by unfold ctI; omega)).trans l3
      have g32 : V.I 1079 32 = nI b := (w2.2.1 _ _ (by unfold ctI; omega)).trans l5
      have e : kc163 R (V, nI M) = (iget 20 V 1098 (nI M)).bind _ := rfl
      rw [e, g_1098 hM5, Option.bind_some, w4.1, if_neg (by decide), if_neg (by decide), if_neg (by decide), if_neg (by decide), if_neg (by decide), if_neg (by decide), if_neg (by decide), if_neg (by decide), if_neg (by decide), if_neg (by decide), if_neg (by rw [g40]; decide), g32]
      unfold fb_X12_command_378
      have hf : fO b (wI V 1079 40 (nI b)) := ⟨by omega, wI_e _ _ _ _, ⟨M + 1, by omega, (wI_o (by omega)).trans w3.1⟩, w3.2.2.2.2.2.2.2⟩
      exact FV.w (t := wI V 1079 40 (nI b)) (ol_I (rn_rd qV) ⟨rfl, by omega⟩) ((hf.fU _).uv fun t1 h1 => h1.c389 hM5)
    · rw [if_neg z1] at w4
      refine (r_163 (v := v) h (by omega) (by omega) qV w3 w4.1).2 ?_
      rcases z with z | z | z
      · exact absurd z z1
      · exact absurd z z2
      · exact z
  · obtain ⟨S, w1, w2⟩ := cs2 z
    have z1 : v ≠ 11 := fun y => z (Or.inl y)
    have z2 : cn ≠ 100 := fun y => z (Or.inr (Or.inl y))
    have z4 : rq &&& NKn.getD v 0 = NKn.getD v 0 := Decidable.of_not_not fun y => z (Or.inr (Or.inr y))
    have hw : s.I 7 2 = 0 := Decidable.of_not_not fun y => z1 (v3 y)
    rw [w1, Option.bind_some]
    by_cases z0 : v = 0
    · rw [if_pos z0]
      subst z0
      exact c0 S hw (v4 hw) (by omega) w2
    rw [if_neg z0, if_neg z1, cm163_e]
    obtain ⟨V, u1, u2, u3, u4⟩ := r_cnt1 h.2.2.1 (by omega) (by omega) (nI (v + 1))
    have qV : ol rnJ rnK rNo t V := ct_rn u2
    rw [u1, Option.bind_some, (r_163 (v := v) h (by omega) (by omega) qV u3 u4.1).1 z4]
    obtain ⟨p1, p2, p3⟩ := w2
    refine RU.uv (G := fun s1 T1 t1 => T1 = T + 1 ∧ ∃ b1 e1 : Nat, e ≤ b1 ∧ out lnI' lqF S s1 ∧ out rnI (rqP bg) V t1 ∧ pj k fr x ts bg b1 e1 (stC v N σ) (N + 1) (M + 1) (cn + 1) ob dp rq T1 s1 t1) (pj_go (σ1 := stC v N σ) (N1 := N + 1) (M1 := M + 1) (cn1 := cn + 1) (ob1 := ob) (dp1 := dp) (rq1 := rq) h (by rw [hw]; decide) (v4 hw) (sg_cn p3 hN) qV p1 u3 stC_len ?_ (stC_V k6 hN) (by omega) (by omega) (by omega) k10 k11 k12 fun s1 t1 b1 e1 g1 g2 g3 g4 => ⟨rfl, b1, e1, g1, g2, g3, g4⟩) (fun p t1 h1 => h1.cmk (by omega)) ?_
    · have := stC_len (v := v) (N := N) (σ := σ); omega
    · rintro s1 T1 t1 o q ⟨rfl, b1, e1, g1, g2, g3, g4⟩
      have i : ∀ f : Nat, s1.I (16 + 3 * N) f = S.I (16 + 3 * N) f := fun f => g2.2.1 _ _ (by unfold lnI'; omega)
      have j : ∀ f : Nat, s1.F (18 + 3 * N) f = S.F (18 + 3 * N) f := fun f => g2.2.2 _ _ (by unfold lqF; omega)
      refine c v s1 t1 b1 e1 (by omega) (v4 hw) g1 (by omega) g4 (p2.fr i j) ?_ (out_t (sg_ts p3 hN) (ln_ts g2)) (ol_t (ct_tr u2) (rq_tr g3))
      obtain ⟨a1, a2, a3, a4, a5, a6, a7, a8, a9, a10, a11, a12, a13, a14, a15⟩ := u4
      have m : ∀ r : Nat, r ≠ 1097 → t1.F r M = V.F r M := fun r hr => g3.2.2 _ _ (by unfold rqP; omega)
      exact ⟨(m _ (by omega)).trans a1, (m _ (by omega)).trans a2, (m _ (by omega)).trans a3, (m _ (by omega)).trans a4, (m _ (by omega)).trans a5, (m _ (by omega)).trans a6, (m _ (by omega)).trans a7, (m _ (by omega)).trans a8, (m _ (by omega)).trans a9, (m _ (by omega)).trans a10, (m _ (by omega)).trans a11, (m _ (by omega)).trans a12, (m _ (by omega)).trans a13, (m _ (by omega)).trans a14, (m _ (by omega)).trans a15⟩
