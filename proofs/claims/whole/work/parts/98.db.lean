/-! a test begins on both sides: the joint step -/
theorem nI_ne {a b : Nat} (ha : a < 2 ^ 31) (hb : b < 2 ^ 31) (h : a ≠ b) : ¬ nI a = nI b := fun z => h ((nI_eq ha hb).mp z)
def tsI (N k _f : Nat) : Prop := k = 6 ∨ k = 7 ∨ k = 8 ∨ (16 + 3 * N ≤ k ∧ k < 976)
def tsF (N k _f : Nat) : Prop := k = 9 ∨ k = 10 ∨ k = 11 ∨ k = 14 ∨ k = 15 ∨ (16 + 3 * N ≤ k ∧ k < 976)
def trI (k f : Nat) : Prop := k = 1079 ∧ (f = 21 ∨ (30 ≤ f ∧ f ≤ 42) ∨ f = 61 ∨ f = 65 ∨ f = 66)
def trF (M j bg k f : Nat) : Prop := (k = 1097 ∧ bg ≤ f) ∨ ((k = 1116 ∨ k = 1117) ∧ j ≤ f) ∨ ((1098 ≤ k ∧ k ≤ 1115) ∧ M ≤ f) ∨ k = 1093
theorem ts_m {N N1 : Nat} {s s1 : uS} (h : out (tsI N1) (tsF N1) s s1) (a : N ≤ N1) : out (tsI N) (tsF N) s s1 := out_w h (fun k f z => by unfold tsI at *; omega) (fun k f z => by unfold tsF at *; omega)
theorem tr_m {M j bg M1 j1 bg1 : Nat} {t t1 : uS} (h : ol trI (trF M1 j1 bg1) rNo t t1) (a : M ≤ M1) (b : j ≤ j1) (c : bg ≤ bg1) : ol trI (trF M j bg) rNo t t1 := ol_w h (fun _ _ z => z) (fun k f z => by unfold trF at *; omega) (fun _ _ z => z)
theorem sg_ts {N : Nat} {s s1 : uS} (h : out (sgI N) (sgF N) s s1) (hN : N < 320) : out (tsI N) (tsF N) s s1 := out_w h (fun k f z => by unfold sgI at z; unfold tsI; omega) (fun k f z => by unfold sgF at z; unfold tsF; omega)
theorem sg_cn {N : Nat} {s s1 : uS} (h : out (sgI N) (sgF N) s s1) (hN : N < 320) : out cnI cnF s s1 := out_w h (fun k f z => by unfold sgI at z; unfold cnI; omega) (fun k f z => by unfold sgF at z; unfold cnF; omega)
theorem ln_ts {N : Nat} {s s1 : uS} (h : out lnI' lqF s s1) : out (tsI N) (tsF N) s s1 := out_w h (fun k f z => by unfold lnI' at z; unfold tsI; omega) (fun k f z => by unfold lqF at z; unfold tsF; omega)
theorem rq_tr {M j bg : Nat} {t t1 : uS} (h : out rnI (rqP bg) t t1) : ol trI (trF M j bg) rNo t t1 := ol_out (out_w h (fun k f z => by unfold rnI at z; unfold trI; omega) (fun k f z => by unfold rqP at z; unfold trF; omega))
theorem ct_tr {M j bg : Nat} {t t1 : uS} (h : out ctI (rndF M) t t1) : ol trI (trF M j bg) rNo t t1 := ol_out (out_w h (fun k f z => by unfold ctI at z; unfold trI; omega) (fun k f z => by unfold rndF at z; unfold trF; omega))
theorem ct_rn {M : Nat} {t t1 : uS} (h : out ctI (rndF M) t t1) : ol rnJ rnK rNo t t1 := ol_out (out_w h (fun k f z => by unfold ctI at z; unfold rnJ; omega) (fun k f z => by unfold rndF at z; unfold rnK; omega))
theorem fO.tsk {p a n : Nat} {t : uS} {k : Int32} (ha : a < 520) (h : fO p t) : FV p t (tsK ((fg_0 (n + 1)).2.1) ((fg_0 (n + 1)).1) k (nI a) t) := by
  have := h.t238 (n := n) (k := k) ha
  rw [tsK_e, h.nx, Option.bind_some] at this
  exact this
theorem stT_len {v N : Nat} {σ : List (Nat × Nat)} : (stT v N σ).length ≤ σ.length + 3 := by
  unfold stT
  repeat' split
  all_goals first | omega | (simp only [List.length_cons]; omega)
theorem stT_V {v N : Nat} {σ : List (Nat × Nat)} (h : stV σ) (hN : N < 320) : stV (stT v N σ) := by
  unfold stT
  repeat' split
  · exact ((h.ps (by decide) (by omega) (by omega)).ps (by decide) (by omega) (by omega)).ps (by decide) (by omega) (by omega)
  · exact (h.ps (by decide) (by omega) (by omega)).ps (by decide) (by omega) (by omega)
  · exact h.ps (by decide) (by omega) (by omega)
  · exact (h.ps (by decide) (by omega) (by omega)).ps (by decide) (by omega) (by omega)
  · exact ((h.ps (by decide) (by omega) (by omega)).ps (by decide) (by omega) (by omega)).ps (by decide) (by omega) (by omega)
  · exact (h.ps (by decide) (by omega) (by omega)).ps (by decide) (by omega) (by omega)
  · exact h
theorem NK_11 {v : Nat} (hv : v ≤ 10) : NKn.getD (11 + v) 0 = (if v = 2 then 4 else if v = 3 then 16 else 0) := by
  have : v = 0 ∨ v = 1 ∨ v = 2 ∨ v = 3 ∨ v = 4 ∨ v = 5 ∨ v = 6 ∨ v = 7 ∨ v = 8 ∨ v = 9 ∨ v = 10 := by omega
  rcases this with z | z | z | z | z | z | z | z | z | z | z <;> rw [z] <;> rfl
theorem p_start {k fr : Nat} {x : List Nat} {ts : List (List Nat)} {bg b e : Nat} {σ : List (Nat × Nat)} {N M cn ob dp rq T : Nat} {s t : uS} {p n : Nat} {H : uS → Nat → uS → Nat → Prop} (h : pj k fr x ts bg b e ((5, p) :: σ) N M cn ob dp rq T s t) (hp : p < 320) (hd : s.I (16 + 3 * p) 2 = nI dp) (hσ : σ.length ≤ 80) (c : ∀ (v : Nat) (s1 t1 : uS) (b1 e1 : Nat), v ≤ 10 → b < e → e ≤ b1 → cn < 100 → dp < 8 → pj k fr x ts bg b1 e1 (stT v N σ) (N + 1) (M + 1) (cn + 1) ob (dp + 1) rq (T + 1) s1 t1 → nodN N (nI (11 + v)) (nI p) (nI (dp + 1)) s1 → nodR M (nI (20 + v)) t1 → out (tsI N) (tsF N) s s1 → ol trI (trF M ts.length bg) rNo t t1 → RV x s1 t1 (pd (T + 1) s1) (tsK ((fg_0 (n + 1)).2.1) ((fg_0 (n + 1)).1) (nI (20 + v)) (nI M) t1) H) : RV x s t (pd T s) ((fg_0 (n + 2)).1 t) H := by
  obtain ⟨v, v1, v2, v3, v4, v5⟩ := h.wrd kW_39 (by decide) (by decide)
  have v1' : v ≤ 11 := v1
  obtain ⟨k1, k2, k3, k4, k5, k6, k7, k8, k9, k10, k11, k12, k13⟩ := h.2.2.2
  have hN : N < 320 := by omega
  have hstart : fn_X4_startTest (nI p) s = fb_X4_startTest_23 (nI p) (if v = 11 then -1 else nI v) s := by
    unfold fn_X4_startTest
    by_cases z : s.I 7 2 = 0
    · rw [if_pos z, v2 z, Option.bind_some]; rfl
    · rw [if_neg z, if_pos (show v = 11 from v3 z)]
  obtain ⟨cs1, cs2⟩ := c_stst (v := v) h.2.1 hp hN (by omega) hd k11 k9 k12 v1'
  rw [pd_5 h, hstart]
  show RV x s t _ (fn_X12_test ((fg_0 (n + 1)).2.1) ((fg_0 (n + 1)).1) t) H
  rw [r_testW v1' v5]
  by_cases z : v = 11 ∨ cn = 100 ∨ dp = 8 ∨ ¬ rq &&& NKn.getD (11 + v) 0 = NKn.getD (11 + v) 0
  · rw [cs1 z, Option.bind_some]
    refine h.RV out_r ?_
    unfold fb_X12_test_166
    by_cases z1 : v = 11
    · rw [if_pos z1, if_pos rfl]
      exact h.fl.uv fun t1 h1 => h1.V (by decide)
    rw [if_neg z1, if_neg (nI_nm (by omega))]
    have q0 : ol rnJ rnK rNo t (wI t 1079 66 (t.I 1079 66 + 1)) := ol_I ol_r ⟨rfl, by omega⟩
    have hr0 : pr ts bg M cn ob (dp + 1) rq (wI t 1079 66 (t.I 1079 66 + 1)) := by
      obtain ⟨r1, r2, r3, r4, r5, r6, r7, r8⟩ := h.2.2.1
      exact ⟨(wI_o (by omega)).trans r1, (wI_o (by omega)).trans r2, (wI_o (by omega)).trans r3, by rw [wI_e, r4, nI_1], (wI_o (by omega)).trans r5, (wI_o (by omega)).trans r6, r7.out (fun _ _ => ⟨rfl, rfl⟩) (fun _ _ => rfl), r8⟩
    by_cases z3 : dp = 8
    · rw [hr0.2.2.2.1, if_neg (by rw [z3]; decide)]
      exact (h.fl2 q0 (m := M) (by omega) hr0.1 hr0.2.2.2.2.2.2.2).uv fun t1 h1 => h1.t209
    rw [hr0.2.2.2.1, if_pos (show nI (dp + 1) ≤ 8 from nI_le (b := 8) (by omega) (by decide))]
    unfold fb_X12_test_209
    by_cases z2 : cn = 100
    · refine (h.ct0 q0 hr0 z2 _).vv fun t1 a ha h1 => ?_
      dsimp only
      split
      · exact (h1.ns _).uv fun t2 h2 => h2.t226 ha
      · exact h1.t226 ha
    obtain ⟨V, w1, w2, w3, w4⟩ := r_cnt1 hr0 (by omega) (by omega) (nI (20 + v))
    have qV : ol rnJ rnK rNo t V := ol_t q0 (ct_rn w2)
    rw [w1, Option.bind_some]
    have z4 : ¬ rq &&& NKn.getD (11 + v) 0 = NKn.getD (11 + v) 0 := by
      rcases z with z | z | z | z
      · exact absurd z z1
      · exact absurd z z2
      · exact absurd z z3
      · exact z
    rw [NK_11 (by omega)] at z4
    by_cases y2 : v = 2
    · rw [if_pos y2] at z4
      dsimp only
      rw [if_pos (show nI (20 + v) = 22 by rw [y2]; rfl)]
      exact (((h.nds qV w3 (by omega) (j := 2) (by decide)).2 z4).uv fun t1 h1 => h1.t226 (by omega))
    rw [if_neg y2] at z4
    by_cases y3 : v = 3
    · rw [if_pos y3] at z4
      dsimp only
      rw [if_neg (show ¬ nI (20 + v) = 22 by rw [y3]; decide)]
      unfold fb_X12_test_226
      rw [if_pos (show nI (20 + v) = 23 by rw [y3]; rfl)]
      exact (((h.nds qV w3 (by omega) (j := 4) (by decide)).2 z4).uv fun t1 h1 => h1.t238 (by omega))
    · rw [if_neg y3] at z4
      exact absurd (Nat.and_zero _) z4
  · obtain ⟨S, w1, w2, w3, w4⟩ := cs2 z
    have z1 : v ≠ 11 := fun y => z (Or.inl y)
    have z2 : cn ≠ 100 := fun y => z (Or.inr (Or.inl y))
    have z3 : dp ≠ 8 := fun y => z (Or.inr (Or.inr (Or.inl y)))
    have z4 : rq &&& NKn.getD (11 + v) 0 = NKn.getD (11 + v) 0 := Decidable.of_not_not fun y => z (Or.inr (Or.inr (Or.inr y)))
    have hw : s.I 7 2 = 0 := Decidable.of_not_not fun y => z1 (v3 y)
    rw [w1, Option.bind_some]
    unfold fb_X12_test_166
    rw [if_neg z1, if_neg (nI_nm (by omega))]
    have q0 : ol rnJ rnK rNo t (wI t 1079 66 (t.I 1079 66 + 1)) := ol_I ol_r ⟨rfl, by omega⟩
    have hr0 : pr ts bg M cn ob (dp + 1) rq (wI t 1079 66 (t.I 1079 66 + 1)) := by
      obtain ⟨r1, r2, r3, r4, r5, r6, r7, r8⟩ := h.2.2.1
      exact ⟨(wI_o (by omega)).trans r1, (wI_o (by omega)).trans r2, (wI_o (by omega)).trans r3, by rw [wI_e, r4, nI_1], (wI_o (by omega)).trans r5, (wI_o (by omega)).trans r6, r7.out (fun _ _ => ⟨rfl, rfl⟩) (fun _ _ => rfl), r8⟩
    rw [hr0.2.2.2.1, if_pos (show nI (dp + 1) ≤ 8 from nI_le (b := 8) (by omega) (by decide))]
    obtain ⟨V, u1, u2, u3, u4⟩ := r_cnt1 hr0 (by omega) (by omega) (nI (20 + v))
    have qV : ol rnJ rnK rNo t V := ol_t q0 (ct_rn u2)
    have eV : fb_X12_test_209 ((fg_0 (n + 1)).2.1) ((fg_0 (n + 1)).1) (nI (20 + v)) (wI t 1079 66 (t.I 1079 66 + 1)) = (fn_X12_next V).bind fun s1 => tsK ((fg_0 (n + 1)).2.1) ((fg_0 (n + 1)).1) (nI (20 + v)) (nI M) s1 := by
      unfold fb_X12_test_209 fb_X12_test_226
      rw [u1, Option.bind_some]
      dsimp only
      rw [NK_11 (by omega)] at z4
      by_cases y2 : v = 2
      · rw [if_pos y2] at z4
        rw [if_pos (show nI (20 + v) = 22 by rw [y2]; rfl), show fn_X12_needs 4 V = some V from (h.nds qV u3 (by omega) (j := 2) (by decide)).1 z4, Option.bind_some, if_neg (show ¬ nI (20 + v) = 23 by rw [y2]; decide), tsK_e]
      rw [if_neg y2] at z4
      rw [if_neg (show ¬ nI (20 + v) = 22 from nI_ne (b := 22) (by omega) (by decide) (by omega))]
      by_cases y3 : v = 3
      · rw [if_pos y3] at z4
        rw [if_pos (show nI (20 + v) = 23 by rw [y3]; rfl), show fn_X12_needs 16 V = some V from (h.nds qV u3 (by omega) (j := 4) (by decide)).1 z4, Option.bind_some, tsK_e]
      · rw [if_neg (show ¬ nI (20 + v) = 23 from nI_ne (b := 23) (by omega) (by decide) (by omega)), tsK_e]
    rw [eV]
    refine RU.uv (G := fun s1 T1 t1 => T1 = T + 1 ∧ ∃ b1 e1 : Nat, e ≤ b1 ∧ out lnI' lqF S s1 ∧ out rnI (rqP bg) V t1 ∧ pj k fr x ts bg b1 e1 (stT v N σ) (N + 1) (M + 1) (cn + 1) ob (dp + 1) rq T1 s1 t1) (pj_go (σ1 := stT v N σ) (N1 := N + 1) (M1 := M + 1) (cn1 := cn + 1) (ob1 := ob) (dp1 := dp + 1) (rq1 := rq) h (by rw [hw]; decide) (v4 hw) (sg_cn w4 hN) qV w2 u3 ?_ ?_ (stT_V k6.tl hN) (by omega) (by omega) (by omega) k10 (by omega) k12 fun s1 t1 b1 e1 g1 g2 g3 g4 => ⟨rfl, b1, e1, g1, g2, g3, g4⟩) (fun p t1 h1 => h1.tsk (by omega)) ?_
    · have := stT_len (v := v) (N := N) (σ := σ); simp only [List.length_cons]; omega
    · have := stT_len (v := v) (N := N) (σ := σ); omega
    · rintro s1 T1 t1 o q ⟨rfl, b1, e1, g1, g2, g3, g4⟩
      have i : ∀ f : Nat, s1.I (16 + 3 * N) f = S.I (16 + 3 * N) f := fun f => g2.2.1 _ _ (by unfold lnI'; omega)
      have j : ∀ f : Nat, s1.F (18 + 3 * N) f = S.F (18 + 3 * N) f := fun f => g2.2.2 _ _ (by unfold lqF; omega)
      refine c v s1 t1 b1 e1 (by omega) (v4 hw) g1 (by omega) (by omega) g4 (w3.fr i j) ?_ (out_t (sg_ts w4 hN) (ln_ts g2)) (ol_t (ol_t (ol_I ol_r ⟨rfl, by omega⟩) (ct_tr u2)) (rq_tr g3))
      obtain ⟨a1, a2, a3, a4, a5, a6, a7, a8, a9, a10, a11, a12, a13, a14, a15⟩ := u4
      have m : ∀ r : Nat, r ≠ 1097 → t1.F r M = V.F r M := fun r hr => g3.2.2 _ _ (by unfold rqP; omega)
      exact ⟨(m _ (by omega)).trans a1, (m _ (by omega)).trans a2, (m _ (by omega)).trans a3, (m _ (by omega)).trans a4, (m _ (by omega)).trans a5, (m _ (by omega)).trans a6, (m _ (by omega)).trans a7, (m _ (by omega)).trans a8, (m _ (by omega)).trans a9, (m _ (by omega)).trans a10, (m _ (by omega)).trans a11, (m _ (by omega)).trans a12, (m _ (by omega)).trans a13, (m _ (by omega)).trans a14, (m _ (by omega)).trans a15⟩
