/-! a whole test on both sides -/
theorem p_test {k fr : Nat} {x : List Nat} : ∀ (D F : Nat) {ts : List (List Nat)} {bg b e : Nat} {σ : List (Nat × Nat)} {N M cn ob dp rq T : Nat} {s t : uS} {p : Nat}, 9 ≤ dp + D → pj k fr x ts bg b e ((5, p) :: σ) N M cn ob dp rq T s t → p < 320 → s.I (16 + 3 * p) 2 = nI dp → σ.length + D ≤ 60 → RV x s t (pd T s) ((fg_0 (2 * D + 2 + F)).1 t) (tsG k fr x ts bg b σ N M cn ob dp rq D p s t) := by
  intro D
  induction D with
  | zero =>
    intro F ts bg b e σ N M cn ob dp rq T s t p hd h hp h2 hσ
    have := h.2.2.2.2.2.2.2.2.2.2.2.2.2.1
    omega
  | succ D ih =>
    intro F ts bg b e σ N M cn ob dp rq T s t p hd h hp h2 hσ
    rw [show 2 * (D + 1) + 2 + F = (2 * D + 2 + F) + 2 by omega]
    refine p_start h hp h2 (by omega) ?_
    intro v s1 t1 b1 e1 hv hbe0 hb hcn hdp h1 hn hr o q
    obtain ⟨k1, k2, k3, k4, k5, k6, k7, k8, k9, k10, k11, k12, k13⟩ := h.2.2.2
    obtain ⟨n0, n1, n2, n3, n4, n5, n6, n8, n9, n11, nl⟩ := id hn
    obtain ⟨m0, m1, m2, m3, -⟩ := id hr
    have hbe := h.1.l.2.2.2.2.2
    have hbb : b < b1 := by omega
    by_cases c1 : v = 6 ∨ v = 7
    · rw [tsK_s c1]
      have hst : stT v N σ = (13, 40) :: (5, N) :: (6, N) :: σ := by rcases c1 with z | z <;> rw [z] <;> rfl
      rw [hst] at h1
      show RV x s1 t1 (pd (T + 1) s1) ((fn_X12_several ((fg_0 (2 * D + 2 + F)).1) (nI M) t1).bind fun s61 => fb_X12_test_419 ((fg_0 (2 * D + 2 + F + 1)).2.1) ((fg_0 (2 * D + 2 + F + 1)).1) (nI M) s61) _
      have hs : RU x s1 t1 (pd (T + 1) s1) (fn_X12_several ((fg_0 (2 * D + 2 + F)).1) (nI M) t1) (svG k fr x ts bg b1 σ N (N + 1) M (M + 1) (cn + 1) ob (dp + 1) rq D ts.length s1 t1) := by
        unfold fn_X12_several
        refine (p_take h1 (by decide)).uu (fun p t2 z => z.sv8 (n := 999999)) ?_
        rintro s2 T2 t2 o2 q2 ⟨w0, b2, e2, w1, w2, w3, w4⟩
        have o3 : out (tsI (N + 1)) (tsF (N + 1)) s1 s2 := tk_ts w3
        have q3 : ol trI (trF (M + 1) ts.length bg) rNo t1 t2 := rq_tr w4
        have := p_sev (k := k) (fr := fr) (x := x) (D := D) (n := 2 * D + 1 + F) (fun a b c d e => by have := ih F a b c d e; rw [show 2 * D + 2 + F = 2 * D + 1 + F + 1 by omega] at this; exact this) (σ := σ) (N := N) (M := M) (ob := ob) (dp := dp + 1) (rq := rq) (u := ts.length) (by omega) (by omega) (x.length + 1) 1000000 ts bg b2 e2 T2 (N + 1) (M + 1) (cn + 1) s2 t2 (by omega) (by have := h.bl.2.2; omega) (by omega) (by omega) w2 ((o3.2.1 _ _ (by unfold tsI; omega)).trans n2) (Or.inl ⟨rfl, rfl, rfl, (q3.2.2.1 _ _ (by unfold trF; omega)).trans m1⟩)
        rw [show 2 * D + 1 + F + 1 = 2 * D + 2 + F by omega] at this
        exact this.w (fun s4 T4 t4 z => svG.w (new0 := []) (by rw [List.append_nil]; exact z) (Nat.le_refl _) (by omega) (Nat.le_refl _) (by omega) (by omega) (out_w o3 (fun k f z => Or.inl z) (fun _ _ z => z)) (ol_w q3 (fun _ _ z => z) (fun k f z => Or.inl z) (fun _ _ z => z)))
      refine hs.uv (fun p t1 z => z.t419 (by omega)) ?_
      rintro s2 T2 t2 o2 q2 ⟨new1, bg1, b2, e2, N2, M2, cn2, a1, a2, a3, a4, a5, a6, a7, a8, a9, a10⟩
      have i : ∀ f : Nat, f ≠ 3 → s2.I (16 + 3 * N) f = s1.I (16 + 3 * N) f := fun f hf => a9.2.1 _ _ (by unfold svI tsI; omega)
      have j : ∀ r : Nat, 1098 ≤ r → r ≤ 1115 → r ≠ 1099 → r ≠ 1100 → t2.F r M = t1.F r M := fun r _ _ _ _ => a10.2.2.1 _ _ (by unfold svF trF ptF; omega)
      obtain ⟨L, l1, l2, l3⟩ := a7
      have hlt := chR.lt (fun _ _ _ _ _ _ z => tsR.lt z) l3
      refine ts_ret (tsG.mk (bg1 := bg1) (b1 := b2) (e1 := e2) (N1 := N2) (M1 := M2) (cn1 := cn2) a6 a1 (by omega) (by omega) (by omega) (by omega) ?_ ((j _ (by omega) (by omega) (by omega) (by omega)).trans m3) (out_t o (out_w a9 (fun k f z => by unfold svI tsI at z; unfold tsI; omega) (fun k f z => by unfold tsF at *; omega))) (ol_t q (ol_w a10 (fun _ _ z => z) (fun k f z => by unfold svF trF ptF at z; unfold trF; omega) (fun _ _ z => z))))
      exact ⟨by omega, by omega, by omega, (i _ (by omega)).trans n1, a8, 11 + v, by omega, by omega, (i _ (by omega)).trans n0, by rw [show 11 + v + 9 = 20 + v by omega]; exact (j _ (by omega) (by omega) (by omega) (by omega)).trans m0, Or.inr (Or.inl ⟨by omega, l1, L, l3⟩)⟩
    by_cases c2 : v = 8
    · subst c2
      rw [tsK_8]
      have h1' : pj k fr x ts bg b1 e1 ((5, N) :: (7, N) :: σ) (N + 1) (M + 1) (cn + 1) ob (dp + 1) rq (T + 1) s1 t1 := h1
      have := ih (F + 1) (by omega) h1' (by omega) n2 (by simp only [List.length_cons]; omega)
      refine RV.vv (A := (fg_0 (2 * D + 2 + F + 1)).1 t1) this (fun p t2 v hv z => (z.pt (by omega) hv).uv fun t3 z3 => z3.t419 (by omega)) ?_
      rintro s2 T2 t2 w o2 q2 ⟨rfl, new1, bg1, b2, e2, N2, M2, cn2, a1, a2, a3, a4, a5, a6, a7, a8, a9, a10⟩
      obtain ⟨g1, g2, g3, g4, g5, g6, g7, g8, g9, g10, g11, g12, g13⟩ := a6.2.2.2
      have mm : ∀ r : Nat, 1098 ≤ r → r ≤ 1115 → t2.F r M = t1.F r M := fun r _ _ => a10.2.2.1 _ _ (by unfold trF; omega)
      have hlt := a7.lt
      obtain ⟨t3, p1, ⟨L, l1, l2, l3⟩, p3, p4⟩ := hdC.put (R := fun t => tsR D s2 t N) (P := M) (i0 := N + 1) (n0 := M + 1) (u := ts.length) frP_ts (Or.inl ⟨rfl, rfl, rfl, (mm _ (by omega) (by omega)).trans m1⟩) (by omega) (by omega) a7 a8 a6.2.2.1.2.2.2.2.2.2.2
      have a6' := a6.pt p3 p4
      dsimp only
      rw [p1, Option.bind_some, pd_7 a6']
      unfold fn_X4_endTest
      rw [pgt_nod (by omega), Option.bind_some, if_pos (so_nod (by omega)), a6'.2.1.2.2.1]
      have hpm : pm ((7, N) :: σ) N2 cn2 ob rq (wI s2 (16 + 3 * N) 3 (nI N2)) := a6'.2.1.fr (fun f => wI_o (by omega)) (fun _ _ _ => rfl)
      rw [c_pop hpm, Option.bind_some, Option.bind_some, K_pass a6'.bl.2.1]
      have oQ : out (fun k f => (k = 6 ∧ f = 5) ∨ (k = 16 + 3 * N ∧ f = 3)) rNo s2 (wI (wI s2 (16 + 3 * N) 3 (nI N2)) 6 5 (nI σ.length)) := out_I (out_I out_r (Or.inr ⟨rfl, rfl⟩)) (Or.inl ⟨rfl, rfl⟩)
      refine RV.pre (s := wI (wI s2 (16 + 3 * N) 3 (nI N2)) 6 5 (nI σ.length)) (t := t3) ?_ (out_w oQ (fun k f z => by unfold psI; omega) (fun _ _ z => z.elim)) (ol_w p3 (fun _ _ z => z.elim) (fun k f z => by unfold ptF at z; unfold rdF; omega) (fun _ _ z => z))
      have hpj : pj k fr x (ts ++ new1) bg1 b2 e2 σ N2 M2 cn2 ob (dp + 1) rq (T2 + 1) (wI (wI s2 (16 + 3 * N) 3 (nI N2)) 6 5 (nI σ.length)) t3 := pj_at a6' (out_w oQ (fun k f z => by unfold cnI; omega) (fun _ _ z => z.elim)) ol_r hpm.pop a6'.2.2.1 (by simp only [List.length_cons]; omega) (by simp only [List.length_cons] at g5; omega) g6.tl g7 g8 g9 g10 g11 g12
      have j : ∀ r : Nat, 1098 ≤ r → r ≤ 1115 → r ≠ 1099 → r ≠ 1100 → t3.F r M = t2.F r M := fun r _ _ _ _ => p3.2.2.1 _ _ (by unfold ptF; omega)
      have iN : ∀ f : Nat, f ≠ 3 → (wI (wI s2 (16 + 3 * N) 3 (nI N2)) 6 5 (nI σ.length)).I (16 + 3 * N) f = s1.I (16 + 3 * N) f := fun f hf => by rw [wI_o (by omega), wI_o (by omega)]; exact a9.2.1 _ _ (by unfold tsI; omega)
      refine ts_ret (tsG.mk (bg1 := bg1) (b1 := b2) (e1 := e2) (N1 := N2) (M1 := M2) (cn1 := cn2) hpj a1 (by omega) (by omega) (by omega) (by omega) ?_ (((j _ (by omega) (by omega) (by omega) (by omega)).trans (mm _ (by omega) (by omega))).trans m3) (out_t o (out_t (ts_m a9 (by omega)) (out_w oQ (fun k f z => by unfold tsI; omega) (fun _ _ z => z.elim)))) (ol_t q (ol_t (tr_m a10 (by omega) (Nat.le_refl _) (Nat.le_refl _)) (ol_w p3 (fun _ _ z => z.elim) (fun k f z => by unfold ptF at z; unfold trF; omega) (fun _ _ z => z)))))
      refine ⟨by omega, by omega, hlt.2.2, (iN _ (by omega)).trans n1, by rw [wI_o (by omega), wI_e], 19, by omega, by omega, (iN _ (by omega)).trans n0, ((j _ (by omega) (by omega) (by omega) (by omega)).trans (mm _ (by omega) (by omega))).trans m0, Or.inl ⟨rfl, l1, ?_⟩⟩
      refine a7.fr (fun k e1 e2 => ⟨fun f => ?_, fun _ => rfl, fun _ => rfl⟩) (fun r f c1 c2 c3 c4 c5 => p3.2.2.1 _ _ (by unfold ptF; omega))
      rw [wI_o (by omega), wI_o (by omega)]
    · exact t_leaf (by omega) hcn h1 (by omega) hn hr hbb o q
