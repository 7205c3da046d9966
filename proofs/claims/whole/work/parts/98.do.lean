/-! a block on both sides -/
theorem isS_o {t U : uS} {c : Int32} (q : ol rnJ rnK rNo t U) : fn_X12_isSign c U = fn_X12_isSign c t := by
  unfold fn_X12_isSign fn_X12_is
  rw [q.2.1 1079 40 (by unfold rnJ; omega), q.2.1 1079 31 (by unfold rnJ; omega)]
theorem fO.bk3 {p n a : Nat} {t : uS} (ha : a < 520) (h : fO p t) : FV p t (((fg_0 (n + 1)).2.2.1 (nI a) t).bind fun s3 => (fn_X12_take 125 s3).bind fun s5 => some (wI s5 1079 65 ((s5.I 1079 65) - 1), nI a)) := by
  refine h.cms.uv fun t2 h2 => (h2.tk _).uv fun t3 h3 => ?_
  exact FV.w (t := wI t3 1079 65 (t3.I 1079 65 - 1)) (ol_I ol_r (show rdI 1079 65 from ⟨rfl, by omega⟩)) ((h3.I (by decide) (by decide)).V ha)
def bkI (i N k f : Nat) : Prop := tsI N k f ∨ (k = 16 + 3 * i ∧ f = 4)
def bkG (k fr : Nat) (x : List Nat) (ts : List (List Nat)) (bg b : Nat) (σ : List (Nat × Nat)) (N M cn ob dp rq B i : Nat) (s t : uS) (s1 : uS) (T1 : Nat) (t1 : uS) (v : Nat) : Prop := v = M ∧ ∃ (news : List (List Nat)) (bg1 b1 e1 N1 M1 cn1 : Nat), bg ≤ bg1 ∧ b < b1 ∧ cn ≤ cn1 ∧ N < N1 ∧ M < M1 ∧ N1 + 3 * cn ≤ N + 1 + 3 * cn1 ∧ M1 + 3 * cn ≤ M + 1 + 3 * cn1 ∧ pj k fr x (ts ++ news) bg1 b1 e1 σ N1 M1 cn1 ob dp rq T1 s1 t1 ∧ lcR (cnR B (ts ++ news) s1 t1) t1 M N (N1 - 1) (M + 1) M1 ts.length (ts ++ news).length ∧ s1.I (16 + 3 * (N1 - 1)) 0 = nI 24 ∧ s1.I (16 + 3 * i) 4 = nI N1 ∧ out (bkI i N) (tsF N) s s1 ∧ ol trI (trF M ts.length bg) rNo t t1 ∧ acN s1 N N1 + cn ≤ cn1
theorem p_block {k fr : Nat} {x : List Nat} {B ob rq n i : Nat} {σ : List (Nat × Nat)} (pc : ob < 8 → ∀ (ts : List (List Nat)) (bg b e N M cn T : Nat) (s t : uS), pj k fr x ts bg b e ((3, i) :: σ) N M cn (ob + 1) 0 rq T s t → RV x s t ((fn_X4_startCommand s).bind fun r => fn_X4_parse_13 (999999 - T) r.2 (nI T + 1) r.1) ((fg_0 n).2.2.2.2.1 t) (cdG k fr x ts bg b ((3, i) :: σ) N M cn (ob + 1) 0 rq B s t)) {ts : List (List Nat)} {bg b e N M cn T : Nat} {s t : uS} (h : pj k fr x ts bg b e ((2, i) :: σ) N M cn ob 0 rq T s t) (hi : i < N) (hNs : N + 1 ≤ 9 + 3 * cn) (hMs : M + 1 ≤ 9 + 3 * cn) : RV x s t (pd T s) ((fg_0 (n + 2)).2.2.2.1 t) (bkG k fr x ts bg b σ N M cn ob 0 rq B i s t) := by
  obtain ⟨k1, k2, k3, k4, k5, k6, k7, k8, k9, k10, k11, k12, k13⟩ := h.2.2.2
  have hM5 : M < 519 := by omega
  simp only [List.length_cons] at k5
  show RV x s t (pd T s) (fn_X12_block ((fg_0 (n + 1)).2.2.1) t) _
  rw [pd_2 h]
  unfold fn_X12_block fn_X4_openBlock
  obtain ⟨V, v1, v2, v3, v4⟩ := r_nd1 h.2.2.1 hM5 1
  rw [v1, Option.bind_some]
  dsimp only
  have e65 : V.I 1079 65 + 1 = nI (ob + 1) := by rw [v3.2.2.1, nI_1]
  rw [e65]
  have qV : ol rnJ rnK rNo t (wI V 1079 65 (nI (ob + 1))) := ol_I (nd_rn v2) ⟨rfl, by omega⟩
  have hr : pr ts bg (M + 1) cn (ob + 1) 0 rq (wI V 1079 65 (nI (ob + 1))) := v3.ob rfl
  obtain ⟨v, w1, w2, w3⟩ := h.sg (c := 123) (by decide)
  rw [show fn_X2_isSign 123 s = some v from w1, Option.bind_some, isS_o qV, show fn_X12_isSign 123 t = some v from w2, Option.bind_some, wI_e]
  have tk : ∀ c : Int32, fn_X12_isSign c t = some false → FU b t (fn_X12_take c (wI V 1079 65 (nI (ob + 1)))) := by
    intro c hc
    unfold fn_X12_take
    rw [isS_o qV, hc, Option.bind_some, if_neg (by decide)]
    exact (h.fl2 qV (m := M + 1) (by omega) hr.1 hr.2.2.2.2.2.2.2).uu fun t1 h1 => h1.U
  cases v with
  | false =>
    rw [if_neg (by decide), if_neg (by decide), Option.bind_some]
    refine h.RV out_r ?_
    unfold fb_X12_block_42
    exact (tk 123 w2).uv fun t1 h1 => h1.bk3 (by omega)
  | true =>
    obtain ⟨h4, hbe⟩ := w3 rfl
    rw [if_pos rfl, if_pos rfl, h.2.1.2.2.2.2.1]
    by_cases c8 : ob = 8
    · rw [if_pos (by rw [c8]; rfl), Option.bind_some, if_neg (by rw [c8]; decide)]
      refine h.RV out_r ?_
      exact (h.fl2 qV (m := M + 1) (by omega) hr.1 hr.2.2.2.2.2.2.2).uv fun t1 h1 => h1.bk42 (by omega)
    rw [if_neg (show ¬ nI ob = 8 from nI_ne (b := 8) (by omega) (by decide) c8), if_pos (show nI (ob + 1) ≤ 8 from nI_le (b := 8) (by omega) (by decide)), nI_1 ob]
    have e5 : (wI s 6 7 (nI (ob + 1))).I 6 5 - 1 = nI σ.length := by rw [wI_o (by omega)]; exact h.2.1.h1
    rw [e5]
    have hpm : pm σ N cn (ob + 1) rq (wI (wI s 6 7 (nI (ob + 1))) 6 5 (nI σ.length)) := by
      obtain ⟨m1, m2, m3, m4, m5, m6⟩ := h.2.1
      exact ⟨wI_e _ _ _ _, stk.fr m2.2.2 (fun j hj => ⟨rfl, rfl⟩), ((wI_o (by omega)).trans (wI_o (by omega))).trans m3, ((wI_o (by omega)).trans (wI_o (by omega))).trans m4, (wI_o (by omega)).trans (wI_e _ _ _ _), ((wI_o (by omega)).trans (wI_o (by omega))).trans m6⟩
    rw [show fn_X4_push 3 (nI i) (wI (wI s 6 7 (nI (ob + 1))) 6 5 (nI σ.length)) = some (psh _ _ (nI 3) (nI i)) from c_push (wI_e _ _ _ _) (by omega), Option.bind_some, Option.bind_some]
    unfold fb_X12_block_42 fn_X12_take
    rw [isS_o qV, show fn_X12_isSign 123 t = some true from w2, Option.bind_some, if_pos rfl]
    have oS : out (fun k f => k = 6) (fun k f => k = 14 ∨ k = 15) s (psh (wI (wI s 6 7 (nI (ob + 1))) 6 5 (nI σ.length)) σ.length (nI 3) (nI i)) := psh_o (out_I (out_I out_r rfl) rfl) rfl (Or.inl rfl) (Or.inr rfl)
    refine RU.uv (G := fun s1 T1 t1 => ∃ b1 e1 : Nat, e ≤ b1 ∧ out lnI' lqF (psh (wI (wI s 6 7 (nI (ob + 1))) 6 5 (nI σ.length)) σ.length (nI 3) (nI i)) s1 ∧ out rnI (rqP bg) (wI V 1079 65 (nI (ob + 1))) t1 ∧ pj k fr x ts bg b1 e1 ((3, i) :: σ) N (M + 1) cn (ob + 1) 0 rq T1 s1 t1) ((pj_go (σ1 := (3, i) :: σ) h (by rw [h4]; decide) hbe (out_w oS (fun k f z => by unfold cnI; omega) (fun k f z => by unfold cnF; omega)) qV hpm.psh hr (by simp only [List.length_cons]; omega) (by simp only [List.length_cons]; omega) (k6.tl.ps (by decide) (by omega) (by omega)) k7 hMs k9 (by omega) k11 k12 (fun s1 t1 b1 e1 g1 g2 g3 g4 => ⟨b1, e1, g1, g2, g3, g4⟩)).uu (fun p t1 z => z.U) (fun s1 T1 t1 _ _ z => RU.ret z)) (fun p t1 h1 => h1.bk3 (by omega)) ?_
    rintro s1 T1 t1 - - ⟨b1, e1, g1, g2, g3, g4⟩
    have o1 : out (tsI N) (tsF N) s s1 := out_t (out_w oS (fun k f z => by unfold tsI; omega) (fun k f z => by unfold tsF; omega)) (ln_ts g2)
    have q1 : ol trI (trF M ts.length bg) rNo t t1 := ol_t (ol_I (nd_tr v2) ⟨rfl, by omega⟩) (rq_tr g3)
    have F1 : ∀ r : Nat, r ≠ 1097 → t1.F r M = V.F r M := fun r hr => g3.2.2 _ _ (by unfold rqP; omega)
    refine RU.uv (A := (fg_0 (n + 1)).2.2.1 (nI M) t1) (p_cmds (B := B) (ob := ob + 1) (R := (fg_0 n).2.2.2.2.1) (Or.inr ⟨i, rfl⟩) (pc (by omega)) (P := M) (i0 := N) (n0 := M + 1) (u := ts.length) (by omega) (x.length + 1) 1000000 ts bg b1 e1 N (M + 1) cn T1 s1 t1 (by omega) (by have := h.bl.2.2; omega) (Nat.le_refl _) (Nat.le_refl _) g4 (Or.inl ⟨rfl, rfl, rfl, (F1 _ (by omega)).trans v4.2.1⟩)) (fun p t1 h1 => (h1.tk _).uv fun t3 h3 => FV.w (t := wI t3 1079 65 (t3.I 1079 65 - 1)) (ol_I ol_r (show rdI 1079 65 from ⟨rfl, by omega⟩)) ((h3.I (by decide) (by decide)).V (by omega))) ?_
    rintro s2 T2 t2 - - ⟨news, bg2, b2, e2, N1, M1, cn1, c1, c2, c3, c4, c5, c6, c7, c8', c9, c10, c11, c12, c13⟩
    obtain ⟨l1, l2, l3, l4, l5, l6, l7, l8, l9, l10, l11, l12, l13⟩ := c8'.2.2.2
    have q2 : ol trI (trF M ts.length bg) rNo t t2 := ol_t q1 (ol_w c12 (fun _ _ z => z) (fun k f z => by unfold cnG trF ptF at z; unfold trF; omega) (fun _ _ z => z))
    rw [pd_3 c8']
    obtain ⟨vd, y1, y2, y3⟩ := c8'.sg (c := 125) (by decide)
    rw [show fn_X2_isSign 125 s2 = some vd from y1, show fn_X12_isSign 125 t2 = some vd from y2, Option.bind_some, Option.bind_some]
    cases vd with
    | false =>
      rw [if_neg (by decide), if_neg (by decide)]
      unfold fn_X4_startCommand fb_X4_startCommand_23
      rw [if_neg c9, if_pos (by decide), Option.bind_some]
      refine c8'.RV out_r ((c8'.fl.uu fun t1 z => z.U).uv fun t3 h3 => ?_)
      exact FV.w (t := wI t3 1079 65 (t3.I 1079 65 - 1)) (ol_I ol_r (show rdI 1079 65 from ⟨rfl, by omega⟩)) ((h3.I (by decide) (by decide)).V (by omega))
    | true =>
      obtain ⟨y4, y5⟩ := y3 rfl
      rw [if_pos rfl, if_pos rfl]
      have hpm2 : pm ((3, i) :: σ) N1 cn1 ob rq (wI s2 6 7 (nI ob)) := by
        obtain ⟨m1, m2, m3, m4, m5, m6⟩ := c8'.2.1
        exact ⟨(wI_o (by omega)).trans m1, stk.fr m2 (fun j hj => ⟨rfl, rfl⟩), (wI_o (by omega)).trans m3, (wI_o (by omega)).trans m4, wI_e _ _ _ _, (wI_o (by omega)).trans m6⟩
      obtain ⟨S2, u1, u2, u3, u4⟩ := c_new (cn := cn1) (κ := 24) (p := nI i) (d := 0) (s := s2) hpm2 (out_I out_r (Or.inl rfl)) (by omega)
      unfold fn_X4_closeBlock
      have e7 : s2.I 6 7 - 1 = nI ob := by rw [c8'.2.1.2.2.2.2.1]; exact nI_sub (b := 1) (by omega)
      rw [e7, u1, Option.bind_some, pgt_nod (by omega), Option.bind_some, if_pos (so_nod (by omega))]
      dsimp only
      rw [u2.2.2.1]
      have hpm3 : pm ((3, i) :: σ) (N1 + 1) cn1 ob rq (wI S2 (16 + 3 * i) 4 (nI (N1 + 1))) := u2.fr (fun f => wI_o (by omega)) (fun _ _ _ => rfl)
      rw [c_pop hpm3, Option.bind_some, Option.bind_some]
      have oQ : out (fun k f => k = 6 ∨ k = 16 + 3 * N1 ∨ (k = 16 + 3 * i ∧ f = 4)) (fun k f => k = 14 ∨ k = 15 ∨ k = 18 + 3 * N1) s2 (wI (wI S2 (16 + 3 * i) 4 (nI (N1 + 1))) 6 5 (nI σ.length)) := out_I (out_I (out_w u4 (fun k f z => by unfold sgI at z; omega) (fun k f z => by unfold sgF at z; omega)) (Or.inr (Or.inr ⟨rfl, rfl⟩))) (Or.inl rfl)
      refine RU.uv (G := fun s3 T3 t3 => ∃ b3 e3 : Nat, e2 ≤ b3 ∧ out lnI' lqF (wI (wI S2 (16 + 3 * i) 4 (nI (N1 + 1))) 6 5 (nI σ.length)) s3 ∧ out rnI (rqP bg2) t2 t3 ∧ pjo k fr x (ts ++ news) bg2 b3 e3 σ (N1 + 1) M1 cn1 ob (ob + 1) 0 rq T3 s3 t3) ((pj_go2 (σ1 := σ) (ob2 := ob + 1) c8' (by rw [y4]; decide) y5 (out_w oQ (fun k f z => by unfold cnI; omega) (fun k f z => by unfold cnF; omega)) ol_r hpm3.pop c8'.2.2.1 (by simp only [List.length_cons]; omega) (by simp only [List.length_cons] at l5; omega) l6.tl (by omega) l8 l9 k10 l11 l12 (fun s3 t3 b3 e3 c1 c2 c3 c4 => ⟨b3, e3, c1, c2, c3, c4⟩)).uu (fun p t1 z => z.U) (fun s1 T1 t1 _ _ z => RU.ret z)) (fun p t3 h3 => FV.w (t := wI t3 1079 65 (t3.I 1079 65 - 1)) (ol_I ol_r (show rdI 1079 65 from ⟨rfl, by omega⟩)) ((h3.I (by decide) (by decide)).V (by omega))) ?_
      rintro s3 T3 t3 - - ⟨b3, e3, d1, d2, d3, d4, d5, d6, d7⟩
      have q65 : t3.I 1079 65 - 1 = nI ob := by rw [d6.2.2.1]; exact nI_sub (b := 1) (by omega)
      have hbe1 := g4.1.l.2.2.2.2.2
      have q3 : out rnI (rqP bg2) t2 t3 := d3
      refine Or.inr ⟨T3, s3, _, M, rfl, rfl, out_r, ol_I ol_r ⟨rfl, by omega⟩, rfl, news, bg2, b3, e3, N1 + 1, M1, cn1, c1, by omega, c3, by omega, by omega, by omega, by omega, ⟨d4.o k2 out_r (ol_I ol_r ⟨rfl, by omega⟩), d5, d6.ob q65, d7⟩, ?_, ?_, ?_, ?_, ?_, ?_⟩
      · have hh : hdC (fun t => cnR B (ts ++ news) s3 t) (wI t3 1079 65 (t3.I 1079 65 - 1)) M N N1 (M + 1) M1 ts.length (ts ++ news).length := by
          refine c10.fr frP_cm ?_ (q3.2.2 _ _ (by unfold rqP; omega)) (q3.2.2 _ _ (by unfold rqP; omega)) (fun f _ _ => q3.2.2 _ _ (by unfold rqP; omega))
          intro i' j' n' m' u' w' z1 z2 z3 z4 z
          have := cnR.fr (more := []) (s1 := s3) (t1 := wI t3 1079 65 (t3.I 1079 65 - 1)) z (fun k a1 a2 => ⟨fun f => ?_, fun f => ?_, fun f => ?_⟩) (fun r f c1 c2 c3 c4 c5 => q3.2.2 _ _ (by unfold rqP; omega))
          · rw [List.append_nil] at this; exact this
          · rw [d2.2.1 _ _ (by unfold lnI'; omega)]; exact oQ.2.1 _ _ (by omega)
          · rw [d2.2.2 _ _ (by unfold lqF; omega)]; exact oQ.2.2 _ _ (by omega)
          · rw [d2.2.2 _ _ (by unfold lqF; omega)]; exact oQ.2.2 _ _ (by omega)
        rcases hh with ⟨z1, z2, z3, z4⟩ | ⟨L, z1, z2, z3⟩
        · exact Or.inl ⟨z1, z2, by rw [List.length_append]; omega, z4⟩
        · exact Or.inr ⟨L, z1, z3⟩
      · rw [d2.2.1 _ _ (by unfold lnI'; omega), wI_o (by omega), wI_o (by omega)]; exact u3.1
      · rw [d2.2.1 _ _ (by unfold lnI'; omega), wI_o (by omega), wI_e]
      · have o3 : out (bkI i N) (tsF N) s2 s3 := out_t (out_w oQ (fun k f z => by unfold bkI tsI; omega) (fun k f z => by unfold tsF; omega)) (out_w d2 (fun k f z => by unfold lnI' at z; unfold bkI tsI; omega) (fun k f z => by unfold lqF at z; unfold tsF; omega))
        exact out_t (out_w (out_t o1 c11) (fun k f z => Or.inl z) (fun _ _ z => z)) o3
      · exact ol_I (ol_t q2 (ol_w (rq_tr q3 (M := M) (j := ts.length)) (fun _ _ z => z) (fun k f z => by unfold trF at *; omega) (fun _ _ z => z))) ⟨rfl, by omega⟩
      · have e24 : s3.I (16 + 3 * N1) 0 = nI 24 := by rw [d2.2.1 _ _ (by unfold lnI'; omega), wI_o (by omega), wI_o (by omega)]; exact u3.1
        rw [acN_s (by omega), kA_0 e24 (by decide) (by decide) (by decide) (by decide), acN_c (s := s2) (s1 := s3) (fun k h1 h2 => by rw [d2.2.1 _ _ (by unfold lnI'; omega)]; exact oQ.2.1 _ _ (by omega))]
        omega
