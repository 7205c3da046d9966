/-! a choice on both sides: the loop over its branches -/
theorem p_chs {k fr : Nat} {x : List Nat} {B ob rq F : Nat} {σ : List (Nat × Nat)} (pc : ob < 8 → ∀ (i : Nat) (σ' : List (Nat × Nat)) (ts : List (List Nat)) (bg b e N M cn T : Nat) (s t : uS), σ'.length ≤ σ.length + 1 → pj k fr x ts bg b e ((3, i) :: σ') N M cn (ob + 1) 0 rq T s t → RV x s t ((fn_X4_startCommand s).bind fun r => fn_X4_parse_13 (999999 - T) r.2 (nI T + 1) r.1) ((fg_0 (F + 18)).2.2.2.2.1 t) (cdG k fr x ts bg b ((3, i) :: σ') N M cn (ob + 1) 0 rq B s t)) (hσ : σ.length ≤ 45) (hv : stV σ) {ts0 : List (List Nat)} {bg0 b0 N0 M0 cn0 : Nat} {s0 t0 : uS} (hN0 : N0 ≤ 9 + 3 * cn0) (hM0 : M0 ≤ 9 + 3 * cn0) : ∀ (m fu : Nat) (ts new0 : List (List Nat)) (bg b e : Nat) (σ' : List (Nat × Nat)) (N' M' cn' i κ M cn T : Nat) (s t S U : uS), ts = ts0 ++ new0 → x.length + 1 ≤ m + b → m + 2 ≤ fu → pj k fr x ts bg b e σ' N' M' cn' ob 0 rq T s t → s.I 7 2 = 0 → b < e → b0 ≤ b → bg0 ≤ bg → out cnI cnF s S → ol rnJ rnK rNo t U → pm ((5, i) :: (2, i) :: (4, 0) :: σ) (i + 1) cn ob rq S → σ.length ≤ σ'.length → nodN i (nI κ) (nI 0) (nI 0) S → pr ts bg M cn ob 0 rq U → brP B ts S U M0 N0 i M ts0.length ts.length κ → κ ≠ 23 → M0 < M → N0 ≤ i → i + 1 + 3 * cn0 + 2 ≤ N0 + 3 * cn → M + 3 * cn0 + 2 ≤ M0 + 3 * cn → cn ≤ 100 → acN S N0 i + cn0 + 1 ≤ cn → U.F 1098 M0 = nI 0 → U.F 1101 M0 = -1 → out (tsI N0) (tsF N0) s0 S → ol trI (trF M0 ts0.length bg0) rNo t0 U → RV x s t (fn_X4_parse_13 (999999 - T) 1 (nI T + 1) S) (fn_X12_choice_8 ((fg_0 (F + 20)).1) ((fg_0 (F + 20)).2.2.2.1) fu (nI M0) true U) (cdG k fr x ts0 bg0 b0 σ N0 M0 cn0 ob 0 rq (B + 1) s0 t0) := by
  intro m
  induction m using Nat.strongRecOn with
  | ind m im =>
    intro fu ts new0 bg b e σ' N' M' cn' i κ M cn T s t S U hts hm hfu h hw hbe hb0 hbg0 oS qU hpm hσ' hnd hpr hbr hκ hMM hNi hNc hMc hcn hcn0 hU0 hU1 o0 q0
    obtain ⟨k1, k2, k3, k4, k5, k6, k7, k8, k9, k10, k11, k12, k13⟩ := h.2.2.2
    have hbl := h.bl
    obtain ⟨fu2, rfl⟩ : ∃ fu2 : Nat, fu = fu2 + 2 := ⟨fu - 2, by omega⟩
    have hM05 : M0 < 520 := by omega
    have hle0 : ts0.length ≤ ts.length := by rw [hts, List.length_append]; omega
    rw [ch_s, if_pos rfl, if_neg (by rw [qU.2.1 1079 40 (by unfold rnJ; omega), h.1.l.2.2.1]; decide)]
    refine RU.uv (G := fun s1 T1 t1 => ∃ b1 e1 : Nat, e ≤ b1 ∧ out lnI' lqF S s1 ∧ out rnI (rqP bg) U t1 ∧ pj k fr x ts bg b1 e1 ((5, i) :: (2, i) :: (4, 0) :: σ) (i + 1) M cn ob 0 rq T1 s1 t1) (pj_go (σ1 := (5, i) :: (2, i) :: (4, 0) :: σ) h (by rw [hw]; decide) hbe oS qU hpm hpr (by simp only [List.length_cons]; omega) (by simp only [List.length_cons]; omega) (((hv.ps (by decide) (by omega) (by omega)).ps (by decide) (by omega) (by omega)).ps (by decide) (by omega) (by omega)) (by omega) (by omega) hcn k10 (by omega) k12 (fun s1 t1 b1 e1 g1 g2 g3 g4 => ⟨b1, e1, g1, g2, g3, g4⟩)) (fun p t1 z => (z.te (n := F + 19)).vv fun t2 v2 hv2 z2 => (z2.bk (n := F + 18)).vv fun t3 v3 hv3 z3 => z3.bhk hM05) ?_
    rintro s1 T1 t1 - - ⟨b1, e1, g1, g2, g3, g4⟩
    have hnd1 : nodN i (nI κ) (nI 0) (nI 0) s1 := hnd.fr (fun f => g2.2.1 _ _ (by unfold lnI'; omega)) (fun f => g2.2.2 _ _ (by unfold lqF; omega))
    have hi320 : i < 320 := by omega
    have pt := p_test (k := k) (fr := fr) (x := x) 9 F (by omega) g4 hi320 hnd1.2.2.1 (by simp only [List.length_cons]; omega)
    rw [show 2 * 9 + 2 + F = F + 20 by omega] at pt
    refine RV.vv (A := (fg_0 (F + 20)).1 t1) pt (fun p t2 v2 hv2 z2 => (z2.bk (n := F + 18)).vv fun t3 v3 hv3 z3 => z3.bhk hM05) ?_
    rintro s2 T2 t2 v2 - - ⟨rfl, new1, bg2, b2, e2, N2, M2, cn2, a1, a2, a3, a4, a5, a6, a7, a8, a9, a10⟩
    have hlt2 := a7.lt
    have pb := p_block (B := B) (n := F + 18) (i := i) (σ := (4, 0) :: σ) (fun hob ts bg b e N M cn T s t => pc hob i ((4, 0) :: σ) ts bg b e N M cn T s t (by simp only [List.length_cons]; omega)) a6 (by omega) (by omega) (by omega)
    refine RV.vv (A := (fg_0 (F + 20)).2.2.2.1 t2) pb (fun p t3 v3 hv3 z3 => z3.bhk hM05) ?_
    rintro s3 T3 t3 v3 - - ⟨rfl, new2, bg3, b3, e3, N3, M3, cn3, c1, c2, c3, c4, c5, c6, c7, c8, c9, c10, c11, c12, c13, c14⟩
    have hT3 : ts ++ new1 ++ new2 = ts0 ++ (new0 ++ new1 ++ new2) := by rw [hts]; simp only [List.append_assoc]
    have len1 : ts.length ≤ (ts ++ new1).length := by rw [List.length_append]; omega
    have len2 : (ts ++ new1).length ≤ (ts ++ new1 ++ new2).length := by rw [List.length_append (as := ts ++ new1)]; omega
    obtain ⟨l1, l2, l3, l4, l5, l6, l7, l8, l9, l10, l11, l12, l13⟩ := c8.2.2.2
    have hN3 : N3 < 310 := by omega
    have oi : ∀ f : Nat, f ≠ 4 → s3.I (16 + 3 * i) f = S.I (16 + 3 * i) f := fun f hf => by
      rw [c12.2.1 _ _ (by unfold bkI tsI; omega), a9.2.1 _ _ (by unfold tsI; omega), g2.2.1 _ _ (by unfold lnI'; omega)]
    have old : ∀ kk : Nat, N0 ≤ kk → kk < i → ndS kk S s3 := fun kk _ hk => ⟨fun f => by rw [c12.2.1 _ _ (by unfold bkI tsI; omega), a9.2.1 _ _ (by unfold tsI; omega), g2.2.1 _ _ (by unfold lnI'; omega)], fun f => by rw [c12.2.2 _ _ (by unfold tsF; omega), a9.2.2 _ _ (by unfold tsF; omega), g2.2.2 _ _ (by unfold lqF; omega)], fun f => by rw [c12.2.2 _ _ (by unfold tsF; omega), a9.2.2 _ _ (by unfold tsF; omega), g2.2.2 _ _ (by unfold lqF; omega)]⟩
    have oldR : ∀ r f : Nat, 1098 ≤ r → r ≤ 1115 → M0 ≤ f → f < v2 → t3.F r f = U.F r f := fun r f _ _ _ _ => by rw [c13.2.2.1 _ _ (by unfold trF; omega), a10.2.2.1 _ _ (by unfold trF; omega), g3.2.2 _ _ (by unfold rqP; omega)]
    have hac : acN s3 N0 N3 + cn0 + 1 ≤ cn3 := by
      have e0 : kA s3 i = 0 := kA_0 (κ := κ) ((oi 0 (by omega)).trans hnd.1) (by rcases hbr with z | z; omega; omega) (by rcases hbr with z | z; omega; omega) (by rcases hbr with z | z; omega; omega) (by rcases hbr with z | z; omega; omega)
      have e1 := acN_le (s := s3) (a := i + 1) (b := N2)
      rw [acN_sp (b := N2) (by omega) (by omega), acN_sp (a := N0) (b := i + 1) (c := N2) (by omega) (by omega), acN_s hNi, e0, acN_c (s := S) (s1 := s3) (a := N0) (b := i) (fun kk h1 h2 => (old kk h1 h2).1 0)]
      omega
    have hbr3 : brP B (ts ++ (new1 ++ new2)) s3 t3 M0 N0 i v2 ts0.length ts.length κ := hbr.fr old oldR hMM
    rw [← List.append_assoc] at hbr3
    obtain ⟨t4, p1, p2, p3, p4⟩ := r_bnode (z := false) (nt := v3) (it := N2) (ut := (ts ++ new1).length) (a := nI v2) c8 (by omega) hbr3 (fun _ => hκ) hMM ((oi 0 (by omega)).trans hnd.1) c11 ⟨by omega, by omega, by omega, by omega, len1, len2⟩ c10 (Or.inr ⟨hκ, by omega, rfl, a7.fr (fun kk e1 e2 => ⟨fun f => c12.2.1 _ _ (by unfold bkI tsI; omega), fun f => c12.2.2 _ _ (by unfold tsF; omega), fun f => c12.2.2 _ _ (by unfold tsF; omega)⟩) (fun r f e1 e2 e3 e4 e5 => c13.2.2.1 _ _ (by unfold trF; omega))⟩) c9
    dsimp only
    rw [bhK_e p1]
    have q34 : ol rdI rdF rNo t3 t4 := ol_w p4 (fun k f z => by unfold trI at z; unfold rdI; omega) (fun k f z => by unfold ptF at z; unfold rdF; omega) (fun _ _ z => z)
    refine RV.pre (s := s3) (t := t4) ?_ out_r q34
    have oA : out (tsI N0) (tsF N0) s0 s3 := out_t o0 (out_t (ln_ts g2) (out_t (ts_m a9 (by omega)) (out_w c12 (fun k f z => by unfold bkI tsI at z; unfold tsI; omega) (fun k f z => by unfold tsF at *; omega))))
    have qA : ol trI (trF M0 ts0.length bg0) rNo t0 t4 := ol_t q0 (ol_t (ol_w (rq_tr g3 (M := M0) (j := ts0.length)) (fun _ _ z => z) (fun k f z => by unfold trF at *; omega) (fun _ _ z => z)) (ol_t (tr_m a10 (by omega) hle0 (by omega)) (ol_t (tr_m c13 (by omega) (by omega) (by omega)) (ol_w p4 (fun _ _ z => z) (fun k f z => by unfold ptF at z; unfold trF; omega) (fun _ _ z => z)))))
    have h40 : t4.F 1098 M0 = nI 0 := by rw [p4.2.2.1 _ _ (by unfold ptF; omega), oldR _ _ (by omega) (by omega) (by omega) (by omega)]; exact hU0
    have h41 : t4.F 1101 M0 = -1 := by rw [p4.2.2.1 _ _ (by unfold ptF; omega), oldR _ _ (by omega) (by omega) (by omega) (by omega)]; exact hU1
    obtain ⟨v, w1, w2, w3, w4, w5⟩ := p2.wrd kW_38 (by decide) (by decide)
    have w1' : v ≤ 2 := w1
    have hst : fn_X4_startElse s3 = fb_X4_startElse_23 (if v = 2 then -1 else nI v) s3 := by
      unfold fn_X4_startElse
      by_cases z : s3.I 7 2 = 0
      · rw [if_pos z, w2 z, Option.bind_some]; rfl
      · rw [if_neg z, if_pos (show v = 2 from w3 z)]
    obtain ⟨⟨S5, x1, x2⟩, ⟨S6, x3, x4⟩, x5⟩ := c_els c8.2.1 (by omega) (by omega)
    rw [pd_4 p2, hst, w5 kW_93 0 ew_93 t4 ol_r, Option.bind_some]
    have hv' : v = 0 ∨ v = 1 ∨ v = 2 := by omega
    have h53 := p2.1.l.2.2.2.2.2
    rcases hv' with z | z | z
    · -- elsif
      subst z
      have hw3 : s3.I 7 2 = 0 := Decidable.of_not_not fun y => by have := w3 y; exact absurd this (by decide)
      rw [if_neg (by decide), x1, Option.bind_some, decide_eq_true rfl]
      obtain ⟨y1, y2, y3⟩ := x2
      have fr5 : ∀ kk : Nat, kk < N3 → ndS kk s3 S5 := fun kk hk => ⟨fun f => y3.2.1 _ _ (by unfold sgI; omega), fun f => y3.2.2 _ _ (by unfold sgF; omega), fun f => y3.2.2 _ _ (by unfold sgF; omega)⟩
      have hbr5 : brP B (ts ++ new1 ++ new2 ++ []) S5 t4 M0 N0 N3 (M3 + 1) ts0.length (ts ++ new1 ++ new2).length 22 := brP.fr (Or.inr ⟨Or.inl rfl, p3⟩) (fun kk _ e2 => fr5 kk e2) (fun _ _ _ _ _ _ => rfl) (by omega)
      rw [List.append_nil] at hbr5
      exact im (m - 1) (by omega) (fu2 + 1) (ts ++ new1 ++ new2) (new0 ++ new1 ++ new2) bg3 b3 e3 ((4, 0) :: σ) N3 (M3 + 1) cn3 N3 22 (M3 + 1) cn3 T3 s3 t4 S5 t4 hT3 (by omega) (by omega) p2 hw3 (w4 hw3) (by omega) (by omega) (sg_cn y3 (by omega)) ol_r y1 (by simp only [List.length_cons]; omega) y2 p2.2.2.1 hbr5 (by omega) (by omega) (by omega) (by omega) (by omega) l9 (by rw [acN_c (s := s3) (s1 := S5) (fun kk h1 h2 => (fr5 kk h2).1 0)]; exact hac) h40 h41 (out_t oA (ts_m (sg_ts y3 (by omega)) (by omega))) qA
    · -- else
      subst z
      have hw3 : s3.I 7 2 = 0 := Decidable.of_not_not fun y => by have := w3 y; exact absurd this (by decide)
      rw [if_neg (by decide), x3, Option.bind_some, decide_eq_false (by decide), ch_s, if_neg (by decide)]
      unfold fb_X12_choice_76
      rw [w5 kW_94 1 ew_94 t4 ol_r, Option.bind_some, decide_eq_true rfl, if_pos rfl]
      obtain ⟨y1, y2, y3⟩ := x4
      refine RU.uv (G := fun s1 T1 t1 => ∃ b1 e1 : Nat, e3 ≤ b1 ∧ out lnI' lqF S6 s1 ∧ out rnI (rqP bg3) t4 t1 ∧ pj k fr x (ts ++ new1 ++ new2) bg3 b1 e1 ((2, N3) :: σ) (N3 + 1) (M3 + 1) cn3 ob 0 rq T1 s1 t1) (pj_go (σ1 := (2, N3) :: σ) p2 (by rw [hw3]; decide) (w4 hw3) (sg_cn y3 (by omega)) ol_r y1 p2.2.2.1 (by simp only [List.length_cons]; omega) (by simp only [List.length_cons]; omega) (hv.ps (by decide) (by omega) (by omega)) (by omega) (by omega) l9 k10 (by omega) k12 (fun s1 t1 b1 e1 g1 g2 g3 g4 => ⟨b1, e1, g1, g2, g3, g4⟩)) (fun p t1 z => (z.bk (n := F + 18)).vv fun t3 v3 hv3 z3 => z3.elk hM05) ?_
      rintro s7 T7 t7 - - ⟨b7, e7, d1, d2, d3, d4⟩
      have pb2 := p_block (B := B) (n := F + 18) (i := N3) (σ := σ) (fun hob ts bg b e N M cn T s t => pc hob N3 σ ts bg b e N M cn T s t (by omega)) d4 (by omega) (by omega) (by omega)
      refine RV.vv (A := (fg_0 (F + 20)).2.2.2.1 t7) pb2 (fun p t3 v3 hv3 z3 => z3.elk hM05) ?_
      rintro s8 T8 t8 v8 - - ⟨rfl, new3, bg8, b8, e8, N8, M8, cn8, f1, f2, f3, f4, f5, f6, f7, f8, f9, f10, f11, f12, f13, f14⟩
      obtain ⟨j1, j2, j3, j4, j5, j6, j7, j8, j9, j10, j11, j12, j13⟩ := f8.2.2.2
      have fr8 : ∀ kk : Nat, kk < N3 → ndS kk s3 s8 := fun kk hk => ⟨fun f => by rw [f12.2.1 _ _ (by unfold bkI tsI; omega), d2.2.1 _ _ (by unfold lnI'; omega), y3.2.1 _ _ (by unfold sgI; omega)], fun f => by rw [f12.2.2 _ _ (by unfold tsF; omega), d2.2.2 _ _ (by unfold lqF; omega), y3.2.2 _ _ (by unfold sgF; omega)], fun f => by rw [f12.2.2 _ _ (by unfold tsF; omega), d2.2.2 _ _ (by unfold lqF; omega), y3.2.2 _ _ (by unfold sgF; omega)]⟩
      have fr8R : ∀ r f : Nat, 1098 ≤ r → r ≤ 1115 → f < M3 + 1 → t8.F r f = t4.F r f := fun r f _ _ _ => by rw [f13.2.2.1 _ _ (by unfold trF; omega), d3.2.2 _ _ (by unfold rqP; omega)]
      have hbr8 : brP B (ts ++ new1 ++ new2 ++ new3) s8 t8 M0 N0 N3 (M3 + 1) ts0.length (ts ++ new1 ++ new2).length 23 := brP.fr (Or.inr ⟨Or.inr rfl, p3⟩) (fun kk _ e2 => fr8 kk e2) (fun r f e1 e2 _ e4 => fr8R r f e1 e2 e4) (by omega)
      have ni : ∀ f : Nat, f ≠ 4 → s8.I (16 + 3 * N3) f = S6.I (16 + 3 * N3) f := fun f hf => by rw [f12.2.1 _ _ (by unfold bkI tsI; omega), d2.2.1 _ _ (by unfold lnI'; omega)]
      have len3 : (ts ++ new1 ++ new2).length ≤ (ts ++ new1 ++ new2 ++ new3).length := by rw [List.length_append (as := ts ++ new1 ++ new2)]; omega
      obtain ⟨t9, r1, r2, r3, r4⟩ := r_bnode (z := true) (nt := M3 + 1) (it := N3 + 1) (ut := (ts ++ new1 ++ new2).length) (a := -1) f8 (by omega) hbr8 (fun y => by cases y) (by omega) ((ni 0 (by omega)).trans y2.1) f11 ⟨by omega, by omega, by omega, by omega, Nat.le_refl _, len3⟩ f10 (Or.inl ⟨rfl, rfl, rfl⟩) f9
      dsimp only
      rw [elK_e r1]
      have oB : out (tsI N0) (tsF N0) s0 s8 := out_t oA (out_t (ts_m (sg_ts y3 (by omega)) (by omega)) (out_t (ln_ts d2) (out_w f12 (fun k f z => by unfold bkI tsI at z; unfold tsI; omega) (fun k f z => by unfold tsF at *; omega))))
      have qB : ol trI (trF M0 ts0.length bg0) rNo t0 t9 := ol_t qA (ol_t (ol_w (rq_tr d3 (M := M0) (j := ts0.length)) (fun _ _ z => z) (fun k f z => by unfold trF at *; omega) (fun _ _ z => z)) (ol_t (tr_m f13 (by omega) (by omega) (by omega)) (ol_w r4 (fun _ _ z => z) (fun k f z => by unfold ptF at z; unfold trF; omega) (fun _ _ z => z))))
      have e98 : t9.F 1098 M0 = nI 0 := by rw [r4.2.2.1 _ _ (by unfold ptF; omega), fr8R _ _ (by omega) (by omega) (by omega)]; exact h40
      have e01 : t9.F 1101 M0 = -1 := by rw [r4.2.2.1 _ _ (by unfold ptF; omega), fr8R _ _ (by omega) (by omega) (by omega)]; exact h41
      have hT8 : ts ++ new1 ++ new2 ++ new3 = ts0 ++ (new0 ++ new1 ++ new2 ++ new3) := by rw [hts]; simp only [List.append_assoc]
      refine Or.inr ⟨T8, s8, t9, M0, rfl, rfl, out_r, ol_w r4 (fun k f z => by unfold trI at z; unfold rdI; omega) (fun k f z => by unfold ptF at z; unfold rdF; omega) (fun _ _ z => z), rfl, new0 ++ new1 ++ new2 ++ new3, bg8, b8, e8, N8, M8 + 1, cn8, by omega, by omega, by omega, by omega, by omega, by rw [← hT8]; exact r2, ?_, e01, oB, qB, ?_⟩
      · rw [← hT8]
        exact r3.cn e98
      · have e0 : kA s8 N3 = 0 := kA_0 (κ := 23) ((ni 0 (by omega)).trans y2.1) (by decide) (by decide) (by decide) (by decide)
        rw [acN_sp (b := N3 + 1) (by omega) (by omega), acN_s (by omega), e0, acN_c (s := s3) (s1 := s8) (a := N0) (b := N3) (fun kk h1 h2 => (fr8 kk h2).1 0)]
        omega
    · subst z
      rw [if_pos rfl, x5, Option.bind_some, K_pass p2.bl.2.1, decide_eq_false (by decide), ch_s, if_neg (by decide)]
      unfold fb_X12_choice_76
      rw [w5 kW_94 1 ew_94 t4 ol_r, Option.bind_some, decide_eq_false (by decide), if_neg (by decide)]
      have hpop := p2.pop
      refine Or.inr ⟨T3 + 1, _, t4, M0, rfl, rfl, out_I out_r ⟨by omega, by omega⟩, ol_r, rfl, new0 ++ new1 ++ new2, bg3, b3, e3, N3, M3 + 1, cn3, by omega, by omega, by omega, by omega, by omega, by rw [← hT3]; exact hpop, ?_, h41, out_I oA (Or.inl rfl), qA, by rw [acN_c (s := s3) (s1 := wI s3 6 5 (nI σ.length)) (fun kk _ _ => wI_o (by omega))]; omega⟩
      rw [← hT3]
      have := cnR.fr (more := []) (s1 := wI s3 6 5 (nI σ.length)) (t1 := t4) (p3.cn h40) (fun kk _ _ => ⟨fun f => wI_o (by omega), fun _ => rfl, fun _ => rfl⟩) (fun _ _ _ _ _ _ _ => rfl)
      rw [List.append_nil] at this
      exact this
