/-! blocks on both sides -/
def pjo (k fr : Nat) (x : List Nat) (ts : List (List Nat)) (bg b e : Nat) (σ : List (Nat × Nat)) (N M cn ob ob2 dp rq T : Nat) (s t : uS) : Prop := tkf k fr x ts bg b e s t ∧ pm σ N cn ob rq s ∧ pr ts bg M cn ob2 dp rq t ∧ pk k ts bg b σ N M cn ob dp rq T s
theorem go2 {k fr : Nat} {x : List Nat} {ts : List (List Nat)} {bg e : Nat} {σ : List (Nat × Nat)} {N M cn ob ob2 dp rq T : Nat} {s t : uS} (h : lxB k fr x ts bg e s t ∧ pm σ N cn ob rq s ∧ pr ts bg M cn ob2 dp rq t ∧ pk k ts bg e σ N M cn ob dp rq T s) : ∃ s1 t1 : uS, fn_X2_next s = some s1 ∧ fn_X12_next t = some t1 ∧ out lnI' lqF s s1 ∧ out rnI (rqP bg) t t1 ∧ ((∃ b1 e1 : Nat, e ≤ b1 ∧ pjo k fr x ts bg b1 e1 σ N M cn ob ob2 dp rq T s1 t1) ∨ ∃ (p : Nat) (s2 : uS), p ≤ x.length ∧ pd T s1 = some (s2, nI (1 + lnc x p)) ∧ out psI psI s1 s2 ∧ fO p t1) := by
  obtain ⟨hl, hm, hr, hk⟩ := h
  obtain ⟨s1, t1, b, e1, h1, h2, h3, h4, h5, h6⟩ := lx_next hl
  refine ⟨s1, t1, h2, h3, h4, h5, ?_⟩
  obtain ⟨m1, m2, m3, m4, m5, m6⟩ := hm
  obtain ⟨r1, r2, r3, r4, r5, r6, r7, r8⟩ := hr
  obtain ⟨k1, k2, k3, k4, k5, k6, k7, k8, k9, k10, k11, k12, k13⟩ := hk
  have hx := hl.1.2.2.1
  have hfr := hl.1.2.2.2.1
  have hI : ∀ f : Nat, s1.I 6 f = s.I 6 f := fun f => h4.2.1 _ _ (by unfold lnI'; omega)
  have hF : ∀ r f : Nat, r = 14 ∨ r = 15 → s1.F r f = s.F r f := fun r f h => h4.2.2 _ _ (by unfold lqF; omega)
  have hJ : ∀ f : Nat, 41 ≤ f → t1.I 1079 f = t.I 1079 f := fun f h => h5.2.1 _ _ (by unfold rnI; omega)
  have hG : ∀ r f : Nat, 1098 ≤ r → t1.F r f = t.F r f := fun r f h => h5.2.2 _ _ (by unfold rqP; omega)
  have hP : ∀ f : Nat, f < bg → t1.F 1097 f = t.F 1097 f := fun f h => h5.2.2 _ _ (by unfold rqP; omega)
  have hs : stk s1 σ := m2.fr (fun i hi => ⟨hF 14 i (Or.inl rfl), hF 15 i (Or.inr rfl)⟩)
  have ls : lsO t1 := fun n hn => by rw [hG 1099 n (by omega), hG 1100 n (by omega)]; exact r8 n hn
  have fine : tkf k fr x ts bg b e1 s1 t1 → (∃ b1 e1 : Nat, e ≤ b1 ∧ pjo k fr x ts bg b1 e1 σ N M cn ob ob2 dp rq T s1 t1) ∨ ∃ (p : Nat) (s2 : uS), p ≤ x.length ∧ pd T s1 = some (s2, nI (1 + lnc x p)) ∧ out psI psI s1 s2 ∧ fO p t1 := by
    intro z
    refine Or.inl ⟨b, e1, h1, z, ⟨(hI 5).trans m1, hs, (hI 2).trans m3, (hI 6).trans m4, (hI 7).trans m5, (hI 8).trans m6⟩, ⟨(hJ _ (by omega)).trans r1, (hJ _ (by omega)).trans r2, (hJ _ (by omega)).trans r3, (hJ _ (by omega)).trans r4, (hJ _ (by omega)).trans r5, (hJ _ (by omega)).trans r6, r7.out (fun j hj => ⟨hG 1116 j (by omega), hG 1117 j (by omega)⟩) hP, ls⟩, ?_, k2, k3, by omega, k5, k6, k7, k8, k9, k10, k11, k12, by omega⟩
    have : uCl s1 k = uCl s k := by unfold uCl; rw [h4.1.1]
    rw [this]; exact k1
  rcases h6 with z | z | z | z | z | z | z
  · exact fine (Or.inl z)
  · exact fine (Or.inr (Or.inl z))
  · exact fine (Or.inr (Or.inr (Or.inl z)))
  · exact fine (Or.inr (Or.inr (Or.inr (Or.inl z))))
  · exact fine (Or.inr (Or.inr (Or.inr (Or.inr (Or.inl z)))))
  · exact fine (Or.inr (Or.inr (Or.inr (Or.inr (Or.inr z)))))
  · obtain ⟨b1, b2, b3, b4, b5, b6, b7, b8⟩ := z
    refine Or.inr ⟨b, ?_⟩
    have hfo : fO b t1 := ⟨by omega, b6, ⟨M, by omega, (hJ _ (by omega)).trans r1⟩, ls⟩
    rcases b8 with z | ⟨z1, z2, z3, z4, z5⟩
    · refine ⟨s1, b1, ?_, out_r, hfo⟩
      unfold pd pD4 fb_X4_parse_46 fb_X4_parse_84
      rw [if_pos z, c_lineAt b2 b3 b4 b5 b1 hx, Option.bind_some]
    · obtain ⟨s2, q1, q2⟩ := text_ref (k := k) (fr := fr) (x := x) (b := b) (e := e1) σ (999999 - T) T s1 (by omega) k6 hs ((hI 5).trans m1) ⟨N, by omega, (hI 2).trans m3⟩ (by omega) (by omega) ⟨z1, z3, by omega, z4, b5, z5, k2⟩
      exact ⟨s2, b1, q1, q2, hfo⟩
theorem pj_go2 {k fr : Nat} {x : List Nat} {ts : List (List Nat)} {bg b e : Nat} {σ σ1 : List (Nat × Nat)} {N M cn ob dp rq N1 M1 cn1 ob1 ob2 dp1 rq1 T : Nat} {s t S U : uS} {G : uS → Nat → uS → Prop} (h : pj k fr x ts bg b e σ N M cn ob dp rq T s t) (hq : s.I 7 2 ≠ 3) (hbe : b < e) (o : out cnI cnF s S) (q : ol rnJ rnK rNo t U) (hm : pm σ1 N1 cn1 ob1 rq1 S) (hr : pr ts bg M1 cn1 ob2 dp1 rq1 U) (hσ : σ1.length ≤ σ.length + 3) (hσ2 : σ1.length ≤ 90) (hv : stV σ1) (hN : N1 ≤ 9 + 3 * cn1) (hM : M1 ≤ 9 + 3 * cn1) (hcn : cn1 ≤ 100) (hob : ob1 ≤ 8) (hdp : dp1 ≤ 8) (hrq : rq1 < 256) (g : ∀ (s1 t1 : uS) (b1 e1 : Nat), e ≤ b1 → out lnI' lqF S s1 → out rnI (rqP bg) U t1 → pjo k fr x ts bg b1 e1 σ1 N1 M1 cn1 ob1 ob2 dp1 rq1 (T + 1) s1 t1 → G s1 (T + 1) t1) : RU x s t (fn_X4_parse_13 (999999 - T) 1 (nI T + 1) S) (fn_X12_next U) G := by
  have hl := h.nq hq
  have hT := h.bl.2.1
  rw [K_take hT]
  obtain ⟨k1, k2, k3, k4, k5, k6, k7, k8, k9, k10, k11, k12, k13⟩ := h.2.2.2
  obtain ⟨s1, t1, a1, a2, a3, a4, a5⟩ := go2 (T := T + 1) ⟨hl.o o q, hm, hr, by unfold uCl; rw [o.1.1]; exact k1, k2, k3, by omega, hσ2, hv, hN, hM, hcn, hob, hdp, hrq, by omega⟩
  rw [a1, Option.bind_some, a2]
  rcases a5 with ⟨b1, e1, c1, c2⟩ | ⟨p, s2, c1, c2, c3, c4⟩
  · exact Or.inr ⟨T + 1, s1, t1, rfl, rfl, out_t (cn_ps o) (ln_ps a3), ol_t (rn_rd q) (rq_rd a4), g s1 t1 b1 e1 c1 a3 a4 c2⟩
  · exact Or.inl ⟨p, s2, c1, c2, out_t (cn_ps o) (out_t (ln_ps a3) c3), t1, rfl, c4, ol_t (rn_rd q) (rq_rd a4)⟩
theorem r_nd1 {ts : List (List Nat)} {bg M cn ob dp rq : Nat} {U : uS} (hr : pr ts bg M cn ob dp rq U) (hM : M < 519) (κ : Int32) : ∃ V : uS, fn_X12_node κ U = some (V, nI M) ∧ out rndI (rndF M) U V ∧ pr ts bg (M + 1) cn ob dp rq V ∧ nodR M κ V := by
  obtain ⟨r1, r2, r3, r4, r5, r6, r7, r8⟩ := hr
  obtain ⟨V, v1, v2, v3, v4⟩ := r_node (κ := κ) r1 hM
  have i : ∀ f : Nat, f ≠ 41 → V.I 1079 f = U.I 1079 f := fun f hf => v3.2.1 _ _ (by unfold rndI; omega)
  have g : ∀ r f : Nat, f ≠ M ∨ 1115 < r ∨ r < 1098 → V.F r f = U.F r f := fun r f hf => v3.2.2 _ _ (by unfold rndF; omega)
  refine ⟨V, v1, v3, ⟨v2, (i _ (by omega)).trans r2, (i _ (by omega)).trans r3, (i _ (by omega)).trans r4, (i _ (by omega)).trans r5, (i _ (by omega)).trans r6, r7.out (fun j hj => ⟨g _ _ (by omega), g _ _ (by omega)⟩) (fun j hj => g _ _ (by omega)), fun n hn => ?_⟩, v4⟩
  by_cases z : n = M
  · rw [z]; exact Or.inl v4.2.1
  · rw [g 1099 n (Or.inl z), g 1100 n (Or.inl z)]; exact r8 n hn
theorem nd_rn {M : Nat} {t t1 : uS} (h : out rndI (rndF M) t t1) : ol rnJ rnK rNo t t1 := ol_out (out_w h (fun k f z => by unfold rndI at z; unfold rnJ; omega) (fun k f z => by unfold rndF at z; unfold rnK; omega))
theorem nd_tr {M j bg : Nat} {t t1 : uS} (h : out rndI (rndF M) t t1) : ol trI (trF M j bg) rNo t t1 := ol_out (out_w h (fun k f z => by unfold rndI at z; unfold trI; omega) (fun k f z => by unfold rndF at z; unfold trF; omega))
theorem pr.ob {ts : List (List Nat)} {bg M cn ob ob1 dp rq : Nat} {t : uS} {v : Int32} (h : pr ts bg M cn ob dp rq t) (hv : v = nI ob1) : pr ts bg M cn ob1 dp rq (wI t 1079 65 v) := by
  obtain ⟨r1, r2, r3, r4, r5, r6, r7, r8⟩ := h
  exact ⟨(wI_o (by omega)).trans r1, (wI_o (by omega)).trans r2, (wI_e _ _ _ _).trans hv, (wI_o (by omega)).trans r4, (wI_o (by omega)).trans r5, (wI_o (by omega)).trans r6, r7.out (fun _ _ => ⟨rfl, rfl⟩) (fun _ _ => rfl), r8⟩
def cnG (P n0 M j bg k f : Nat) : Prop := trF M j bg k f ∨ ptF P n0 M k f
def cmG (k fr : Nat) (x : List Nat) (ts : List (List Nat)) (bg b : Nat) (σ : List (Nat × Nat)) (N M cn ob dp rq B P i0 n0 u : Nat) (s t : uS) (s1 : uS) (T1 : Nat) (t1 : uS) : Prop := ∃ (news : List (List Nat)) (bg1 b1 e1 N1 M1 cn1 : Nat), bg ≤ bg1 ∧ b ≤ b1 ∧ cn ≤ cn1 ∧ N1 + 3 * cn ≤ N + 3 * cn1 ∧ M1 + 3 * cn ≤ M + 3 * cn1 ∧ N ≤ N1 ∧ M ≤ M1 ∧ pj k fr x (ts ++ news) bg1 b1 e1 σ N1 M1 cn1 ob dp rq T1 s1 t1 ∧ s1.I 7 2 ≠ 0 ∧ hdC (fun t => cnR B (ts ++ news) s1 t) t1 P i0 N1 n0 M1 u (ts ++ news).length ∧ out (tsI N) (tsF N) s s1 ∧ ol trI (cnG P n0 M ts.length bg) rNo t t1 ∧ acN s1 N N1 + cn ≤ cn1
theorem pd_c {k fr : Nat} {x : List Nat} {ts : List (List Nat)} {bg b e : Nat} {τ : Nat × Nat} {σ : List (Nat × Nat)} {N M cn ob dp rq T : Nat} {s t : uS} (hτ : τ = (1, 0) ∨ ∃ i : Nat, τ = (3, i)) (h : pj k fr x ts bg b e (τ :: σ) N M cn ob dp rq T s t) (h0 : s.I 7 2 = 0) : pd T s = ((fn_X4_startCommand s).bind fun r => fn_X4_parse_13 (999999 - T) r.2 (nI T + 1) r.1) := by
  rcases hτ with z | ⟨i, z⟩
  · subst z
    rw [pd_1 h, if_neg (by rw [h0]; decide)]
  · subst z
    rw [pd_3 h]
    obtain ⟨v, w1, w2, w3⟩ := h.sg (c := 125) (by decide)
    rw [show fn_X2_isSign 125 s = some v from w1, Option.bind_some]
    cases v with
    | true => have := (w3 rfl).1; rw [h0] at this; exact absurd this (by decide)
    | false => rw [if_neg (by decide)]
theorem cnR.up {B : Nat} {ts more : List (List Nat)} {s t s1 t1 : uS} {i j n m u w N1 M1 J A : Nat} (h : cnR B ts s t i j n m u w) (hj : j ≤ N1) (hm : m ≤ M1) (hN : N1 < 400) (o : out (tsI N1) (tsF N1) s s1) (q : ol trI (trF M1 J A) rNo t t1) : cnR B (ts ++ more) s1 t1 i j n m u w := by
  refine h.fr (fun k a b => ⟨fun f => ?_, fun f => ?_, fun f => ?_⟩) (fun r f c1 c2 c3 c4 c5 => q.2.2.1 _ _ (by unfold trF; omega))
  · exact o.2.1 _ _ (by unfold tsI; omega)
  · exact o.2.2 _ _ (by unfold tsF; omega)
  · exact o.2.2 _ _ (by unfold tsF; omega)
theorem cms_s {R : uS → Option (uS × Int32)} {n : Nat} {a : Int32} {t : uS} : fn_X12_commands_0 R (n + 1) a t = fb_X12_commands_0 R (fn_X12_commands_0 R n) a t := rfl
theorem p_cmds {k fr : Nat} {x : List Nat} {B ob rq : Nat} {τ : Nat × Nat} {σ : List (Nat × Nat)} {R : uS → Option (uS × Int32)} (hτ : τ = (1, 0) ∨ ∃ i : Nat, τ = (3, i)) (pc : ∀ (ts : List (List Nat)) (bg b e N M cn T : Nat) (s t : uS), pj k fr x ts bg b e (τ :: σ) N M cn ob 0 rq T s t → RV x s t ((fn_X4_startCommand s).bind fun r => fn_X4_parse_13 (999999 - T) r.2 (nI T + 1) r.1) (R t) (cdG k fr x ts bg b (τ :: σ) N M cn ob 0 rq B s t)) {P i0 n0 u : Nat} (hP : P < n0) : ∀ (m fu : Nat) (ts : List (List Nat)) (bg b e N M cn T : Nat) (s t : uS), x.length + 1 ≤ m + b → m + 2 ≤ fu → i0 ≤ N → n0 ≤ M → pj k fr x ts bg b e (τ :: σ) N M cn ob 0 rq T s t → hdC (fun t => cnR B ts s t) t P i0 N n0 M u ts.length → RU x s t (pd T s) (fn_X12_commands_0 R fu (nI P) t) (cmG k fr x ts bg b (τ :: σ) N M cn ob 0 rq B P i0 n0 u s t) := by
  intro m
  induction m using Nat.strongRecOn with
  | ind m im =>
    intro fu ts bg b e N M cn T s t hm hfu hi0 hn0 h hh
    obtain ⟨k1, k2, k3, k4, k5, k6, k7, k8, k9, k10, k11, k12, k13⟩ := h.2.2.2
    have hbl := h.bl
    obtain ⟨fu2, rfl⟩ : ∃ fu2 : Nat, fu = fu2 + 2 := ⟨fu - 2, by omega⟩
    rw [cms_s]
    unfold fb_X12_commands_0
    rw [show fn_X12_is 1 t = some (decide (s.I 7 2 = nI 0)) from h.is (c := 0) (by decide), Option.bind_some]
    by_cases z : s.I 7 2 = 0
    · rw [decide_eq_true (show s.I 7 2 = nI 0 from z), if_pos rfl, pd_c hτ h z]
      refine (pc ts bg b e N M cn T s t h).vu (fun p t1 v hv y => (y.pt (by omega) hv).uu fun t2 y2 => y2.cm0) ?_
      rintro s1 T1 t1 v - - ⟨rfl, new1, bg1, b1, e1, N2, M2, cn2, a1, a2, a3, a4, a5, a6, a7, a8, a9, a10, a11⟩
      have hlt := a7.lt
      obtain ⟨g1, g2, g3, g4, g5, g6, g7, g8, g9, g10, g11, g12, g13⟩ := a6.2.2.2
      have hh1 : hdC (fun t => cnR B (ts ++ new1) s1 t) t1 P i0 N n0 v u ts.length := by
        refine hh.fr frP_cm ?_ (a10.2.2.1 _ _ (by unfold trF; omega)) (a10.2.2.1 _ _ (by unfold trF; omega)) (fun f c1 c2 => a10.2.2.1 _ _ (by unfold trF; omega))
        intro i' j' n' m' u' w' c1 c2 c3 c4 y
        exact cnR.up y c2 c4 (by omega) a9 a10
      obtain ⟨t2, p1, p2, p3, p4⟩ := hh1.put frP_cm hP (by omega) a7 a8 a6.2.2.1.2.2.2.2.2.2.2
      have a6' := a6.pt p3 p4
      dsimp only
      rw [p1, Option.bind_some]
      refine RU.pre (s := s1) (t := t2) ?_ out_r (ol_w p3 (fun _ _ z => z.elim) (fun k f z => by unfold ptF at z; unfold rdF; omega) (fun _ _ z => z))
      refine (im (m - 1) (by omega) (fu2 + 1) (ts ++ new1) bg1 b1 e1 N2 M2 cn2 T1 s1 t2 (by omega) (by omega) (by omega) (by omega) a6' (Or.inr p2)).w ?_
      rintro s3 T3 t3 ⟨news, bg3, b3, e3, N3, M3, cn3, c1, c2, c3, c4, c5, c6, c7, c8, c9, c10, c11, c12, c13⟩
      refine ⟨new1 ++ news, bg3, b3, e3, N3, M3, cn3, by omega, by omega, by omega, by omega, by omega, by omega, by omega, ?_, c9, ?_, out_t a9 (ts_m c11 (by omega)), ol_t (ol_t (ol_w a10 (fun _ _ z => z) (fun k f z => Or.inl z) (fun _ _ z => z)) (ol_w p3 (fun _ _ z => z.elim) (fun k f z => Or.inr z) (fun _ _ z => z))) (ol_w c12 (fun _ _ z => z) (fun k f z => by rw [List.length_append] at z; unfold cnG trF ptF at *; omega) (fun _ _ z => z)), ?_⟩
      · rw [← List.append_assoc]; exact c8
      · rw [← List.append_assoc]; exact c10
      · rw [acN_sp (b := N2) (by omega) (by omega), acN_c (s := s1) (s1 := s3) (a := N) (b := N2) (fun k _ h2 => c11.2.1 _ _ (by unfold tsI; omega))]; omega
    · rw [decide_eq_false (show ¬ s.I 7 2 = nI 0 from z), if_neg (by decide)]
      refine RU.ret ⟨[], bg, b, e, N, M, cn, Nat.le_refl _, Nat.le_refl _, Nat.le_refl _, Nat.le_refl _, Nat.le_refl _, Nat.le_refl _, Nat.le_refl _, by rw [List.append_nil]; exact h, z, by rw [List.append_nil]; exact hh, out_r, ol_r, by rw [acN_z (Nat.le_refl _)]; omega⟩
