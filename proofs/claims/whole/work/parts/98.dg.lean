/-! several tests on both sides -/
theorem pj.pt {k fr : Nat} {x : List Nat} {ts : List (List Nat)} {bg b e : Nat} {σ : List (Nat × Nat)} {N M cn ob dp rq T : Nat} {s t t2 : uS} {P n0 n1 : Nat} (h : pj k fr x ts bg b e σ N M cn ob dp rq T s t) (q : ol rNo (ptF P n0 n1) rNo t t2) (hl : lsO t2) : pj k fr x ts bg b e σ N M cn ob dp rq T s t2 := by
  obtain ⟨k1, k2, k3, k4, k5, k6, k7, k8, k9, k10, k11, k12, k13⟩ := h.2.2.2
  obtain ⟨r1, r2, r3, r4, r5, r6, r7, r8⟩ := h.2.2.1
  have i : ∀ f : Nat, t2.I 1079 f = t.I 1079 f := fun f => q.2.1 _ _ (by unfold rNo; exact id)
  have g : ∀ r f : Nat, r ≠ 1099 → r ≠ 1100 → r ≠ 1101 → t2.F r f = t.F r f := fun r f _ _ _ => q.2.2.1 _ _ (by unfold ptF; omega)
  exact pj_at h out_r (ol_w q (fun _ _ z => z.elim) (fun k f z => by unfold ptF at z; unfold rnK; omega) (fun _ _ z => z)) h.2.1 ⟨(i _).trans r1, (i _).trans r2, (i _).trans r3, (i _).trans r4, (i _).trans r5, (i _).trans r6, r7.out (fun j _ => ⟨g _ _ (by omega) (by omega) (by omega), g _ _ (by omega) (by omega) (by omega)⟩) (fun j _ => g _ _ (by omega) (by omega) (by omega)), hl⟩ (Nat.le_refl _) k5 k6 k7 k8 k9 k10 k11 k12
def svI (N N1 k f : Nat) : Prop := tsI N1 k f ∨ (k = 16 + 3 * N ∧ f = 3)
def svF (M M1 j bg k f : Nat) : Prop := trF M1 j bg k f ∨ ptF M (M + 1) M1 k f
def svG (k fr : Nat) (x : List Nat) (ts : List (List Nat)) (bg b : Nat) (σ : List (Nat × Nat)) (N N1 M M1 cn1 ob dp rq D u : Nat) (s t : uS) (s1 : uS) (T1 : Nat) (t1 : uS) : Prop := ∃ (news : List (List Nat)) (bg1 b1 e1 N2 M2 cn2 : Nat), bg ≤ bg1 ∧ b < b1 ∧ cn1 < cn2 ∧ N2 + cn1 = N1 + cn2 ∧ M2 + cn1 = M1 + cn2 ∧ pj k fr x (ts ++ news) bg1 b1 e1 σ N2 M2 cn2 ob dp rq T1 s1 t1 ∧ chS (fun t => tsR D s1 t N) t1 M (N + 1) N2 (M + 1) M2 u (ts ++ news).length ∧ s1.I (16 + 3 * N) 3 = nI N2 ∧ out (svI N N1) (tsF N1) s s1 ∧ ol trI (svF M M1 ts.length bg) rNo t t1
theorem svG.w {k fr : Nat} {x : List Nat} {ts new0 : List (List Nat)} {bg b bg' b' : Nat} {σ : List (Nat × Nat)} {N N1 N2 M M1 M2 cn1 cn2 ob dp rq D u : Nat} {s t s0 t0 : uS} {s1 : uS} {T1 : Nat} {t1 : uS} (h : svG k fr x (ts ++ new0) bg' b' σ N N2 M M2 cn2 ob dp rq D u s t s1 T1 t1) (a1 : bg ≤ bg') (a2 : b ≤ b') (a3 : cn1 ≤ cn2) (a4 : N2 + cn1 = N1 + cn2) (a5 : M2 + cn1 = M1 + cn2) (o : out (svI N N1) (tsF N1) s0 s) (q : ol trI (svF M M1 ts.length bg) rNo t0 t) : svG k fr x ts bg b σ N N1 M M1 cn1 ob dp rq D u s0 t0 s1 T1 t1 := by
  obtain ⟨news, bg1, b1, e1, N3, M3, cn3, c1, c2, c3, c4, c5, c6, c7, c8, c9, c10⟩ := h
  refine ⟨new0 ++ news, bg1, b1, e1, N3, M3, cn3, by omega, by omega, by omega, by omega, by omega, ?_, ?_, c8, out_t o (out_w c9 (fun k f z => by unfold svI tsI at *; omega) (fun k f z => by unfold tsF at *; omega)), ol_t q (ol_w c10 (fun _ _ z => z) (fun k f z => by rw [List.length_append] at z; unfold svF trF ptF at *; omega) (fun _ _ z => z))⟩
  · rw [← List.append_assoc]; exact c6
  · rw [← List.append_assoc]; exact c7
theorem tsR.up {D : Nat} {s t s1 t1 : uS} {p i j n m u w N1 M1 J B : Nat} (h : tsR D s t p i j n m u w) (hj : j ≤ N1) (hm : m ≤ M1) (hN : N1 < 400) (o : out (tsI N1) (tsF N1) s s1) (q : ol trI (trF M1 J B) rNo t t1) : tsR D s1 t1 p i j n m u w := by
  refine h.fr (fun k a b => ⟨fun f => ?_, fun f => ?_, fun f => ?_⟩) (fun r f c1 c2 c3 c4 c5 => q.2.2.1 _ _ (by unfold trF; omega))
  · exact o.2.1 _ _ (by unfold tsI; omega)
  · exact o.2.2 _ _ (by unfold tsF; omega)
  · exact o.2.2 _ _ (by unfold tsF; omega)
theorem sv_s {R : uS → Option (uS × Int32)} {n : Nat} {a : Int32} {b : Bool} {t : uS} : fn_X12_several_8 R (n + 1) a b t = fb_X12_several_8 R (fn_X12_several_8 R n) a b t := rfl
theorem p_sev {k fr : Nat} {x : List Nat} {D n : Nat} (ih : ∀ {ts : List (List Nat)} {bg b e : Nat} {σ : List (Nat × Nat)} {N M cn ob dp rq T : Nat} {s t : uS} {p : Nat}, 9 ≤ dp + D → pj k fr x ts bg b e ((5, p) :: σ) N M cn ob dp rq T s t → p < 320 → s.I (16 + 3 * p) 2 = nI dp → σ.length + D ≤ 60 → RV x s t (pd T s) ((fg_0 (n + 1)).1 t) (tsG k fr x ts bg b σ N M cn ob dp rq D p s t)) {σ : List (Nat × Nat)} {N M ob dp rq u : Nat} (hd : 9 ≤ dp + D) (hσ : σ.length + 1 + D ≤ 60) : ∀ (m fu : Nat) (ts : List (List Nat)) (bg b e T N1 M1 cn1 : Nat) (s t : uS), x.length + 1 ≤ m + b → m + 2 ≤ fu → N < N1 → M < M1 → pj k fr x ts bg b e ((5, N) :: (6, N) :: σ) N1 M1 cn1 ob dp rq T s t → s.I (16 + 3 * N) 2 = nI dp → hdC (fun t => tsR D s t N) t M (N + 1) N1 (M + 1) M1 u ts.length → RU x s t (pd T s) (fn_X12_several_8 ((fg_0 (n + 1)).1) fu (nI M) true t) (svG k fr x ts bg b σ N N1 M M1 cn1 ob dp rq D u s t) := by
  intro m
  induction m using Nat.strongRecOn with
  | ind m im =>
    intro fu ts bg b e T N1 M1 cn1 s t hm hfu hN hM h h2 hh
    obtain ⟨k1, k2, k3, k4, k5, k6, k7, k8, k9, k10, k11, k12, k13⟩ := h.2.2.2
    have hbl := h.bl
    have hN1 : N1 < 320 := by omega
    obtain ⟨fu2, rfl⟩ : ∃ fu2 : Nat, fu = fu2 + 2 := ⟨fu - 2, by omega⟩
    rw [sv_s]
    unfold fb_X12_several_8
    rw [if_pos rfl, if_neg (by rw [h.1.l.2.2.1]; decide)]
    refine (ih hd h (by omega) h2 (by simp only [List.length_cons]; omega)).vu (fun p t1 v hv z => ?_) ?_
    · refine (z.pt (by omega) hv).uu fun t2 z2 => ?_
      rw [z2.sg, Option.bind_some, if_neg (by decide)]
      exact z2.sv8
    rintro s1 T1 t1 v o0 q0 ⟨rfl, new1, bg1, b1, e1, N2, M2, cn2, a1, a2, a3, a4, a5, a6, a7, a8, a9, a10⟩
    have hh1 : hdC (fun t => tsR D s1 t N) t1 M (N + 1) N1 (M + 1) v u ts.length := by
      refine hh.fr frP_ts ?_ (a10.2.2.1 _ _ (by unfold trF; omega)) (a10.2.2.1 _ _ (by unfold trF; omega)) (fun f c1 c2 => a10.2.2.1 _ _ (by unfold trF; omega))
      intro i' j' n' m' u' w' c1 c2 c3 c4 z
      exact z.up c2 c4 (by omega) a9 a10
    obtain ⟨g1, g2, g3, g4, g5, g6, g7, g8, g9, g10, g11, g12, g13⟩ := a6.2.2.2
    obtain ⟨t2, p1, p2, p3, p4⟩ := hh1.put frP_ts (by omega) (by omega) a7 a8 a6.2.2.1.2.2.2.2.2.2.2
    have a6' := a6.pt p3 p4
    have hN2 : N2 < 320 := by omega
    rw [p1, Option.bind_some]
    refine RU.pre (s := s1) (t := t2) ?_ out_r (ol_w p3 (fun _ _ z => z.elim) (fun k f z => by unfold ptF at z; unfold rdF; omega) (fun _ _ z => z))
    have oS : out (svI N N1) (tsF N1) s s1 := out_w a9 (fun k f z => Or.inl z) (fun _ _ z => z)
    have qS : ol trI (svF M v ts.length bg) rNo t t2 := ol_t (ol_w a10 (fun _ _ z => z) (fun k f z => Or.inl z) (fun _ _ z => z)) (ol_w p3 (fun _ _ z => z.elim) (fun k f z => Or.inr z) (fun _ _ z => z))
    have h21 : s1.I (16 + 3 * N) 2 = nI dp := (a9.2.1 _ _ (by unfold tsI; omega)).trans h2
    obtain ⟨vc, w1, w2, w3⟩ := a6'.sg (c := 44) (by decide)
    rw [show fn_X12_isSign 44 t2 = some vc from w2, Option.bind_some, pd_6 a6']
    unfold fn_X4_moreTests
    rw [show fn_X2_isSign 44 s1 = some vc from w1, Option.bind_some]
    cases vc with
    | true =>
      obtain ⟨w4, w5⟩ := w3 rfl
      rw [if_pos rfl, if_pos rfl, show fn_X4_push 5 (nI N) s1 = some (psh s1 _ (nI 5) (nI N)) from c_push a6'.2.1.1 (by omega), Option.bind_some, Option.bind_some]
      refine (pj_go (σ1 := (5, N) :: (6, N) :: σ) (G := fun s3 T3 t3 => ∃ b3 e3 : Nat, e1 ≤ b3 ∧ out lnI' lqF (psh s1 ((6, N) :: σ).length (nI 5) (nI N)) s3 ∧ out rnI (rqP bg1) t2 t3 ∧ pj k fr x (ts ++ new1) bg1 b3 e3 ((5, N) :: (6, N) :: σ) N2 M2 cn2 ob dp rq T3 s3 t3) a6' (by rw [w4]; decide) w5 (psh_o out_r (Or.inl rfl) (Or.inl rfl) (Or.inr (Or.inl rfl))) ol_r a6'.2.1.psh a6'.2.2.1 (by simp only [List.length_cons]; omega) (by simp only [List.length_cons]; omega) (g6.ps (by decide) (by omega) (by omega)) g7 g8 g9 g10 g11 g12 (fun s3 t3 b3 e3 c1 c2 c3 c4 => ⟨b3, e3, c1, c2, c3, c4⟩)).uu (fun p t1 z => z.sv8) ?_
      rintro s3 T3 t3 - - ⟨b3, e3, c1, c2, c3, c4⟩
      have o3 : out (tsI N2) (tsF N2) s1 s3 := out_t (psh_o out_r (Or.inl rfl) (by unfold tsF; omega) (by unfold tsF; omega)) (ln_ts c2)
      have q3 : ol trI (trF M2 (ts ++ new1).length bg1) rNo t2 t3 := rq_tr c3
      have hh3 : hdC (fun t => tsR D s3 t N) t3 M (N + 1) N2 (M + 1) M2 u (ts ++ new1).length := by
        refine hdC.fr (R := fun t => tsR D s1 t N) frP_ts (Or.inr p2) ?_ (q3.2.2.1 _ _ (by unfold trF; omega)) (q3.2.2.1 _ _ (by unfold trF; omega)) (fun f c1 c2 => q3.2.2.1 _ _ (by unfold trF; omega))
        intro i' j' n' m' u' w' d1 d2 d3 d4 z
        exact z.up d2 d4 (by omega) o3 q3
      refine (im (m - 1) (by omega) (fu2 + 1) (ts ++ new1) bg1 b3 e3 T3 N2 M2 cn2 s3 t3 (by omega) (by omega) (by omega) (by omega) c4 ((o3.2.1 _ _ (by unfold tsI; omega)).trans h21) hh3).w (fun s4 T4 t4 z => z.w (by omega) (by omega) (by omega) (by omega) (by omega) (out_t oS (out_w o3 (fun k f z => by unfold svI tsI at *; omega) (fun k f z => by unfold tsF at *; omega))) (ol_t qS (ol_w q3 (fun _ _ z => z) (fun k f z => by rw [List.length_append] at z; unfold svF trF ptF at *; omega) (fun _ _ z => z))))
    | false =>
      rw [if_neg (by decide), if_neg (by decide), sv_s]
      unfold fb_X12_several_8 fb_X12_several_46
      rw [if_neg (by decide)]
      obtain ⟨vd, y1, y2, y3⟩ := a6'.sg (c := 41) (by decide)
      unfold fn_X12_take
      rw [show fn_X2_isSign 41 s1 = some vd from y1, show fn_X12_isSign 41 t2 = some vd from y2, Option.bind_some, Option.bind_some]
      cases vd with
      | true =>
        obtain ⟨y4, y5⟩ := y3 rfl
        rw [if_pos rfl, if_pos rfl]
        unfold fn_X4_endTest
        rw [pgt_nod (by omega), Option.bind_some, if_pos (so_nod (by omega)), a6'.2.1.2.2.1]
        have hpm : pm ((6, N) :: σ) N2 cn2 ob rq (wI s1 (16 + 3 * N) 3 (nI N2)) := a6'.2.1.fr (fun f => wI_o (by omega)) (fun _ _ _ => rfl)
        rw [c_pop hpm, Option.bind_some, Option.bind_some]
        have oQ : out (fun k f => (k = 6 ∧ f = 5) ∨ (k = 16 + 3 * N ∧ f = 3)) rNo s1 (wI (wI s1 (16 + 3 * N) 3 (nI N2)) 6 5 (nI σ.length)) := out_I (out_I out_r (Or.inr ⟨rfl, rfl⟩)) (Or.inl ⟨rfl, rfl⟩)
        refine ((pj_go (σ1 := σ) (G := fun s3 T3 t3 => ∃ b3 e3 : Nat, e1 ≤ b3 ∧ out lnI' lqF (wI (wI s1 (16 + 3 * N) 3 (nI N2)) 6 5 (nI σ.length)) s3 ∧ out rnI (rqP bg1) t2 t3 ∧ pj k fr x (ts ++ new1) bg1 b3 e3 σ N2 M2 cn2 ob dp rq T3 s3 t3) a6' (by rw [y4]; decide) y5 (out_w oQ (fun k f z => by unfold cnI; omega) (fun _ _ z => z.elim)) ol_r hpm.pop a6'.2.2.1 (by simp only [List.length_cons]; omega) (by simp only [List.length_cons] at g5; omega) g6.tl g7 g8 g9 g10 g11 g12 (fun s3 t3 b3 e3 c1 c2 c3 c4 => ⟨b3, e3, c1, c2, c3, c4⟩)).uu (fun p t1 z => z.U) (fun s1 T1 t1 _ _ z => RU.ret z)).uu (fun p t1 z => z.U) ?_
        rintro s3 T3 t3 - - ⟨b3, e3, c1, c2, c3, c4⟩
        have o3 : out (fun k f => ((k = 6 ∧ f = 5) ∨ (k = 16 + 3 * N ∧ f = 3)) ∨ lnI' k f) lqF s1 s3 := out_t (out_w oQ (fun _ _ z => Or.inl z) (fun _ _ z => z.elim)) (out_w c2 (fun _ _ z => Or.inr z) (fun _ _ z => z))
        have q3 : ol trI (trF M2 (ts ++ new1).length bg1) rNo t2 t3 := rq_tr c3
        refine RU.ret ⟨new1, bg1, b3, e3, N2, M2, cn2, a1, by omega, a3, a4, a5, c4, ?_, ?_, out_t oS (out_w o3 (fun k f z => by unfold lnI' at z; unfold svI tsI; omega) (fun k f z => by unfold lqF at z; unfold tsF; omega)), ol_t qS (ol_w q3 (fun _ _ z => z) (fun k f z => by rw [List.length_append] at z; unfold svF trF ptF at *; omega) (fun _ _ z => z))⟩
        · have hh3 : hdC (fun t => tsR D s3 t N) t3 M (N + 1) N2 (M + 1) M2 u (ts ++ new1).length := by
            refine hdC.fr (R := fun t => tsR D s1 t N) frP_ts (Or.inr p2) ?_ (q3.2.2.1 _ _ (by unfold trF; omega)) (q3.2.2.1 _ _ (by unfold trF; omega)) (fun f c1 c2 => q3.2.2.1 _ _ (by unfold trF; omega))
            intro i' j' n' m' u' w' d1 d2 d3 d4 z
            refine z.fr (fun k e1 e2 => ⟨fun f => ?_, fun f => ?_, fun f => ?_⟩) (fun r f c1 c2 c3 c4 c5 => q3.2.2.1 _ _ (by unfold trF; omega))
            · exact o3.2.1 _ _ (by unfold lnI'; omega)
            · exact o3.2.2 _ _ (by unfold lqF; omega)
            · exact o3.2.2 _ _ (by unfold lqF; omega)
          rcases hh3 with ⟨z, -⟩ | z
          · have := a7.lt; omega
          · exact z
        · rw [c2.2.1 _ _ (by unfold lnI'; omega), wI_o (by omega), wI_e]
      | false =>
        rw [if_neg (by decide), if_neg (by decide), Option.bind_some]
        exact a6'.RU out_r ((a6'.fl.uu fun t1 z => z.U).uu fun t1 z => z.U)
