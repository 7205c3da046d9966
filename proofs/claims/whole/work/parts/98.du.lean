/-! the lists of require on both sides -/
theorem rq_s {n : Nat} {b1 b3 : Bool} {x2 : Int32} {t : uS} : fn_X12_requires_19 (n + 1) b1 x2 b3 t = fb_X12_requires_19 (fn_X12_requires_19 n) b1 x2 b3 t := rfl
theorem fO.r113 {p : Nat} {t : uS} {b1 : Bool} (h : fO p t) : FU p t (fb_X12_requires_113 b1 t) := by
  unfold fb_X12_requires_113
  split
  · exact (h.tk _).uu fun t1 h1 => h1.U
  · exact h.U
theorem fO.rq19 {p n : Nat} {t : uS} {b1 b3 : Bool} {x2 : Int32} (h : fO p t) : FU p t (fn_X12_requires_19 (n + 1) b1 x2 b3 t) := by
  rw [rq_s]
  unfold fb_X12_requires_19
  rw [if_pos h.lt, ite_self]
  exact h.r113
theorem fO.rqk {p n : Nat} {t : uS} {b1 : Bool} {x2 : Int32} (h : fO p t) : FU p t (rqK (fn_X12_requires_19 (n + 1)) b1 x2 t) := by
  unfold rqK fb_X12_requires_101
  simp only [h.sg, Option.bind_some, Bool.false_eq_true, if_false, ite_self]
  exact h.rq19
def rsG (k fr : Nat) (x : List Nat) (ts : List (List Nat)) (bg e : Nat) (σ : List (Nat × Nat)) (N M cn ob dp : Nat) (s t : uS) (s1 : uS) (T1 : Nat) (t1 : uS) : Prop := ∃ (news : List (List Nat)) (rq1 bg1 b1 e1 : Nat), bg ≤ bg1 ∧ e ≤ b1 ∧ pj k fr x (ts ++ news) bg1 b1 e1 σ N M cn ob dp rq1 T1 s1 t1 ∧ out rqJ rqH s s1 ∧ ol rrI (rLF ts.length bg) rNo t t1
theorem ln_rq {s s1 : uS} (h : out lnI' lqF s s1) : out rqJ rqH s s1 := out_w h (fun k f z => by unfold lnI' at z; unfold rqJ; omega) (fun k f z => by unfold lqF at z; unfold rqH; omega)
theorem rq_rr {j bg : Nat} {t t1 : uS} (h : out rnI (rqP bg) t t1) : ol rrI (rLF j bg) rNo t t1 := ol_out (out_w h (fun k f z => by unfold rnI at z; unfold rrI rLI; omega) (fun k f z => by unfold rqP at z; exact Or.inl z))
theorem rr_m {j bg j1 bg1 : Nat} {t t1 : uS} (h : ol rrI (rLF j1 bg1) rNo t t1) (a : j ≤ j1) (c : bg ≤ bg1) : ol rrI (rLF j bg) rNo t t1 := ol_w h (fun _ _ z => z) (fun k f z => by unfold rLF at *; omega) (fun _ _ z => z)
theorem p_rql {k fr : Nat} {x : List Nat} {σ : List (Nat × Nat)} (hv : stV ((12, 11) :: σ)) (hσ : σ.length ≤ 80) {N M cn ob dp : Nat} : ∀ (m a n : Nat) (ts : List (List Nat)) (bg b e T rq : Nat) (s t : uS), m + a = 10 → m + 2 ≤ n → pj k fr x ts bg b e ((10, 11) :: (12, 11) :: σ) N M cn ob dp rq T s t → s.F 18 11 = nI a → RU x s t (pd T s) (fn_X12_requires_19 n true (nI a) true t) (rsG k fr x ts bg e σ N M cn ob dp s t) := by
  intro m
  induction m using Nat.strongRecOn with
  | _ m ih =>
    intro a n ts bg b e T rq s t hm hn h ha
    obtain ⟨k1, k2, k3, k4, k5, k6, k7, k8, k9, k10, k11, k12, k13⟩ := h.2.2.2
    obtain ⟨n2, rfl⟩ : ∃ n2 : Nat, n = n2 + 2 := ⟨n - 2, by omega⟩
    rw [rq_s]
    unfold fb_X12_requires_19
    rw [if_pos rfl, if_neg (by rw [h.1.l.2.2.1]; decide), if_pos rfl, show fn_X12_is 4 t = some (decide (s.I 7 2 = nI 3)) from h.is (c := 3) (by decide), Option.bind_some]
    by_cases c10 : a = 10
    · subst c10
      have ha' : s.F (18 + 3 * 0) 11 = nI 10 := ha
      rw [pd_10 h]
      by_cases c3 : s.I 7 2 = 3
      · rw [decide_eq_true (show s.I 7 2 = nI 3 from c3), if_pos rfl, if_pos (show nI 10 = 10 from rfl)]
        have h83 : s.I 8 3 = nI (ts.length + 1) := by
          obtain ⟨a, str, -, -, g3, -⟩ := h.q c3
          rw [g3.1, List.length_append]; rfl
        have er : fn_X4_takeString (nI 11) s = some (s, 0) := by
          by_cases cl : 300 ≤ ts.length
          · exact c_tkm (i := 0) (l := 11) (by decide) (by decide) c3 h83 cl (by omega)
          · exact c_tk2 (i := 0) (l := 11) (by decide) (by decide) c3 h83 (by omega) ha'
        rw [er, Option.bind_some]
        refine h.RU out_r (h.fl.uu fun t1 h1 => ?_)
        rw [rqS_e]
        exact h1.rqs.uu fun t2 h2 => h2.rqk
      · rw [decide_eq_false (show ¬ s.I 7 2 = nI 3 from c3), if_neg (by decide), show fn_X4_takeString (nI 11) s = some (s, 0) from c_tk0 (i := 0) (l := 11) (by decide) (by decide) c3, Option.bind_some, rqS_e]
        unfold rqS
        refine h.RU out_r (((h.strN (Or.inl c3)).vu fun t1 v hv h1 => ?_).uu fun t2 h2 => h2.rqk)
        rw [if_pos h1.lt]; exact h1.nU
    rw [if_neg (show ¬ nI a = 10 from nI_ne (b := 10) (by omega) (by decide) c10), ite_self, rqS_e, pd_10 h]
    refine (p_req1 h ha (by omega)).uu (fun p t1 z => z.rqk) ?_
    rintro s1 T1 t1 - - ⟨str, rq1, b1, e1, g1, g2, g3, g4, g5⟩
    obtain ⟨l1, l2, l3, l4, l5, l6, l7, l8, l9, l10, l11, l12, l13⟩ := g2.2.2.2
    rw [pd_12 g2]
    unfold fn_X4_moreStrings rqK fb_X12_requires_101
    obtain ⟨vc, w1, w2, w3⟩ := g2.sg (c := 44) (by decide)
    rw [if_pos rfl, show fn_X2_isSign 44 s1 = some vc from w1, show fn_X12_isSign 44 t1 = some vc from w2, Option.bind_some, Option.bind_some, nI_1 a]
    have hbe := h.1.l.2.2.2.2.2
    have hb1 := g2.1.l.2.2.2.2.2
    cases vc with
    | true =>
      obtain ⟨w4, w5⟩ := w3 rfl
      rw [if_pos rfl, if_pos rfl, if_pos rfl, show fn_X4_push 10 (nI 11) s1 = some (psh s1 _ (nI 10) (nI 11)) from c_push g2.2.1.1 (by omega), Option.bind_some, Option.bind_some]
      refine (pj_go (σ1 := (10, 11) :: (12, 11) :: σ) (G := fun s3 T3 t3 => ∃ b3 e3 : Nat, e1 ≤ b3 ∧ out lnI' lqF (psh s1 ((12, 11) :: σ).length (nI 10) (nI 11)) s3 ∧ out rnI (rqP (bg + str.length)) t1 t3 ∧ pj k fr x (ts ++ [str]) (bg + str.length) b3 e3 ((10, 11) :: (12, 11) :: σ) N M cn ob dp rq1 T3 s3 t3) g2 (by rw [w4]; decide) w5 (psh_o out_r (Or.inl rfl) (Or.inl rfl) (Or.inr (Or.inl rfl))) ol_r g2.2.1.psh g2.2.2.1 (by simp only [List.length_cons]; omega) (by simp only [List.length_cons]; omega) (l6.ps (by decide) (by decide) (by decide)) l7 l8 l9 l10 l11 l12 (fun s3 t3 b3 e3 c1 c2 c3 c4 => ⟨b3, e3, c1, c2, c3, c4⟩)).uu (fun p t1 z => z.rq19) ?_
      rintro s3 T3 t3 - - ⟨b3, e3, c1, c2, c3, c4⟩
      have fA : s3.F 18 11 = nI (a + 1) := by
        rw [c2.2.2 _ _ (by unfold lqF; omega), psh_F (by omega) (by omega)]; exact g3
      refine (ih (m - 1) (by omega) (a + 1) (n2 + 1) (ts ++ [str]) (bg + str.length) b3 e3 T3 rq1 s3 t3 (by omega) (by omega) c4 fA).w ?_
      rintro s4 T4 t4 ⟨news, rq4, bg4, b4, e4, d1, d2, d3, d4, d5⟩
      have hb3 := c4.1.l.2.2.2.2.2
      refine ⟨str :: news, rq4, bg4, b4, e4, by omega, by omega, by rw [show ts ++ str :: news = ts ++ [str] ++ news by rw [List.append_assoc]; rfl]; exact d3, out_t g4 (out_t (out_t (psh_o out_r (Or.inl ⟨rfl, Or.inl rfl⟩) (by unfold rqH; omega) (by unfold rqH; omega)) (ln_rq c2)) d4), ol_t g5 (ol_t (rr_m (rq_rr (j := ts.length) c3) (Nat.le_refl _) (by omega)) (rr_m d5 (by rw [List.length_append]; omega) (by omega)))⟩
    | false =>
      rw [if_neg (by decide), if_neg (by decide), if_neg (by decide), rq_s]
      unfold fb_X12_requires_19 fb_X12_requires_113 fn_X12_take
      rw [if_neg (by decide), if_pos rfl]
      obtain ⟨vd, y1, y2, y3⟩ := g2.sg (c := 93) (by decide)
      rw [show fn_X2_isSign 93 s1 = some vd from y1, show fn_X12_isSign 93 t1 = some vd from y2, Option.bind_some, Option.bind_some]
      cases vd with
      | true =>
        obtain ⟨y4, y5⟩ := y3 rfl
        rw [if_pos rfl, if_pos rfl, c_pop g2.2.1, Option.bind_some, Option.bind_some]
        refine ((pj_go (σ1 := σ) (G := rsG k fr x ts bg e σ N M cn ob dp s t) g2 (by rw [y4]; decide) y5 (out_I out_r (Or.inl rfl)) ol_r g2.2.1.pop g2.2.2.1 (by simp only [List.length_cons]; omega) (by simp only [List.length_cons] at l5; omega) l6.tl l7 l8 l9 l10 l11 l12 (fun s3 t3 b3 e3 c1 c2 c3 c4 => ⟨[str], rq1, bg + str.length, b3, e3, by omega, by omega, c4, out_t g4 (out_t (out_I out_r (Or.inl ⟨rfl, Or.inl rfl⟩)) (ln_rq c2)), ol_t g5 (rr_m (rq_rr (j := ts.length) c3) (Nat.le_refl _) (by omega))⟩)).uu (fun p t1 z => z.U) (fun s1 T1 t1 _ _ z => RU.ret z)).uu (fun p t1 z => z.U) (fun s1 T1 t1 _ _ z => RU.ret z)
      | false =>
        rw [if_neg (by decide), if_neg (by decide), Option.bind_some]
        exact g2.RU out_r ((g2.fl.uu fun t1 z => z.U).uu fun t1 z => z.U)
theorem p_reqs {k fr : Nat} {x : List Nat} {ts : List (List Nat)} {bg b e : Nat} {σ : List (Nat × Nat)} {N M cn ob dp rq T : Nat} {s t : uS} (h : pj k fr x ts bg b e ((11, 11) :: σ) N M cn ob dp rq T s t) (hσ : σ.length ≤ 80) (ha : s.F 18 11 = nI 0) : RU x s t (pd T s) (fn_X12_requires t) (rsG k fr x ts bg e σ N M cn ob dp s t) := by
  obtain ⟨k1, k2, k3, k4, k5, k6, k7, k8, k9, k10, k11, k12, k13⟩ := h.2.2.2
  have hm := h.2.1
  rw [pd_11 h]
  unfold fn_X12_requires
  obtain ⟨v1, s91, r91, p91⟩ := h.sg (c := 91) (by decide)
  rw [show fn_X2_isSign 91 s = some v1 from s91, show fn_X12_isSign 91 t = some v1 from r91, Option.bind_some, Option.bind_some]
  have hbe := h.1.l.2.2.2.2.2
  cases v1 with
  | true =>
    rw [if_pos rfl, if_pos rfl]
    unfold fn_X4_openList
    rw [hm.h1, show fn_X4_push 12 (nI 11) (wI s 6 5 (nI σ.length)) = some (psh _ _ (nI 12) (nI 11)) from c_push (wI_e _ _ _ _) (by omega), Option.bind_some, show fn_X4_push 10 (nI 11) (psh (wI s 6 5 (nI σ.length)) σ.length (nI 12) (nI 11)) = some (psh _ _ (nI 10) (nI 11)) from c_push psh_5 (by omega), Option.bind_some, Option.bind_some]
    have hm2 := pm.psh (a := 10) (c := 11) (pm.psh (a := 12) (c := 11) hm.pop)
    have oP : out (fun k f => k = 6 ∧ f = 5) (fun k f => k = 14 ∨ k = 15) s (psh (psh (wI s 6 5 (nI σ.length)) σ.length (nI 12) (nI 11)) (σ.length + 1) (nI 10) (nI 11)) := psh_o (psh_o (out_I out_r ⟨rfl, rfl⟩) ⟨rfl, rfl⟩ (Or.inl rfl) (Or.inr rfl)) ⟨rfl, rfl⟩ (Or.inl rfl) (Or.inr rfl)
    have hv12 : stV ((12, 11) :: σ) := k6.tl.ps (by decide) (by decide) (by decide)
    refine RU.uu (G := fun s2 T2 t2 => ∃ b2 e2 : Nat, e ≤ b2 ∧ out lnI' lqF (psh (psh (wI s 6 5 (nI σ.length)) σ.length (nI 12) (nI 11)) (σ.length + 1) (nI 10) (nI 11)) s2 ∧ out rnI (rqP bg) t t2 ∧ pj k fr x ts bg b2 e2 ((10, 11) :: (12, 11) :: σ) N M cn ob dp rq T2 s2 t2) (pj_go h (by rw [(p91 rfl).1]; decide) (p91 rfl).2 (out_w oP (fun k f z => by unfold cnI; omega) (fun k f z => by unfold cnF; omega)) ol_r hm2 h.2.2.1 (by simp only [List.length_cons]; omega) (by simp only [List.length_cons]; omega) (hv12.ps (by decide) (by decide) (by decide)) k7 k8 k9 k10 k11 k12 (fun s2 t2 b2 e2 q1 q2 q3 q4 => ⟨b2, e2, q1, q2, q3, q4⟩)) (fun p t2 h2 => h2.rq19 (n := 999999)) ?_
    rintro s2 T2 t2 - - ⟨b2, e2, q1, q2, q3, q4⟩
    have fA : s2.F 18 11 = nI 0 := by
      rw [q2.2.2 _ _ (by unfold lqF; omega), psh_F (by omega) (by omega), psh_F (by omega) (by omega)]; exact ha
    refine (p_rql hv12 hσ 10 0 1000000 ts bg b2 e2 T2 rq s2 t2 (by omega) (by omega) q4 fA).w ?_
    rintro s4 T4 t4 ⟨news, rq4, bg4, b4, e4, d1, d2, d3, d4, d5⟩
    have hb2 := q4.1.l.2.2.2.2.2
    exact ⟨news, rq4, bg4, b4, e4, d1, by omega, d3, out_t (out_w oP (fun k f z => by unfold rqJ; omega) (fun k f z => by unfold rqH; omega)) (out_t (ln_rq q2) d4), ol_t (rq_rr q3) d5⟩
  | false =>
    rw [if_neg (by decide), if_neg (by decide), show uFu = 999999 + 1 from rfl, rq_s]
    unfold fb_X12_requires_19
    rw [if_pos rfl, if_neg (by rw [h.1.l.2.2.1]; decide), if_neg (by decide), rqS_e]
    refine (p_req1 h ha (by decide)).uu (fun p t1 z => z.rqk (n := 999998)) ?_
    rintro s1 T1 t1 - - ⟨str, rq1, b1, e1, g1, g2, g3, g4, g5⟩
    exact RU.ret (G := rsG k fr x ts bg e σ N M cn ob dp s t) ⟨[str], rq1, bg + str.length, b1, e1, by omega, g1, g2, g4, g5⟩
