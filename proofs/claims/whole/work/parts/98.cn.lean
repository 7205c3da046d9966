/-! lists of strings on both sides -/
def lstG (k fr : Nat) (x : List Nat) (ts : List (List Nat)) (bg e : Nat) (σ : List (Nat × Nat)) (N M cn ob dp rq i l a g : Nat) (s t : uS) (s1 : uS) (T1 : Nat) (t1 : uS) (v : Nat) : Prop := ∃ (news : List (List Nat)) (b1 e1 bg1 : Nat), v = a + news.length ∧ 1 ≤ news.length ∧ v ≤ 10 ∧ bg ≤ bg1 ∧ e ≤ b1 ∧ pj k fr x (ts ++ news) bg1 b1 e1 σ N M cn ob dp rq T1 s1 t1 ∧ out (cLI i l) (cLF i l) s s1 ∧ ol rLI (rLF ts.length bg) rNo t t1 ∧ s1.F (18 + 3 * i) l = nI v ∧ s1.F (17 + 3 * i) l = (if a = 0 then nI ts.length else s.F (17 + 3 * i) l) ∧ s1.I (16 + 3 * i) 11 = nI (flL l g news) ∧ flL l g news < 32
theorem flL_cons {l g : Nat} {w : List Nat} {ws : List (List Nat)} : flL l g (w :: ws) = flL l (flL l g [w]) ws := by
  unfold flL
  by_cases h : l = 2
  · rw [if_pos h, if_pos h, if_pos h]; rfl
  · rw [if_neg h, if_neg h, if_neg h]
theorem ol_rL {j bg j1 bg1 : Nat} {t t1 : uS} (h : ol rLI (rLF j1 bg1) rNo t t1) (a : j ≤ j1) (c : bg ≤ bg1) : ol rLI (rLF j bg) rNo t t1 := ol_w h (fun _ _ z => z) (fun k f z => by unfold rLF at *; omega) (fun _ _ z => z)
theorem ln_cL {i l : Nat} {s s1 : uS} (h : out lnI' lqF s s1) : out (cLI i l) (cLF i l) s s1 := out_w h (fun k f z => by unfold lnI' at z; unfold cLI; omega) (fun k f z => by unfold lqF at z; unfold cLF; omega)
theorem rq_rL {j bg : Nat} {t t1 : uS} (h : out rnI (rqP bg) t t1) : ol rLI (rLF j bg) rNo t t1 := ol_out (out_w h (fun k f z => by unfold rnI at z; unfold rLI; omega) (fun k f z => by unfold rqP at z; exact Or.inl z))
/-- going on by a sign that both take -/
theorem pj_go {k fr : Nat} {x : List Nat} {ts : List (List Nat)} {bg b e : Nat} {σ σ1 : List (Nat × Nat)} {N M cn ob dp rq N1 M1 cn1 ob1 dp1 rq1 T : Nat} {s t S U : uS} {G : uS → Nat → uS → Prop} (h : pj k fr x ts bg b e σ N M cn ob dp rq T s t) (hq : s.I 7 2 ≠ 3) (hbe : b < e) (o : out cnI cnF s S) (q : ol rnJ rnK rNo t U) (hm : pm σ1 N1 cn1 ob1 rq1 S) (hr : pr ts bg M1 cn1 ob1 dp1 rq1 U) (hσ : σ1.length ≤ σ.length + 3) (hσ2 : σ1.length ≤ 90) (hv : stV σ1) (hN : N1 ≤ 9 + 3 * cn1) (hM : M1 ≤ 9 + 3 * cn1) (hcn : cn1 ≤ 100) (hob : ob1 ≤ 8) (hdp : dp1 ≤ 8) (hrq : rq1 < 256) (g : ∀ (s1 t1 : uS) (b1 e1 : Nat), e ≤ b1 → out lnI' lqF S s1 → out rnI (rqP bg) U t1 → pj k fr x ts bg b1 e1 σ1 N1 M1 cn1 ob1 dp1 rq1 (T + 1) s1 t1 → G s1 (T + 1) t1) : RU x s t (fn_X4_parse_13 (999999 - T) 1 (nI T + 1) S) (fn_X12_next U) G := by
  have hl := h.nq hq
  have hT := h.bl.2.1
  rw [K_take hT]
  refine pb.RU (k := k) (fr := fr) (ts := ts) (bg := bg) (e := e) (σ := σ1) (N := N1) (M := M1) (cn := cn1) (ob := ob1) (dp := dp1) (rq := rq1) ⟨hl.o o q, hm, hr, ?_⟩ (cn_ps o) (rn_rd q) g
  obtain ⟨k1, k2, k3, k4, k5, k6, k7, k8, k9, k10, k11, k12, k13⟩ := h.2.2.2
  exact ⟨by unfold uCl; rw [o.1.1]; exact k1, k2, k3, by omega, hσ2, hv, hN, hM, hcn, hob, hdp, hrq, by omega⟩
theorem p_list0 {k fr : Nat} {x : List Nat} {i l : Nat} (hi : i < 320) (hl : lpl l) {σ : List (Nat × Nat)} (hv : stV ((12, 12 * i + l) :: σ)) (hσ : σ.length ≤ 80) {N M cn ob dp rq : Nat} : ∀ (m a n : Nat) (ts : List (List Nat)) (bg b e T g : Nat) (s t : uS), m + a = 10 → m + 2 ≤ n → pj k fr x ts bg b e ((10, 12 * i + l) :: (12, 12 * i + l) :: σ) N M cn ob dp rq T s t → s.F (18 + 3 * i) l = nI a → s.I (16 + 3 * i) 11 = nI g → g < 32 → RV x s t (pd T s) (fn_X12_list_24 n (nI a) true t) (lstG k fr x ts bg e σ N M cn ob dp rq i l a g s t) := by
  have hl12 : l < 12 := by unfold lpl at hl; omega
  intro m
  induction m using Nat.strongRecOn with
  | _ m ih =>
  intro a n ts bg b e T g s t hm hn h ha hg hg2
  have hp := p_str h hi hl ha (by omega) hg hg2
  rw [pd_10 h]
  obtain ⟨n', rfl⟩ : ∃ n', n = n' + 2 := ⟨n - 2, by omega⟩
  have h4 : fn_X12_is 4 t = some (decide (s.I 7 2 = nI 3)) := h.is (c := 3) (by decide)
  have e1 : fn_X12_list_24 (n' + 2) (nI a) true t = (chk (nI a) t).bind fun t1 => fb_X12_list_57 (fn_X12_list_24 (n' + 1)) (nI a) t1 := by
    show fb_X12_list_24 (fn_X12_list_24 (n' + 1)) (nI a) true t = _
    unfold fb_X12_list_24 chk
    rw [if_pos rfl, h.1.l.2.2.1, if_neg (show ¬ (0 : Int32) ≤ -1 by decide), h4, Option.bind_some, Option.bind_some]
    by_cases q : decide (s.I 7 2 = nI 3) = true
    · rw [if_pos q, if_pos q]
      by_cases r : nI a = 10
      · rw [if_pos r, if_pos r]
      · rw [if_neg r, if_neg r, Option.bind_some]
    · rw [if_neg q, if_neg q, Option.bind_some]
  rw [e1]
  have e2 : ((chk (nI a) t).bind fun t1 => fb_X12_list_57 (fn_X12_list_24 (n' + 1)) (nI a) t1) = ((chk (nI a) t).bind fn_X12_taken).bind fun r1 => (fn_X12_isSign 44 r1.1).bind fun v3 => if v3 = true then ((fn_X12_next r1.1).bind fun s6 => fn_X12_list_24 (n' + 1) (nI a + 1) v3 s6) else (fn_X12_list_24 (n' + 1) (nI a + 1) v3 r1.1) := by
    rw [Option.bind_assoc]; rfl
  rw [e2]
  refine RV.vv hp ?_ ?_
  · intro p t1 v hv h1
    show FV p t1 ((fn_X12_isSign 44 t1).bind _)
    rw [h1.sg, Option.bind_some, if_neg (show ¬ false = true by decide), nI_1]
    exact h1.lL (by omega)
  intro s1 T1 t1 v _ _ hG
  obtain ⟨-, a9, str, b1, e1', w1, h1, w3, w4, w5, w6, w7, w8⟩ := hG
  rw [pd_12 h1]
  unfold fn_X4_moreStrings
  have hm1 := h1.2.1
  have hv1 := h1.2.2.2.2.2.2.2.2.1
  have hlen := h1.2.2.2.2.2.2.2.1
  rw [List.length_cons] at hlen
  obtain ⟨v1, s44, r44, p44⟩ := h1.sg (c := 44) (by decide)
  have s44 : fn_X2_isSign 44 s1 = some v1 := s44
  have r44 : fn_X12_isSign 44 t1 = some v1 := r44
  have k1 := h1.2.2.2
  show RV x s1 t1 _ ((fn_X12_isSign 44 t1).bind _) _
  rw [s44, r44, Option.bind_some, Option.bind_some]
  cases v1 with
  | true =>
    rw [if_pos rfl, if_pos rfl]
    have psh5 : s1.I 6 5 = nI ((12, 12 * i + l) :: σ).length := hm1.1
    rw [c_push psh5 (by rw [List.length_cons]; omega), Option.bind_some, Option.bind_some, nI_1 a]
    have oP : out cnI cnF s1 (psh s1 ((12, 12 * i + l) :: σ).length 10 (nI (12 * i + l))) := psh_o out_r (Or.inl rfl) (Or.inl rfl) (Or.inr (Or.inl rfl))
    refine RU.uv (G := fun s2 T2 t2 => ∃ b2 e2 : Nat, e1' ≤ b2 ∧ out lnI' lqF (psh s1 ((12, 12 * i + l) :: σ).length 10 (nI (12 * i + l))) s2 ∧ out rnI (rqP (bg + str.length)) t1 t2 ∧ pj k fr x (ts ++ [str]) (bg + str.length) b2 e2 ((10, 12 * i + l) :: (12, 12 * i + l) :: σ) N M cn ob dp rq T2 s2 t2) (pj_go h1 (by rw [(p44 rfl).1]; decide) (p44 rfl).2 oP ol_r (pm.psh (a := 10) (c := 12 * i + l) hm1) h1.2.2.1 (by simp only [List.length_cons]; omega) (by simp only [List.length_cons]; omega) (fun p hp => ?_) k1.2.2.2.2.2.2.1 k1.2.2.2.2.2.2.2.1 k1.2.2.2.2.2.2.2.2.1 k1.2.2.2.2.2.2.2.2.2.1 k1.2.2.2.2.2.2.2.2.2.2.1 k1.2.2.2.2.2.2.2.2.2.2.2.1 (fun s2 t2 b2 e2 q1 q2 q3 q4 => ⟨b2, e2, q1, q2, q3, q4⟩)) (fun p t2 h2 => h2.lL (by omega)) ?_
    · rcases List.mem_cons.mp hp with z | z
      · rw [z]; exact ⟨by show 10 ≤ 13; omega, fun z => by have : (10 : Nat) ≤ 9 := z; omega, by show 12 * i + l < 3840; omega⟩
      · exact hv p z
    · rintro s2 T2 t2 - - ⟨b2, e2, q1, q2, q3, q4⟩
      have fA : s2.F (18 + 3 * i) l = nI (a + 1) := by
        rw [q2.2.2 _ _ (by unfold lqF; omega), psh_F (by omega) (by omega)]; exact w5
      have fB : s2.F (17 + 3 * i) l = s1.F (17 + 3 * i) l := by
        rw [q2.2.2 _ _ (by unfold lqF; omega), psh_F (by omega) (by omega)]
      have fC : s2.I (16 + 3 * i) 11 = nI (flL l g [str]) := by
        rw [q2.2.1 _ _ (by unfold lnI'; omega), psh_I (by omega)]; exact w7
      have := ih (m - 1) (by omega) (a + 1) (n' + 1) (ts ++ [str]) (bg + str.length) b2 e2 T2 (flL l g [str]) s2 t2 (by omega) (by omega) q4 fA fC w8
      have o2 : out (cLI i l) (cLF i l) s s2 := out_t w3 (out_t (psh_o out_r (Or.inl ⟨rfl, rfl⟩) (Or.inr (Or.inr (Or.inr (Or.inl rfl)))) (Or.inr (Or.inr (Or.inr (Or.inr (Or.inl rfl)))))) (ln_cL q2))
      have r2 : ol rLI (rLF ts.length bg) rNo t t2 := ol_t w4 (ol_rL (rq_rL (j := ts.length) q3) (Nat.le_refl _) (by omega))
      rcases this with z | ⟨T3, s3, t3, v3, c1, c2, c3, c4, news, b3, e3, bg3, d1, d2, d3, d4, d5, d6, d7, d8, d9, d10, d11, d12⟩
      · exact Or.inl z
      · refine Or.inr ⟨T3, s3, t3, v3, c1, c2, c3, c4, str :: news, b3, e3, bg3, by rw [List.length_cons]; omega, by rw [List.length_cons]; omega, d3, by omega, ?_, ?_, out_t o2 d7, ol_t r2 (ol_rL d8 (by rw [List.length_append]; omega) (by omega)), d9, ?_, ?_, ?_⟩
        · have l1 := h1.1.l
          have l2 := q4.1.l
          omega
        · rw [List.append_assoc] at d6; exact d6
        · rw [d10, if_neg (by omega), fB]; exact w6
        · rw [d11]; exact congrArg nI flL_cons.symm
        · exact flL_cons ▸ d12
  | false =>
    rw [if_neg (show ¬ false = true by decide), if_neg (show ¬ false = true by decide)]
    obtain ⟨v2, s93, r93, p93⟩ := h1.sg (c := 93) (by decide)
    have s93 : fn_X2_isSign 93 s1 = some v2 := s93
    have r93 : fn_X12_isSign 93 t1 = some v2 := r93
    rw [s93, Option.bind_some]
    have e3 : fn_X12_list_24 (n' + 1) (nI a + 1) false t1 = (fn_X12_take 93 t1).bind fun s1 => some (s1, nI (a + 1)) := by
      show fb_X12_list_24 _ _ false t1 = _
      unfold fb_X12_list_24 fb_X12_list_84
      rw [if_neg (show ¬ false = true by decide), nI_1]
    show RV x s1 t1 _ (fn_X12_list_24 (n' + 1) (nI a + 1) false t1) _
    rw [e3]
    unfold fn_X12_take
    rw [r93, Option.bind_some]
    cases v2 with
    | false =>
      rw [if_neg (show ¬ false = true by decide), if_neg (show ¬ false = true by decide), Option.bind_some]
      refine h1.RV out_r ?_
      exact (h1.fl.uu fun t2 h2 => h2.U).uv fun t2 h2 => h2.V (by omega)
    | true =>
      rw [if_pos rfl, if_pos rfl, c_pop hm1, Option.bind_some, Option.bind_some]
      rw [show ((fn_X12_next t1).bind fun s6 => some s6) = fn_X12_next t1 by cases fn_X12_next t1 <;> rfl]
      have oP : out cnI cnF s1 (wI s1 6 5 (nI σ.length)) := out_I out_r (Or.inl rfl)
      refine RU.uv (G := fun s2 T2 t2 => ∃ b2 e2 : Nat, e1' ≤ b2 ∧ out lnI' lqF (wI s1 6 5 (nI σ.length)) s2 ∧ out rnI (rqP (bg + str.length)) t1 t2 ∧ pj k fr x (ts ++ [str]) (bg + str.length) b2 e2 σ N M cn ob dp rq T2 s2 t2) (pj_go h1 (by rw [(p93 rfl).1]; decide) (p93 rfl).2 oP ol_r hm1.pop h1.2.2.1 (by rw [List.length_cons]; omega) (by omega) hv1.tl k1.2.2.2.2.2.2.1 k1.2.2.2.2.2.2.2.1 k1.2.2.2.2.2.2.2.2.1 k1.2.2.2.2.2.2.2.2.2.1 k1.2.2.2.2.2.2.2.2.2.2.1 k1.2.2.2.2.2.2.2.2.2.2.2.1 (fun s2 t2 b2 e2 q1 q2 q3 q4 => ⟨b2, e2, q1, q2, q3, q4⟩)) (fun p t2 h2 => h2.V (by omega)) ?_
      rintro s2 T2 t2 - - ⟨b2, e2, q1, q2, q3, q4⟩
      refine RV.ret ⟨[str], b2, e2, bg + str.length, rfl, Nat.le_refl _, by omega, by omega, ?_, q4, out_t w3 (out_t (out_I out_r (Or.inl ⟨rfl, rfl⟩)) (ln_cL q2)), ol_t w4 (ol_rL (rq_rL (j := ts.length) q3) (Nat.le_refl _) (by omega)), ?_, ?_, ?_, w8⟩
      · have l1 := h1.1.l
        omega
      · rw [q2.2.2 _ _ (by unfold lqF; omega)]; exact w5
      · rw [q2.2.2 _ _ (by unfold lqF; omega)]; exact w6
      · rw [q2.2.1 _ _ (by unfold lnI'; omega), wI_o (by omega)]; exact w7
/-- list() -/
theorem p_list {k fr : Nat} {x : List Nat} {ts : List (List Nat)} {bg b e : Nat} {σ : List (Nat × Nat)} {N M cn ob dp rq T : Nat} {s t : uS} {i l g : Nat} (h : pj k fr x ts bg b e ((11, 12 * i + l) :: σ) N M cn ob dp rq T s t) (hi : i < 320) (hl : lpl l) (hσ : σ.length ≤ 80) (ha : s.F (18 + 3 * i) l = nI 0) (hg : s.I (16 + 3 * i) 11 = nI g) (hg2 : g < 32) : RV x s t (pd T s) (fn_X12_list t) (lstG k fr x ts bg e σ N M cn ob dp rq i l 0 g s t) := by
  have hl12 : l < 12 := by unfold lpl at hl; omega
  have hm := h.2.1
  have hv := h.2.2.2.2.2.2.2.2.1
  have k1 := h.2.2.2
  rw [pd_11 h]
  unfold fn_X12_list
  obtain ⟨v1, s91, r91, p91⟩ := h.sg (c := 91) (by decide)
  have s91 : fn_X2_isSign 91 s = some v1 := s91
  have r91 : fn_X12_isSign 91 t = some v1 := r91
  rw [s91, r91, Option.bind_some, Option.bind_some]
  have hv' : stV ((12, 12 * i + l) :: σ) := by
    intro p hp
    rcases List.mem_cons.mp hp with z | z
    · rw [z]; exact ⟨by show 12 ≤ 13; omega, fun z => by have : (12 : Nat) ≤ 9 := z; omega, by show 12 * i + l < 3840; omega⟩
    · exact hv.tl p z
  cases v1 with
  | true =>
    rw [if_pos rfl, if_pos rfl]
    unfold fn_X4_openList
    rw [hm.h1, c_push (wI_e _ _ _ _) (by omega), Option.bind_some, c_push psh_5 (by omega), Option.bind_some, Option.bind_some]
    have hm2 := pm.psh (a := 10) (c := 12 * i + l) (pm.psh (a := 12) (c := 12 * i + l) hm.pop)
    have oP : out cnI cnF s (psh (psh (wI s 6 5 (nI σ.length)) σ.length 12 (nI (12 * i + l))) (σ.length + 1) 10 (nI (12 * i + l))) := psh_o (psh_o (out_I out_r (Or.inl rfl)) (Or.inl rfl) (Or.inl rfl) (Or.inr (Or.inl rfl))) (Or.inl rfl) (Or.inl rfl) (Or.inr (Or.inl rfl))
    have oQ : out (cLI i l) (cLF i l) s (psh (psh (wI s 6 5 (nI σ.length)) σ.length 12 (nI (12 * i + l))) (σ.length + 1) 10 (nI (12 * i + l))) := psh_o (psh_o (out_I out_r (Or.inl ⟨rfl, rfl⟩)) (Or.inl ⟨rfl, rfl⟩) (Or.inr (Or.inr (Or.inr (Or.inl rfl)))) (Or.inr (Or.inr (Or.inr (Or.inr (Or.inl rfl)))))) (Or.inl ⟨rfl, rfl⟩) (Or.inr (Or.inr (Or.inr (Or.inl rfl)))) (Or.inr (Or.inr (Or.inr (Or.inr (Or.inl rfl)))))
    refine RU.uv (G := fun s2 T2 t2 => ∃ b2 e2 : Nat, e ≤ b2 ∧ out lnI' lqF (psh (psh (wI s 6 5 (nI σ.length)) σ.length 12 (nI (12 * i + l))) (σ.length + 1) 10 (nI (12 * i + l))) s2 ∧ out rnI (rqP bg) t t2 ∧ pj k fr x ts bg b2 e2 ((10, 12 * i + l) :: (12, 12 * i + l) :: σ) N M cn ob dp rq T2 s2 t2) (pj_go h (by rw [(p91 rfl).1]; decide) (p91 rfl).2 oP ol_r hm2 h.2.2.1 (by simp only [List.length_cons]; omega) (by simp only [List.length_cons]; omega) (fun p hp => ?_) k1.2.2.2.2.2.2.1 k1.2.2.2.2.2.2.2.1 k1.2.2.2.2.2.2.2.2.1 k1.2.2.2.2.2.2.2.2.2.1 k1.2.2.2.2.2.2.2.2.2.2.1 k1.2.2.2.2.2.2.2.2.2.2.2.1 (fun s2 t2 b2 e2 q1 q2 q3 q4 => ⟨b2, e2, q1, q2, q3, q4⟩)) (fun p t2 h2 => h2.lL (n := 999999) (x := 0) (by omega)) ?_
    · rcases List.mem_cons.mp hp with z | z
      · rw [z]; exact ⟨by show 10 ≤ 13; omega, fun z => by have : (10 : Nat) ≤ 9 := z; omega, by show 12 * i + l < 3840; omega⟩
      · exact hv' p z
    · rintro s2 T2 t2 - - ⟨b2, e2, q1, q2, q3, q4⟩
      have fA : s2.F (18 + 3 * i) l = nI 0 := by
        rw [q2.2.2 _ _ (by unfold lqF; omega), psh_F (by omega) (by omega), psh_F (by omega) (by omega)]; exact ha
      have fC : s2.I (16 + 3 * i) 11 = nI g := by
        rw [q2.2.1 _ _ (by unfold lnI'; omega), psh_I (by omega), psh_I (by omega), wI_o (by omega)]; exact hg
      have := p_list0 hi hl hv' hσ 10 0 uFu ts bg b2 e2 T2 g s2 t2 (by omega) (by show _ ≤ 1000000; omega) q4 fA fC hg2
      rcases this with z | ⟨T3, s3, t3, v3, c1, c2, c3, c4, news, b3, e3, bg3, d1, d2, d3, d4, d5, d6, d7, d8, d9, d10, d11, d12⟩
      · exact Or.inl z
      · refine Or.inr ⟨T3, s3, t3, v3, c1, c2, c3, c4, news, b3, e3, bg3, d1, d2, d3, d4, ?_, d6, out_t oQ (out_t (ln_cL q2) d7), ol_t (rq_rL q3) d8, d9, ?_, d11, d12⟩
        · have l2 := q4.1.l
          omega
        · rw [d10, if_pos rfl, if_pos rfl]
  | false =>
    rw [if_neg (show ¬ false = true by decide), if_neg (show ¬ false = true by decide)]
    have h4 : fn_X12_is 4 t = some (decide (s.I 7 2 = nI 3)) := h.is (c := 3) (by decide)
    have ch0 : chk (nI 0) t = some t := by
      unfold chk
      rw [h4, Option.bind_some, if_neg (show ¬ nI 0 = 10 by decide), ite_self]
    have h' : pj k fr x ts bg b e ((11, 12 * i + l) :: σ) N M cn ob dp rq T s t := h
    have hp := p_str1 h hi hl ha (by omega) hg hg2
    rw [ch0, Option.bind_some] at hp
    refine RV.vv hp (fun p t1 v hv h1 => h1.V (v := 1) (by omega)) ?_
    intro s1 T1 t1 v _ _ hG
    obtain ⟨-, a9, str, b1, e1', w1, h1, w3, w4, w5, w6, w7, w8⟩ := hG
    refine RV.ret (v := 1) ⟨[str], b1, e1', bg + str.length, rfl, Nat.le_refl _, by omega, by omega, w1, h1, w3, w4, w5, w6, w7, w8⟩
