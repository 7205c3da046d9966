/-! size on both sides -/
def szF (k _f : Nat) : Prop := k = 9 ∨ k = 10 ∨ k = 11
theorem ln_sz {i : Nat} {s s1 : uS} (h : out lnI' lqF s s1) : out (nfI i) szF s s1 := out_w h (fun k f z => by unfold lnI' at z; unfold nfI; omega) (fun k f z => by unfold lqF at z; unfold szF; omega)
def szG (k fr : Nat) (x : List Nat) (ts : List (List Nat)) (bg b : Nat) (σ : List (Nat × Nat)) (N M cn ob dp rq i n : Nat) (s t : uS) (s1 : uS) (T1 : Nat) (t1 : uS) : Prop := ∃ (b1 e1 d : Nat) (ov : Bool), b ≤ b1 ∧ pj k fr x ts bg b1 e1 σ N M cn ob dp rq T1 s1 t1 ∧ d < 2 ^ 31 ∧ s1.I (16 + 3 * i) 10 = nI d ∧ t1.F 1113 n = nI d ∧ s1.I (16 + 3 * i) 12 = bI ov ∧ t1.F 1109 n = bI ov ∧ out (nfI i) szF s s1 ∧ ol nrI (nrF n ts.length bg) rNo t t1
theorem p_size {k fr : Nat} {x : List Nat} {ts : List (List Nat)} {bg b e : Nat} {σ : List (Nat × Nat)} {N M cn ob dp rq T : Nat} {s t : uS} {i n : Nat} (h : pj k fr x ts bg b e ((8, i) :: (9, i) :: σ) N M cn ob dp rq T s t) (hi : i < 320) (hn : n < 520) (h0 : s.I (16 + 3 * i) 0 = nI 16) (h5 : s.I (16 + 3 * i) 5 = nI 0) : RU x s t (pd T s) (fn_X12_size (nI n) t) (szG k fr x ts bg b σ N M cn ob dp rq i n s t) := by
  have hb := h.bl
  obtain ⟨k1, k2, k3, k4, k5, k6, k7, k8, k9, k10, k11, k12, k13⟩ := h.2.2.2
  have h2 : fn_X12_is 2 t = some (decide (s.I 7 2 = nI 1)) := h.is (c := 1) (by decide)
  have h5l : s.I 6 5 = nI (((8, i) :: (9, i) :: σ).length) := h.2.1.1
  simp only [List.length_cons] at h5l k5
  rw [pd_8 h]
  unfold fn_X12_size fb_X12_size_23 fb_X12_size_46
  by_cases c1 : s.I 7 2 = 1
  · rw [if_pos c1, h2, decide_eq_true (show s.I 7 2 = nI 1 from c1), Option.bind_some, if_pos rfl]
    obtain ⟨hbe, v, v1, v2, v3⟩ := h.tag1 c1
    rw [v3 kW_110 15 tw_110 t ol_r, v3 kW_111 16 tw_111 t ol_r, Option.bind_some]
    simp only [Option.bind_some, if_true, Bool.false_eq_true, if_false]
    by_cases ok : v = 15 ∨ v = 16
    · have eA : (if decide (v = 15) = true then fb_X12_size_54 (nI n) true t else if decide (v = 16) = true then fb_X12_size_54 (nI n) false t else (fn_X12_fail (t.I 1079 32) t).bind fun s1 => fb_X12_size_54 (nI n) false s1) = fb_X12_size_68 (nI n) (decide (v = 15)) (nI n) t := by
        unfold fb_X12_size_54
        rcases ok with z | z
        · rw [z, decide_eq_true (rfl : 15 = 15), if_pos rfl, if_pos rfl]
        · rw [z, decide_eq_false (show ¬ 16 = 15 by decide), if_neg (by decide), decide_eq_true (rfl : 16 = 16), if_pos rfl, if_neg (by decide)]
      rw [eA]
      have hA : fn_X4_takeTag (nI i) s = some (wI (wI s (16 + 3 * i) 5 (nI 512)) (16 + 3 * i) 12 (bI (decide (v = 15))), 1) := by
        have h5W : (tagW s i 16 v 0).I 6 5 = nI (σ.length + 2) := by
          unfold tagW
          rw [if_neg (by omega), if_pos rfl, wI_o (by omega), wI_o (by omega)]; exact h5l
        rw [c_tag hi (show v < 17 by omega) (by decide) (by decide) (by rw [v2, if_neg (by omega)]) h0 h5 h.2.1.2.2.2.2.2 k12, if_neg]
        · rcases ok with z | z
          · rw [z] at h5W ⊢
            rw [c115_15 h5W (by omega)]
            rfl
          · rw [z] at h5W ⊢
            rw [c115_16 h5W (by omega)]
            rfl
        · rcases ok with z | z <;> rw [z] <;> rintro (y | y | y) <;> first | exact absurd y (by decide) | exact y (Nat.and_zero rq) | exact y (by decide)
      rw [hA, Option.bind_some]
      unfold fb_X12_size_68
      rw [p_1109 hn, Option.bind_some]
      have oC : out cnI cnF s (wI (wI s (16 + 3 * i) 5 (nI 512)) (16 + 3 * i) 12 (bI (decide (v = 15)))) := out_I (out_I out_r (Or.inr ⟨by omega, by omega⟩)) (Or.inr ⟨by omega, by omega⟩)
      have hmW : pm ((8, i) :: (9, i) :: σ) N cn ob rq (wI (wI s (16 + 3 * i) 5 (nI 512)) (16 + 3 * i) 12 (bI (decide (v = 15)))) := h.2.1.fr (fun f => (wI_o (by omega)).trans (wI_o (by omega))) (fun _ _ _ => rfl)
      refine RU.uu (G := fun s2 T2 t2 => ∃ b2 e2 : Nat, e ≤ b2 ∧ out lnI' lqF (wI (wI s (16 + 3 * i) 5 (nI 512)) (16 + 3 * i) 12 (bI (decide (v = 15)))) s2 ∧ out rnI (rqP bg) (wF t 1109 n (bI (decide (v = 15)))) t2 ∧ pj k fr x ts bg b2 e2 ((8, i) :: (9, i) :: σ) N M cn ob dp rq T2 s2 t2) (pj_go h (by rw [c1]; decide) hbe oC (ol_F ol_r (Or.inr ⟨by omega, by omega⟩)) hmW (h.2.2.1.wF (by omega)) (by omega) (by simp only [List.length_cons]; omega) k6 k7 k8 k9 k10 k11 k12 (fun s2 t2 b2 e2 q1 q2 q3 q4 => ⟨b2, e2, q1, q2, q3, q4⟩)) (fun p t2 h2 => ?_) ?_
      · rw [h2.is, Option.bind_some, if_neg (show ¬ false = true by decide)]
        exact (h2.fU _).uu fun t3 h3 => h3.sz89 hn
      rintro s2 T2 t2 - - ⟨b2, e2, w1, w2, w3, w4⟩
      have is3 : fn_X12_is 3 t2 = some (decide (s2.I 7 2 = nI 2)) := w4.is (c := 2) (by decide)
      have sI : ∀ f : Nat, s2.I (16 + 3 * i) f = (wI (wI s (16 + 3 * i) 5 (nI 512)) (16 + 3 * i) 12 (bI (decide (v = 15)))).I (16 + 3 * i) f := fun f => w2.2.1 _ _ (by unfold lnI'; omega)
      have s0 : s2.I (16 + 3 * i) 0 = nI 16 := by rw [sI, wI_o (by omega), wI_o (by omega)]; exact h0
      have s5 : s2.I (16 + 3 * i) 5 = nI 512 := by rw [sI, wI_o (by omega), wI_e]
      have s12 : s2.I (16 + 3 * i) 12 = bI (decide (v = 15)) := by rw [sI, wI_e]
      have kk := w4.2.2.2
      obtain ⟨kk1, kk2, kk3, kk4, kk5, kk6, kk7, kk8, kk9, kk10, kk11, kk12, kk13⟩ := w4.2.2.2
      rw [pd_8 w4, is3, Option.bind_some]
      by_cases c2 : s2.I 7 2 = 1
      · -- another tag
        rw [if_pos c2, decide_eq_false (show ¬ s2.I 7 2 = nI 2 by rw [c2]; decide), if_neg (show ¬ false = true by decide)]
        obtain ⟨-, v', v1', v2', -⟩ := w4.tag1 c2
        have hR : fn_X4_takeTag (nI i) s2 = some (s2, 0) := by
          by_cases q : v' = 17
          · exact c_tagN hi (by rw [v2', if_pos q])
          · rw [c_tag hi (show v' < 17 by omega) (by decide) (by decide) (by rw [v2', if_neg q]) s0 s5 w4.2.1.2.2.2.2.2 k12, if_pos]
            have key : ∀ a : Fin 17, TKn.getD 16 0 &&& TGn.getD a.1 0 = 0 ∨ ¬ 512 &&& TGn.getD a.1 0 = 0 := by decide
            rcases key ⟨v', by omega⟩ with z | z
            · exact Or.inl z
            · exact Or.inr (Or.inl z)
        rw [hR, Option.bind_some]
        exact w4.RU out_r (w4.fl.uu fun t3 h3 => h3.sz89 hn)
      · rw [if_neg c2, c_pop w4.2.1, Option.bind_some]
        show RU x s2 t2 (fn_X4_parse_13 (999999 - T2) 2 (nI T2 + 1) (wI s2 6 5 (nI ((9, i) :: σ).length))) _ _
        rw [K_pass w4.bl.2.1]
        have w5 := w4.pop
        rw [pd_9 w5]
        by_cases c3 : s2.I 7 2 = 2
        · rw [decide_eq_true (show s2.I 7 2 = nI 2 from c3), if_pos rfl]
          have c3' : (wI s2 6 5 (nI ((9, i) :: σ).length)).I 7 2 = 2 := (wI_o (by omega)).trans c3
          obtain ⟨nbe, d, d1, d2, d3⟩ := w5.num c3'
          rw [c_nmb hi w5.2.1 c3' (Or.inr (by rw [wI_o (by omega), s5]; decide)), Option.bind_some, d2]
          unfold fb_X12_size_89
          rw [p_1113 hn, Option.bind_some, d3]
          rw [show ∀ A : Option uS, (A.bind fun s3 => some s3) = A from fun A => by cases A <;> rfl]
          have hm2 : pm ((9, i) :: σ) N cn ob rq (wI (wI s2 6 5 (nI ((9, i) :: σ).length)) (16 + 3 * i) 10 (nI d)) := w5.2.1.fr (fun f => wI_o (by omega)) (fun _ _ _ => rfl)
          simp only [List.length_cons] at kk5
          refine RU.pre (s := wI s2 6 5 (nI ((9, i) :: σ).length)) (pj_go w5 (by rw [c3']; decide) nbe (out_I (out_I out_r (Or.inr ⟨by omega, by omega⟩)) (Or.inl rfl)) (ol_F ol_r (Or.inr ⟨by omega, by omega⟩)) hm2.pop (w5.2.2.1.wF (by omega)) (by simp only [List.length_cons]; omega) (by omega) kk6.tl.tl kk7 kk8 kk9 kk10 kk11 kk12 ?_) (out_I out_r ⟨by omega, by omega⟩) ol_r
          intro s3 t3 b3 e3 y1 y2 y3 y4
          have l1 := h.1.l
          have l2 := w4.1.l
          refine ⟨b3, e3, d, decide (v = 15), by omega, y4, d1, ?_, ?_, ?_, ?_, ?_, ?_⟩
          · rw [y2.2.1 _ _ (by unfold lnI'; omega), wI_o (by omega), wI_e]
          · rw [y3.2.2 _ _ (by unfold rqP; omega), wF_e]
          · rw [y2.2.1 _ _ (by unfold lnI'; omega), wI_o (by omega), wI_o (by omega), wI_o (by omega)]; exact s12
          · rw [y3.2.2 _ _ (by unfold rqP; omega), wF_o (by omega), w3.2.2 _ _ (by unfold rqP; omega), wF_e]
          · have o1 : out (nfI i) szF s s2 := out_t (out_I (out_I out_r (Or.inr (Or.inr (Or.inr ⟨rfl, by omega⟩)))) (Or.inr (Or.inr (Or.inr ⟨rfl, by omega⟩)))) (ln_sz w2)
            exact out_t (out_I (out_I (out_I o1 (Or.inl ⟨rfl, rfl⟩)) (Or.inr (Or.inr (Or.inr ⟨rfl, by omega⟩)))) (Or.inl ⟨rfl, rfl⟩)) (ln_sz y2)
          · have q1 : ol nrI (nrF n ts.length bg) rNo t t2 := ol_t (ol_F ol_r (Or.inr (Or.inl ⟨by omega, rfl⟩))) (rL_nr (rq_rL (j := ts.length) w3) (Nat.le_refl _) (Nat.le_refl _))
            exact ol_t (ol_F q1 (Or.inr (Or.inl ⟨by omega, rfl⟩))) (rL_nr (rq_rL (j := ts.length) y3) (Nat.le_refl _) (Nat.le_refl _))
        · rw [decide_eq_false (show ¬ s2.I 7 2 = nI 2 from c3), if_neg (show ¬ false = true by decide), c_nmbN hi (Or.inl (by rw [wI_o (by omega)]; exact c3)), Option.bind_some]
          exact RU.pre (w5.RU out_r (w5.fl.uu fun t3 h3 => h3.sz89 hn)) (out_I out_r ⟨by omega, by omega⟩) ol_r
    · have n15 : ¬ v = 15 := fun z => ok (Or.inl z)
      have n16 : ¬ v = 16 := fun z => ok (Or.inr z)
      rw [decide_eq_false n15, if_neg (by decide), decide_eq_false n16, if_neg (by decide)]
      have hR : fn_X4_takeTag (nI i) s = some (s, 0) := by
        by_cases q : v = 17
        · exact c_tagN hi (by rw [v2, if_pos q])
        · rw [c_tag hi (show v < 17 by omega) (by decide) (by decide) (by rw [v2, if_neg q]) h0 h5 h.2.1.2.2.2.2.2 k12, if_pos]
          have key : ∀ a : Fin 17, a.1 ≠ 15 → a.1 ≠ 16 → TKn.getD 16 0 &&& TGn.getD a.1 0 = 0 := by decide
          exact Or.inl (key ⟨v, by omega⟩ n15 n16)
      rw [hR, Option.bind_some]
      exact h.RU out_r (h.fl.uu fun t1 h1 => h1.sz54 hn)
  · rw [if_neg c1, h2, decide_eq_false (show ¬ s.I 7 2 = nI 1 from c1), Option.bind_some, if_neg (show ¬ false = true by decide), if_neg (show ¬ false = true by decide), Option.bind_some, if_neg (show ¬ false = true by decide), c_pop h.2.1, Option.bind_some]
    show RU x s t (fn_X4_parse_13 (999999 - T) 2 (nI T + 1) (wI s 6 5 (nI ((9, i) :: σ).length))) _ _
    rw [K_pass hb.2.1]
    have w5 := h.pop
    rw [pd_9 w5, c_nmbN hi, Option.bind_some]
    · exact RU.pre (w5.RU out_r (w5.fl.uu fun t3 h3 => h3.sz54 hn)) (out_I out_r ⟨by omega, by omega⟩) ol_r
    · right
      rw [wI_o (by omega), wI_o (by omega), h0, h5]; decide
