/-! leaves of tests on both sides: all kinds -/
theorem tsK_h {R1 : Int32 → uS → Option uS} {R2 : uS → Option (uS × Int32)} {v : Nat} {x2 : Int32} {s1 : uS} (hv : v ≤ 2) : tsK R1 R2 (nI (20 + v)) x2 s1 = (fn_X12_how x2 s1).bind fun s3 => (iput 20 s3 1102 x2 (s3.I 1079 61)).bind fun s5 => (fn_X12_list s5).bind fun r7 => (iput 20 r7.1 1103 x2 r7.2).bind fun s9 => (iput 20 s9 1104 x2 (s9.I 1079 61)).bind fun s11 => (fn_X12_list s11).bind fun r13 => (iput 20 r13.1 1105 x2 r13.2).bind fun s15 => fb_X12_test_419 R1 R2 x2 s15 := by
  have : v = 0 ∨ v = 1 ∨ v = 2 := by omega
  rcases this with z | z | z <;> rw [z] <;> rfl
theorem tsK_3 {R1 : Int32 → uS → Option uS} {R2 : uS → Option (uS × Int32)} {x2 : Int32} {s1 : uS} : tsK R1 R2 (nI (20 + 3)) x2 s1 = (fn_X12_how x2 s1).bind fun s3 => (iput 20 s3 1104 x2 (s3.I 1079 61)).bind fun s11 => (fn_X12_list s11).bind fun r13 => (iput 20 r13.1 1105 x2 r13.2).bind fun s15 => fb_X12_test_419 R1 R2 x2 s15 := rfl
theorem tsK_4 {R1 : Int32 → uS → Option uS} {R2 : uS → Option (uS × Int32)} {x2 : Int32} {s1 : uS} : tsK R1 R2 (nI (20 + 4)) x2 s1 = (iput 20 s1 1102 x2 (s1.I 1079 61)).bind fun s11 => (fn_X12_list s11).bind fun r13 => (iput 20 r13.1 1103 x2 r13.2).bind fun s15 => fb_X12_test_419 R1 R2 x2 s15 := rfl
theorem tsK_5 {R1 : Int32 → uS → Option uS} {R2 : uS → Option (uS × Int32)} {x2 : Int32} {s1 : uS} : tsK R1 R2 (nI (20 + 5)) x2 s1 = (fn_X12_size x2 s1).bind fun s59 => fb_X12_test_419 R1 R2 x2 s59 := rfl
theorem tsK_s {R1 : Int32 → uS → Option uS} {R2 : uS → Option (uS × Int32)} {v : Nat} {x2 : Int32} {s1 : uS} (hv : v = 6 ∨ v = 7) : tsK R1 R2 (nI (20 + v)) x2 s1 = (R1 x2 s1).bind fun s61 => fb_X12_test_419 R1 R2 x2 s61 := by
  rcases hv with z | z <;> rw [z] <;> rfl
theorem tsK_8 {R1 : Int32 → uS → Option uS} {R2 : uS → Option (uS × Int32)} {x2 : Int32} {s1 : uS} : tsK R1 R2 (nI (20 + 8)) x2 s1 = (R2 s1).bind fun r65 => (fn_X12_put x2 r65.2 r65.1).bind fun s67 => fb_X12_test_419 R1 R2 x2 s67 := rfl
theorem tsK_t {R1 : Int32 → uS → Option uS} {R2 : uS → Option (uS × Int32)} {v : Nat} {x2 : Int32} {s1 : uS} (hv : v = 9 ∨ v = 10) : tsK R1 R2 (nI (20 + v)) x2 s1 = fb_X12_test_419 R1 R2 x2 s1 := by
  rcases hv with z | z <;> rw [z] <;> rfl
theorem t_leaf {k fr : Nat} {x : List Nat} {ts : List (List Nat)} {bg b e b0 : Nat} {σ : List (Nat × Nat)} {N M cn ob dp rq T p v : Nat} {s t s0 t0 : uS} {R1 : Int32 → uS → Option uS} {R2 : uS → Option (uS × Int32)} {D : Nat} (hv : v ≤ 5 ∨ v = 9 ∨ v = 10) (hcn : cn < 100) (h : pj k fr x ts bg b e (stT v N σ) (N + 1) (M + 1) (cn + 1) ob (dp + 1) rq T s t) (hσ : σ.length ≤ 60) (hn : nodN N (nI (11 + v)) (nI p) (nI (dp + 1)) s) (hr : nodR M (nI (20 + v)) t) (g2 : b0 < b) (o : out (tsI N) (tsF N) s0 s) (q : ol trI (trF M ts.length bg) rNo t0 t) : RV x s t (pd T s) (tsK R1 R2 (nI (20 + v)) (nI M) t) (tsG k fr x ts bg b0 σ N M cn ob dp rq (D + 1) p s0 t0) := by
  obtain ⟨k1, k2, k3, k4, k5, k6, k7, k8, k9, k10, k11, k12, k13⟩ := h.2.2.2
  have hN : N < 320 := by omega
  have hM5 : M < 520 := by omega
  obtain ⟨n0, n1, n2, n3, n4, n5, n6, n8, n9, n11, nl⟩ := hn
  obtain ⟨m0, m1, m2, m3, m4, m5, m6, m7, m8, m9, m10, m11, m12, m13, m14⟩ := hr
  have hb := h.1.l.2.2.2.2.2
  by_cases c1 : v ≤ 3
  · -- tags first
    have how : ∀ (σ' : List (Nat × Nat)) (K : uS → Option (uS × Int32)), σ'.length ≤ 70 → pj k fr x ts bg b e ((8, N) :: σ') (N + 1) (M + 1) (cn + 1) ob (dp + 1) rq T s t → (∀ (p : Nat) (t1 : uS), fO p t1 → FV p t1 (K t1)) → (∀ (s1 : uS) (T1 : Nat) (t1 : uS), hwG k fr x ts bg b σ' (N + 1) (M + 1) (cn + 1) ob (dp + 1) rq N M (11 + v) s t s1 T1 t1 → RV x s1 t1 (pd T1 s1) (K t1) (tsG k fr x ts bg b0 σ N M cn ob dp rq (D + 1) p s0 t0)) → RV x s t (pd T s) ((fn_X12_how (nI M) t).bind K) (tsG k fr x ts bg b0 σ N M cn ob dp rq (D + 1) p s0 t0) := by
      intro σ' K hl h' hf hc
      have := p_how (k := k) (fr := fr) (x := x) (i := N) (n := M) hN hM5 (κ := 11 + v) (by omega) hl (N := N + 1) (M := M + 1) (cn := cn + 1) (ob := ob) (dp := dp + 1) (rq := rq) (x.length + 1) 1000000 ts bg b e T 0 s t (by omega) (by have := h.bl.2.2; omega) h' n0 (by rw [m0]; congr 1; omega) (hwS_0 ⟨n0, n1, n2, n3, n4, n5, n6, n8, n9, n11, nl⟩ ⟨m0, m1, m2, m3, m4, m5, m6, m7, m8, m9, m10, m11, m12, m13, m14⟩) (fun z => absurd (Nat.zero_and 4) z)
      exact this.uv (fun p t1 z => hf p t1 z) (fun s1 T1 t1 _ _ z => hc s1 T1 t1 z)
    by_cases c2 : v ≤ 2
    · rw [tsK_h c2]
      unfold stT at h; rw [if_pos c2] at h
      refine how _ _ (by simp only [List.length_cons]; omega) h (fun p t1 z => z.tnk hM5) ?_
      rintro s1 T1 t1 ⟨new1, bg1, b1, e1, a1, a2, a3, a4, a5, a6, a7, a8⟩
      have i : ∀ f : Nat, f < 5 ∨ f = 11 → s1.I (16 + 3 * N) f = s.I (16 + 3 * N) f := fun f hf => a7.2.1 _ _ (by unfold thI; omega)
      have j : ∀ f : Nat, f = 0 ∨ f = 1 → s1.F (18 + 3 * N) f = s.F (18 + 3 * N) f := fun f hf => a7.2.2 _ _ (by unfold tgF; omega)
      have mm : ∀ r : Nat, 1098 ≤ r → r ≤ 1103 → t1.F r M = t.F r M := fun r _ _ => a8.2.2.1 _ _ (by unfold rtF rLF; omega)
      refine p_lst (g := 0) (l := 0) (ra := 1102) a3 hN (Or.inl rfl) (by simp only [List.length_cons]; omega) hM5 ((j 0 (Or.inl rfl)).trans (nl 0 (by decide))) ((i 11 (Or.inr rfl)).trans n11) (by decide) (Or.inl rfl) (fun p t1 z => z.tky hM5) ?_
      rintro s2 T2 t2 ⟨news, bg2, b2, e2, d1, d2, d3, d4, d5, d6, d7, d8, d9, d10, d11, d12, d13⟩
      have i2 : ∀ f : Nat, f ≠ 11 → s2.I (16 + 3 * N) f = s1.I (16 + 3 * N) f := fun f hf => d12.2.1 _ _ (by unfold cLI; omega)
      have i211 : s2.I (16 + 3 * N) 11 = s1.I (16 + 3 * N) 11 := d12.2.1 _ _ (by unfold cLI; omega)
      have j2 : ∀ f : Nat, f ≠ 0 → s2.F (18 + 3 * N) f = s1.F (18 + 3 * N) f := fun f hf => d12.2.2 _ _ (by unfold cLF; omega)
      have mm2 : ∀ r : Nat, 1098 ≤ r → r ≤ 1115 → r ≠ 1102 → r ≠ 1103 → t2.F r M = t1.F r M := fun r _ _ _ _ => d13.2.2.1 _ _ (by unfold rlF rLF; omega)
      have hle := (a3.1.l).2.2.2.2.2
      refine t_keys (κ := 11 + v) (D := D) (ts0 := ts) (new0 := new1 ++ news) (List.append_assoc _ _ _) hcn d5 (by omega) (by omega) (((i2 _ (by omega)).trans (i _ (by omega))).trans n0) (((i2 _ (by omega)).trans (i _ (by omega))).trans n1) (((i2 _ (by omega)).trans (i _ (by omega))).trans n3) ((i211.trans (i _ (by omega))).trans n11) (((j2 _ (by omega)).trans (j _ (by omega))).trans (nl 1 (by decide))) ?_ (((mm2 _ (by omega) (by omega) (by omega) (by omega)).trans (mm _ (by omega) (by omega))).trans m3) (a4.fr (i2 _ (by omega)) (i2 _ (by omega)) (mm2 _ (by omega) (by omega) (by omega) (by omega)) (mm2 _ (by omega) (by omega) (by omega) (by omega))) (a5.fr (i2 _ (by omega)) (mm2 _ (by omega) (by omega) (by omega) (by omega))) ⟨a6.1.fr (i2 _ (by omega)) (mm2 _ (by omega) (by omega) (by omega) (by omega)), fun y1 y2 => (i2 _ (by omega)).trans (a6.2 y1 y2)⟩ (fun _ => ⟨(ts ++ new1).length, news.length, ?_, d1, d2, ?_, d6, d7, d8, d9⟩) (by omega) (by omega) (out_t o (out_t (th_ts (Nat.le_refl _) hN a7) (cL_ts (Nat.le_refl _) hN d12))) (ol_t q (ol_t (rt_tr a8 (Nat.le_refl _) (Nat.le_refl _) (Nat.le_refl _)) (rl_tr (by omega) d13 (Nat.le_refl _) ?_ a1)))
      · rw [show 11 + v + 9 = 20 + v by omega]; exact ((mm2 _ (by omega) (by omega) (by omega) (by omega)).trans (mm _ (by omega) (by omega))).trans m0
      · rw [List.length_append]; omega
      · rw [List.length_append (as := ts ++ new1)]; exact Nat.le_refl _
      · rw [List.length_append]; omega
    · have hv3 : v = 3 := by omega
      subst hv3
      rw [tsK_3]
      refine how ((11, 12 * N + 1) :: σ) _ (by simp only [List.length_cons]; omega) h (fun p t1 z => z.tky hM5) ?_
      rintro s1 T1 t1 ⟨new1, bg1, b1, e1, a1, a2, a3, a4, a5, a6, a7, a8⟩
      have i : ∀ f : Nat, f < 5 ∨ f = 11 → s1.I (16 + 3 * N) f = s.I (16 + 3 * N) f := fun f hf => a7.2.1 _ _ (by unfold thI; omega)
      have j : ∀ f : Nat, f = 0 ∨ f = 1 → s1.F (18 + 3 * N) f = s.F (18 + 3 * N) f := fun f hf => a7.2.2 _ _ (by unfold tgF; omega)
      have mm : ∀ r : Nat, 1098 ≤ r → r ≤ 1103 → t1.F r M = t.F r M := fun r _ _ => a8.2.2.1 _ _ (by unfold rtF rLF; omega)
      exact t_keys (κ := 14) (D := D) (ts0 := ts) (new0 := new1) rfl hcn a3 (by omega) (by omega) ((i _ (by omega)).trans n0) ((i _ (by omega)).trans n1) ((i _ (by omega)).trans n3) ((i _ (by omega)).trans n11) ((j _ (by omega)).trans (nl 1 (by decide))) ((mm _ (by omega) (by omega)).trans m0) ((mm _ (by omega) (by omega)).trans m3) a4 a5 a6 (fun z => by omega) a1 (by omega) (out_t o (th_ts (Nat.le_refl _) hN a7)) (ol_t q (rt_tr a8 (Nat.le_refl _) (Nat.le_refl _) (Nat.le_refl _)))
  by_cases c4 : v = 4
  · subst c4
    rw [tsK_4]
    refine p_lst (g := 0) (l := 0) (ra := 1102) (σ := σ) h hN (Or.inl rfl) (by omega) hM5 (nl 0 (by decide)) n11 (by decide) (Or.inl rfl) (fun p t1 z => z.t419 hM5) ?_
    rintro s1 T1 t1 ⟨news, bg1, b1, e1, a1, a2, a3, a4, a5, a6, a7, a8, a9, a10, a11, a12, a13⟩
    have i : ∀ f : Nat, f ≠ 11 → s1.I (16 + 3 * N) f = s.I (16 + 3 * N) f := fun f hf => a12.2.1 _ _ (by unfold cLI; omega)
    have j : ∀ f : Nat, f ≠ 0 → s1.F (18 + 3 * N) f = s.F (18 + 3 * N) f := fun f hf => a12.2.2 _ _ (by unfold cLF; omega)
    have m : ∀ r : Nat, r ≠ 1102 → r ≠ 1103 → r ≠ 1097 → r ≠ 1116 → r ≠ 1117 → t1.F r M = t.F r M := fun r _ _ _ _ _ => a13.2.2.1 _ _ (by unfold rlF rLF; omega)
    refine ts_ret (tsG.mk (bg1 := bg1) (b1 := b1) (e1 := e1) (N1 := N + 1) (M1 := M + 1) (cn1 := cn + 1) a5 (by omega) (by omega) (by omega) (by omega) (by omega) ?_ ((m _ (by omega) (by omega) (by omega) (by omega) (by omega)).trans m3) (out_t o (cL_ts (Nat.le_refl _) hN a12)) (ol_t q (rl_tr (by omega) a13 (Nat.le_refl _) (Nat.le_refl _) (Nat.le_refl _))))
    rw [List.length_append]
    refine ⟨by omega, by omega, by omega, (i _ (by omega)).trans n1, (i _ (by omega)).trans n3, 15, by omega, by omega, (i _ (by omega)).trans n0, (m _ (by omega) (by omega) (by omega) (by omega) (by omega)).trans m0, Or.inr (Or.inr ⟨by omega, by omega, by omega, rfl, rfl, fun z => by omega, fun _ => ⟨ts.length, news.length, Nat.le_refl _, a1, a2, Nat.le_refl _, a6, a7, a8, a9⟩, fun z => by omega, fun _ => (j 1 (by omega)).trans (nl 1 (by decide))⟩)⟩
  by_cases c5 : v = 5
  · subst c5
    rw [tsK_5]
    refine (p_size (σ := σ) h hN hM5 n0 n5).uv (fun p t1 z => z.t419 hM5) ?_
    rintro s1 T1 t1 o1 q1 ⟨b1, e1, d, ov, a1, a2, a3, a4, a5, a6, a7, a8, a9⟩
    have i : ∀ f : Nat, f < 5 → s1.I (16 + 3 * N) f = s.I (16 + 3 * N) f := fun f hf => a8.2.1 _ _ (by unfold nfI; omega)
    have m : ∀ r : Nat, 1098 ≤ r → r ≤ 1101 → t1.F r M = t.F r M := fun r _ _ => a9.2.2.1 _ _ (by unfold nrF rLF; omega)
    have j : s1.F (18 + 3 * N) 1 = s.F (18 + 3 * N) 1 := a8.2.2 _ _ (by unfold szF; omega)
    refine ts_ret (tsG.mk (news := []) (bg1 := bg) (b1 := b1) (e1 := e1) (N1 := N + 1) (M1 := M + 1) (cn1 := cn + 1) (by rw [List.append_nil]; exact a2) (by omega) (by omega) (by omega) (by omega) (by omega) ?_ ((m _ (by omega) (by omega)).trans m3) (out_t o (sz_ts (Nat.le_refl _) hN a8)) (ol_t q (nr_tr a9 (Nat.le_refl _) (Nat.le_refl _) (Nat.le_refl _))))
    rw [List.append_nil]
    exact ⟨by omega, by omega, by omega, (i _ (by omega)).trans n1, (i _ (by omega)).trans n3, 16, by omega, by omega, (i _ (by omega)).trans n0, (m _ (by omega) (by omega)).trans m0, Or.inr (Or.inr ⟨by omega, by omega, by omega, rfl, rfl, fun z => by omega, fun z => by omega, fun _ => ⟨d, ov, a3, a4, a5, a6, a7⟩, fun _ => j.trans (nl 1 (by decide))⟩)⟩
  · have hv9 : v = 9 ∨ v = 10 := by omega
    rw [tsK_t hv9]
    have hst : stT v N σ = σ := by rcases hv9 with z | z <;> rw [z] <;> rfl
    rw [hst] at h
    refine ts_ret (tsG.mk (news := []) (bg1 := bg) (b1 := b) (e1 := e) (N1 := N + 1) (M1 := M + 1) (cn1 := cn + 1) (by rw [List.append_nil]; exact h) (by omega) (by omega) (by omega) (by omega) (by omega) ?_ m3 o q)
    rw [List.append_nil]
    exact ⟨by omega, by omega, by omega, n1, n3, 11 + v, by omega, by omega, n0, by rw [m0]; congr 1; omega, Or.inr (Or.inr ⟨by omega, by omega, by omega, rfl, rfl, fun z => by omega, fun z => by omega, fun z => by omega, fun _ => nl 1 (by decide)⟩)⟩
