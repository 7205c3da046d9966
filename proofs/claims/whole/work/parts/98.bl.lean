/-! PUTSCRIPT: a new script -/
theorem ol_cpy {PI PF PL : Nat → Nat → Prop} {s s1 : uS} {K off i L : Nat} {g : Nat → Int32} (o : ol PI PF PL s s1) (h : ∀ f : Nat, off + i ≤ f → f < off + L → PF K f) : ol PI PF PL s (cpy s1 K off i L g) := by
  refine ⟨o.1, o.2.1, ?_, o.2.2.2⟩
  intro k f hk
  rw [cpy_F, if_neg (fun e => hk (by rw [e.1]; exact h f e.2.1 e.2.2))]
  exact o.2.2.1 k f hk
theorem nent_c {s : uS} (hn : s.n + 1 ≤ 600000) (hm : s.m + 6 ≤ 7302250) : nent s = some (nw s 1 0 6) := by
  unfold nent
  rw [if_pos ⟨hn, hm⟩]
theorem nw_n (s : uS) (t N sl : Nat) : (nw s t N sl).n = s.n + 1 := rfl
theorem nw_m (s : uS) (t N sl : Nat) : (nw s t N sl).m = s.m + sl := rfl
theorem nw_c (s : uS) (t N sl : Nat) : (nw s t N sl).c s.n = (t, N) := if_pos rfl
theorem X1_c {s : uS} {e a b : Nat} (h : uIs s e 1) : fn_X1_init e a b s = some (wR (wR (wI s e 2 (-1)) e 0 (some a)) e 1 (some b)) := by
  unfold fn_X1_init
  have h2 : uIs (wI s e 2 (-1)) e 1 := h
  have h3 : uIs (wR (wI s e 2 (-1)) e 0 (some a)) e 1 := h
  rw [if_pos h, if_pos h2, if_pos h3]
theorem cSc_app {s s1 : uS} {u e : Nat} {es : List Nat} {scs : List (List Nat × List Nat)} {ac : Option Nat} {x : List Nat × List Nat} (h : cSc s u es scs ac) (hl : scs.length < 4) (he : s.n ≤ e) (hn : s.n ≤ s1.n) (hc : ∀ k : Nat, k < s.n → s1.c k = s.c k) (hI : s1.I (985 + 16 * u) 3 = nI (scs.length + 1)) (hP : ∀ f : Nat, f ≠ scs.length → s1.P (985 + 16 * u + 1) f = s.P (985 + 16 * u + 1) f) (hP2 : s1.P (985 + 16 * u + 1) scs.length = some e) (hR : s1.R (985 + 16 * u) 5 = s.R (985 + 16 * u) 5) (hE : ∀ k : Nat, 1171 ≤ k → k < s.n → s1.R k = s.R k) (hB : ∀ k : Nat, 1171 ≤ k → k < s.n → s1.F k = s.F k) (hx : cSe s1 e x) : cSc s1 u (es ++ [e]) (scs ++ [x]) ac := by
  obtain ⟨a1, a2, a3, a4, a5, a6⟩ := h
  have l1 : (es ++ [e]).length = scs.length + 1 := by rw [List.length_append, a1]; rfl
  have l2 : (scs ++ [x]).length = scs.length + 1 := by rw [List.length_append]; rfl
  have ge : ∀ i : Nat, i < scs.length → (es ++ [e]).getD i 0 = es.getD i 0 := fun i hi => getG_app (by omega)
  have ge2 : (es ++ [e]).getD scs.length 0 = e := by rw [← a1]; exact getG_end
  refine ⟨by omega, by omega, by rw [l2]; exact hI, ?_, ?_, ?_⟩
  · intro i hi
    rw [l2] at hi
    by_cases c : i = scs.length
    · subst c
      rw [ge2, getG_end]
      exact ⟨hP2, hx⟩
    · rw [ge i (by omega), getG_app (by omega), hP i c]
      obtain ⟨b1, b2, b3, b4, ⟨nb, c1, c2, c3⟩, tb, d1, d2⟩ := a4 i (by omega)
      exact ⟨b1, by omega, b3, by rw [hc _ b2]; exact b4, ⟨nb, by rw [hE _ b3 b2]; exact c1, c2, c3.fr hn (hc _ c3.1) (hB _ c3.2.1 c3.1)⟩, tb, by rw [hE _ b3 b2]; exact d1, d2.fr hn (hc _ d2.1) (hB _ d2.2.1 d2.1)⟩
  · intro i j hi hj
    rw [l2] at hi hj
    by_cases c : i = scs.length
    · by_cases d : j = scs.length
      · intro _; omega
      · rw [c, ge2, ge j (by omega)]
        intro z
        have := (a4 j (by omega)).2.1
        omega
    · by_cases d : j = scs.length
      · rw [d, ge2, ge i (by omega)]
        intro z
        have := (a4 i (by omega)).2.1
        omega
      · rw [ge i (by omega), ge j (by omega)]
        exact a5 i j (by omega) (by omega)
  · rw [hR]
    rcases a6 with z | ⟨i, z1, z2, z3⟩
    · exact Or.inl z
    · exact Or.inr ⟨i, z1, by omega, by rw [ge i z2]; exact z3⟩
theorem rSc_app {t t1 : uS} {u f : Nat} {sl : List Nat} {scs : List (List Nat × List Nat)} {ac : Option Nat} {x : List Nat × List Nat} (h : rSc t u sl scs ac) (hl : scs.length < 4) (hf1 : 4 * u ≤ f) (hf2 : f < 4 * u + 4) (hf : ∀ i : Nat, i < scs.length → sl.getD i 0 ≠ f) (h1 : t1.F 1149 u = nI (scs.length + 1)) (h2 : t1.F 1150 u = t.F 1150 u) (h3 : ∀ i : Nat, i < scs.length → t1.F 1151 (4 * u + i) = t.F 1151 (4 * u + i)) (h3' : t1.F 1151 (4 * u + scs.length) = nI f) (h4 : ∀ g : Nat, g ≠ f → t1.F 1153 g = t.F 1153 g ∧ t1.F 1155 g = t.F 1155 g ∧ (∀ j : Nat, j < 20 → t1.F 1152 (20 * g + j) = t.F 1152 (20 * g + j)) ∧ ∀ j : Nat, j < 250 → t1.L 1154 (250 * g + j) = t.L 1154 (250 * g + j)) (hx : rSe t1 f x) : rSc t1 u (sl ++ [f]) (scs ++ [x]) ac := by
  obtain ⟨a1, a2, a3, a4, a5, a6⟩ := h
  have l1 : (sl ++ [f]).length = scs.length + 1 := by rw [List.length_append, a1]; rfl
  have l2 : (scs ++ [x]).length = scs.length + 1 := by rw [List.length_append]; rfl
  have ge : ∀ i : Nat, i < scs.length → (sl ++ [f]).getD i 0 = sl.getD i 0 := fun i hi => getG_app (by omega)
  have ge2 : (sl ++ [f]).getD scs.length 0 = f := by rw [← a1]; exact getG_end
  refine ⟨by omega, by omega, by rw [l2]; exact h1, ?_, ?_, ?_⟩
  · intro i hi
    rw [l2] at hi
    by_cases c : i = scs.length
    · subst c
      rw [ge2, getG_end]
      exact ⟨h3', hf1, hf2, hx⟩
    · rw [ge i (by omega), getG_app (by omega), h3 i (by omega)]
      obtain ⟨b1, b2, b3, b4⟩ := a4 i (by omega)
      obtain ⟨q1, q2, q3, q4⟩ := h4 _ (hf i (by omega))
      exact ⟨b1, b2, b3, b4.fr q1 q3 q2 q4⟩
  · intro i j hi hj
    rw [l2] at hi hj
    by_cases c : i = scs.length
    · by_cases d : j = scs.length
      · intro _; omega
      · rw [c, ge2, ge j (by omega)]
        exact fun z => absurd z.symm (hf j (by omega))
    · by_cases d : j = scs.length
      · rw [d, ge2, ge i (by omega)]
        exact fun z => absurd z (hf i (by omega))
      · rw [ge i (by omega), ge j (by omega)]
        exact a5 i j (by omega) (by omega)
  · rw [h2]
    rcases a6 with z | ⟨i, z1, z2, z3⟩
    · exact Or.inl z
    · exact Or.inr ⟨i, z1, by omega, by rw [ge i z2]; exact z3⟩
theorem m_new {u : Nat} (hu : u < 4) {s t s1 t1 : uS} {ts : List (List Nat)} {bg : Nat} {scs : List (List Nat × List Nat)} {ac : Option Nat} {es sl : List Nat} (hroom : 1171 ≤ s.n ∧ s.n + 3 ≤ 600000 ∧ s.m + 2030 ≤ 7302250) (hm : pMid u s t s1 t1) (hn : s1.n = s.n) (hmm : s1.m = s.m) (htz : cTz s1 (978 + 16 * u + 1) 6000 3 ts bg []) (hts : 1 < ts.length) (hx0 : 0 < (ts.getD 0 []).length ∧ (ts.getD 0 []).length ≤ 20) (hx : (ts.getD 1 []).length ≤ 2000) (hgd : gdS (ts.getD 1 [])) (h4 : cSc s1 u es scs ac) (h5 : rSc t1 u sl scs ac) (hl : scs.length < 4) (hpt : rPt u 0 t1 (ts.getD 0 [])) (hI : t1.I 1079 29 = nI (ts.getD 1 []).length) (hF : ∀ j : Nat, j < (ts.getD 1 []).length → t1.F 1096 j = nI ((ts.getD 1 []).getD j 0)) : ∃ s2 t2 : uS, ∃ b : Bool, fb_X11_takeScript_94 (nI u) (978 + 16 * u + 1) none s1 = some s2 ∧ fb_X12_putScript_47 (nI u) (-1) t1 = some (t2, b) ∧ cmdR u s t s2 t2 b := by
  have hu5 : u < 5 := by omega
  unfold fb_X11_takeScript_94 fb_X12_putScript_47 fb_X12_putScript_78 fb_X12_putScript_120
  show ∃ s2 t2 : uS, ∃ b : Bool, ((fn_X11_commit s1).bind _) = some s2 ∧ _ ∧ _
  rcases mid_commit hu hm with ⟨a, b, c1, c2, c3⟩ | ⟨s2, t2, c1, c2, c3⟩
  · rw [c1, c2, Option.bind_some, Option.bind_some, if_pos rfl, if_pos rfl]
    simp only [if_neg (show ¬ (0 : Int32) ≤ -1 by decide)]
    have h4' : cSc (wI (wI s1 0 15 a) 0 14 b) u es scs ac := h4.fr (Nat.le_refl _) (fun _ _ => rfl) ((wI_o (by omega)).trans (wI_o (by omega))) rfl rfl (fun _ _ => rfl) (fun _ _ _ => rfl)
    have htz' : cTz (wI (wI s1 0 15 a) 0 14 b) (978 + 16 * u + 1) 6000 3 ts bg [] := htz.fr ((wI_o (by omega)).trans (wI_o (by omega))) ((wI_o (by omega)).trans (wI_o (by omega))) ((wI_o (by omega)).trans (wI_o (by omega))) rfl rfl rfl
    have hn' : (wI (wI s1 0 15 a) 0 14 b).n = s.n := hn
    have hm' : (wI (wI s1 0 15 a) 0 14 b).m = s.m := hmm
    have h5' : rSc (wI (wI t1 1079 3 a) 1079 2 b) u sl scs ac := h5
    have c3' := c3
    obtain ⟨⟨dy, cm, ct, d1, d1'⟩, ⟨xs, x1, x2, x3⟩, -, d4, d5, d6⟩ := c3'
    have hI' : (wI (wI t1 1079 3 a) 1079 2 b).I 1079 29 = nI (ts.getD 1 []).length := by rw [wI_o (by omega), wI_o (by omega)]; exact hI
    have hF' : ∀ j : Nat, j < (ts.getD 1 []).length → (wI (wI t1 1079 3 a) 1079 2 b).F 1096 j = nI ((ts.getD 1 []).getD j 0) := hF
    have hpt' : rPt u 0 (wI (wI t1 1079 3 a) 1079 2 b) (ts.getD 0 []) := hpt
    generalize wI (wI s1 0 15 a) 0 14 b = sA at *
    generalize wI (wI t1 1079 3 a) 1079 2 b = tA at *
    -- the class makes an entry and two rows
    have hs1 := hroom.1
    have ent := nent_c (s := sA) (by omega) (by omega)
    have ocw : ∀ PI PF PR PP : Nat → Nat → Prop, oc PI PF PR PP sA (nw sA 1 0 6) := fun _ _ _ _ => oc_nw oc_r
    have fr0 : ∀ s' : uS, (∀ PI PF PR PP : Nat → Nat → Prop, oc PI PF PR PP sA s') → cTz s' (978 + 16 * u + 1) 6000 3 ts bg [] := by
      intro s' o
      have o' := o rNo rNo rNo rNo
      exact htz'.fr (o'.2.2.2.1 _ _ (by omega) (fun z => z)) (o'.2.2.2.1 _ _ (by omega) (fun z => z)) (o'.2.2.2.1 _ _ (by omega) (fun z => z)) (o'.F (by omega) (fun f z => z)) (o'.F (by omega) (fun f z => z)) (o'.F (by omega) (fun f z => z))
    obtain ⟨s2, e1, e2, e3, e4, e5⟩ := c_copyOf (i := 0) (kOk_u hu).1 (fr0 _ ocw) (show 0 < ts.length by omega) (by rw [nw_n]; omega) (by rw [nw_n]; omega) (by rw [nw_m]; omega)
    rw [nw_n] at e1 e2 e4
    rw [nw_m] at e3
    have oc2 : ∀ PI PF PR PP : Nat → Nat → Prop, oc PI PF PR PP sA s2 := fun PI PF PR PP => oc_t (ocw PI PF PR PP) (e5 PI PF PR PP)
    obtain ⟨s3, f1, f2, f3, f4, f5⟩ := c_copyOf (i := 1) (kOk_u hu).1 (fr0 _ oc2) hts (by omega) (by omega) (by omega)
    have oc3 : ∀ PI PF PR PP : Nat → Nat → Prop, oc PI PF PR PP sA s3 := fun PI PF PR PP => oc_t (oc2 PI PF PR PP) (f5 PI PF PR PP)
    have e1' : fn_X9_copyOf (978 + 16 * u + 1) 0 (nw sA 1 0 6) = _ := e1
    have f1' : fn_X9_copyOf (978 + 16 * u + 1) 1 s2 = _ := f1
    have his : uIs s3 sA.n 1 := uIs_oc (oc_t (e5 rNo rNo rNo rNo) (f5 rNo rNo rNo rNo)) (by rw [nw_n]; omega) (by omega) (by rw [nw_c])
    have hnb : cBn s3 (sA.n + 1) (ts.getD 0 []) := e4.oc (f5 rNo rNo rNo rNo) (fun f z => z)
    obtain ⟨k1, k2, k3⟩ := ucl_us hu
    -- the reference's place
    obtain ⟨fs, g1, g2, g3, g4⟩ := r_free hu h5' hl
    have hcnt := h5'.2.2.1
    have hccnt := h4'.2.2.1
    have his6 : uIs (wR (wR (wI s3 sA.n 2 (-1)) sA.n 0 (some (sA.n + 1))) sA.n 1 (some s2.n)) sA.n 1 := his
    have hcI : (wP (wR (wR (wI s3 sA.n 2 (-1)) sA.n 0 (some (sA.n + 1))) sA.n 1 (some s2.n)) (985 + 16 * u + 1) scs.length (some sA.n)).I (985 + 16 * u) 3 = nI scs.length := by
      show (wI s3 sA.n 2 (-1)).I (985 + 16 * u) 3 = _
      rw [wI_o (by omega), (oc3 rNo rNo rNo rNo).2.2.2.1 _ _ (by omega) (fun z => z)]
      exact hccnt
    have hput : fn_X10_putScript (985 + 16 * u) none (978 + 16 * u + 1) sA = some (wI (wP (wR (wR (wI s3 sA.n 2 (-1)) sA.n 0 (some (sA.n + 1))) sA.n 1 (some s2.n)) (985 + 16 * u + 1) scs.length (some sA.n)) (985 + 16 * u) 3 (nI (scs.length + 1))) := by
      unfold fn_X10_putScript
      show (if (4 : Int32) ≤ (sA.I (985 + 16 * u) 3) then (some sA) else _) = _
      rw [hccnt, if_neg (show ¬ (4 : Int32) ≤ nI scs.length from nI_ge hl (by decide)), ent, Option.bind_some, e1', Option.bind_some, f1', Option.bind_some, if_pos (show ¬ sA.n + 1 = 0 by omega), X1_c his, Option.bind_some, pput_c (by omega) k1 hl (by decide) his6, Option.bind_some, hcI, nI_1]
    rw [pgt_usr hu, Option.bind_some, if_pos (so_usr hu), hput, Option.bind_some, pgt_que hu5, Option.bind_some, if_pos (so_que hu5)]
    -- the reference writes
    have hpt2 : rPt u 0 (wF (wF tA 1151 (4 * u + scs.length) (nI fs)) 1149 u (nI (scs.length + 1))) (ts.getD 0 []) := by
      obtain ⟨y1, y2, y3, y4⟩ := hpt'
      exact ⟨y1, y2, ((wF_o (by omega)).trans (wF_o (by omega))).trans y3, fun j hj => ((wF_o (by omega)).trans (wF_o (by omega))).trans (y4 j hj)⟩
    have hname := r_name19 hu (show 0 < 2 by decide) (show fs < 16 by omega) hpt2 hx0.2
    have hname' : fn_X12_nameScript (nI u) (nI fs) 0 (wF (wF tA 1151 (4 * u + scs.length) (nI fs)) 1149 u (nI (scs.length + 1))) = _ := hname
    rw [g1, Option.bind_some, g_1149 hu, Option.bind_some, hcnt]
    simp (disch := omega) only [show (4 : Int32) = nI 4 from rfl, nI_mul, nI_add, p_1151, Option.bind_some, g_1149 hu, unar_20]
    rw [show (wF tA 1151 (4 * u + scs.length) (nI fs)).F 1149 u = nI scs.length from (wF_o (by omega)).trans hcnt, nI_1, p_1149 hu, Option.bind_some, hname', Option.bind_some]
    have fFm : ∀ k f : Nat, k ≠ 1149 → k ≠ 1151 → k ≠ 1152 → k ≠ 1153 → (cpy (wF (wF (wF tA 1151 (4 * u + scs.length) (nI fs)) 1149 u (nI (scs.length + 1))) 1153 fs (nI (ts.getD 0 []).length)) 1152 (20 * fs) 0 (ts.getD 0 []).length (fun j => nI ((ts.getD 0 []).getD j 0))).F k f = tA.F k f := by
      intro k f n1 n2 n3 n4
      rw [cpy_Fo n3, wF_r n4, wF_r n1, wF_r n2]
    have h8x : bys (ts.getD 1 []) := by obtain ⟨fr, -, h⟩ := htz.2.2.2.2.2.2.2; exact (h 1 hts).1
    obtain ⟨t2, r1, r2, r3, r4⟩ := r_save (sl := fs) (t := cpy (wF (wF (wF tA 1151 (4 * u + scs.length) (nI fs)) 1149 u (nI (scs.length + 1))) 1153 fs (nI (ts.getD 0 []).length)) 1152 (20 * fs) 0 (ts.getD 0 []).length (fun j => nI ((ts.getD 0 []).getD j 0))) (x := ts.getD 1 []) (by omega) hx h8x hI' (fun j hj => (fFm _ _ (by decide) (by decide) (by decide) (by decide)).trans (hF' j hj))
    rw [r1, Option.bind_some]
    have fF : ∀ k f : Nat, ¬ (k = 1155 ∧ f = fs) → t2.F k f = (cpy (wF (wF (wF tA 1151 (4 * u + scs.length) (nI fs)) 1149 u (nI (scs.length + 1))) 1153 fs (nI (ts.getD 0 []).length)) 1152 (20 * fs) 0 (ts.getD 0 []).length (fun j => nI ((ts.getD 0 []).getD j 0))).F k f := fun k f h => r4.2.2.1 k f h
    have hmid : pMid u s t (wI (wP (wR (wR (wI s3 sA.n 2 (-1)) sA.n 0 (some (sA.n + 1))) sA.n 1 (some s2.n)) (985 + 16 * u + 1) scs.length (some sA.n)) (985 + 16 * u) 3 (nI (scs.length + 1))) t2 := by
      have hq := qk_u hu
      have o3 := oc3 rNo rNo rNo rNo
      have kk : ∀ k f : Nat, k < sA.n → s3.I k f = sA.I k f := fun k f hk => o3.2.2.2.1 k f hk (fun z => z)
      have kf : ∀ k f : Nat, k < sA.n → s3.F k f = sA.F k f := fun k f hk => o3.2.2.2.2.1 k f hk (fun z => z)
      have kr : ∀ k f : Nat, k < sA.n → s3.R k f = sA.R k f := fun k f hk => o3.2.2.2.2.2.1 k f hk (fun z => z)
      have kp : ∀ k f : Nat, k < sA.n → s3.P k f = sA.P k f := fun k f hk => o3.2.2.2.2.2.2 k f hk (fun z => z)
      have kI : ∀ k f : Nat, k < sA.n → ¬ (k = 985 + 16 * u ∧ f = 3) → (wI (wP (wR (wR (wI s3 sA.n 2 (-1)) sA.n 0 (some (sA.n + 1))) sA.n 1 (some s2.n)) (985 + 16 * u + 1) scs.length (some sA.n)) (985 + 16 * u) 3 (nI (scs.length + 1))).I k f = sA.I k f := by
        intro k f hk hne
        rw [wI_o hne]
        show (wI s3 sA.n 2 (-1)).I k f = _
        rw [wI_o (by omega)]
        exact kk k f hk
      have kR : ∀ k f : Nat, k < sA.n → (wI (wP (wR (wR (wI s3 sA.n 2 (-1)) sA.n 0 (some (sA.n + 1))) sA.n 1 (some s2.n)) (985 + 16 * u + 1) scs.length (some sA.n)) (985 + 16 * u) 3 (nI (scs.length + 1))).R k f = sA.R k f := by
        intro k f hk
        show (wR (wR (wI s3 sA.n 2 (-1)) sA.n 0 (some (sA.n + 1))) sA.n 1 (some s2.n)).R k f = _
        rw [wR_R, if_neg (by omega), wR_R, if_neg (by omega)]
        exact kr k f hk
      refine ⟨⟨dy, cm, ct, ?_, ?_⟩, ⟨xs, x1.fr ?_ ?_, ?_, x3⟩, ⟨scs ++ [(ts.getD 0 [], ts.getD 1 [])], ac, ⟨es ++ [sA.n], ?_⟩, sl ++ [fs], ?_⟩, ?_, ?_, ?_⟩
      · obtain ⟨z1, z2, z3, z4, z5⟩ := d1
        exact ⟨(kI 0 _ (by omega) (by omega)).trans z1, (kI 0 _ (by omega) (by omega)).trans z2, (kI 0 _ (by omega) (by omega)).trans z3, (kI 0 _ (by omega) (by omega)).trans z4, z5⟩
      · obtain ⟨z1, z2, z3, z4, z5⟩ := d1'
        exact ⟨(r4.2.1 _ _ (fun z => z)).trans z1, (r4.2.1 _ _ (fun z => z)).trans z2, (r4.2.1 _ _ (fun z => z)).trans z3, (r4.2.1 _ _ (fun z => z)).trans z4, z5⟩
      · exact funext fun f => kI _ f (by omega) (by omega)
      · exact funext fun f => kf _ f (by omega)
      · exact x2.fr (funext fun f => (fF _ f (by omega)).trans (fFm _ _ (by decide) (by decide) (by decide) (by decide))) (funext fun f => (fF _ f (by omega)).trans (fFm _ _ (by omega) (by omega) (by omega) (by omega)))
      · refine cSc_app h4' hl (Nat.le_refl _) (show sA.n ≤ s3.n by omega) (fun k hk => o3.2.1 k hk) (wI_e _ _ _ _) ?_ ?_ (kR _ _ (by omega)) (fun k _ hk => funext fun f => kR k f hk) (fun k _ hk => funext fun f => kf k f hk) ?_
        · intro f hf
          show (wP _ _ _ _).P _ _ = _
          rw [wP_P, if_neg (fun z => hf z.2)]
          exact kp _ _ (by omega)
        · show (wP _ _ _ _).P _ _ = _
          rw [wP_P, if_pos ⟨rfl, rfl⟩]
        · refine ⟨show sA.n < s3.n by omega, by omega, ?_, ⟨sA.n + 1, ?_, by omega, hnb⟩, s2.n, ?_, f4⟩
          · show (s3.c sA.n).1 = 1
            have : s3.c sA.n = (nw sA 1 0 6).c sA.n := (oc_t (e5 rNo rNo rNo rNo) (f5 rNo rNo rNo rNo)).2.1 _ (by rw [nw_n]; omega)
            rw [this, nw_c]
          · show (wR (wR (wI s3 sA.n 2 (-1)) sA.n 0 (some (sA.n + 1))) sA.n 1 (some s2.n)).R sA.n 0 = _
            rw [wR_R, if_neg (by omega), wR_R, if_pos ⟨rfl, rfl⟩]
          · show (wR (wR (wI s3 sA.n 2 (-1)) sA.n 0 (some (sA.n + 1))) sA.n 1 (some s2.n)).R sA.n 1 = _
            rw [wR_R, if_pos ⟨rfl, rfl⟩]
      · refine rSc_app h5' hl g2 g3 g4 ?_ ?_ ?_ ?_ ?_ ?_
        · rw [fF _ _ (by omega), cpy_Fo (by decide), wF_o (by omega), wF_e]
        · rw [fF _ _ (by omega), fFm _ _ (by decide) (by decide) (by decide) (by decide)]
        · intro i hi
          rw [fF _ _ (by omega), cpy_Fo (by decide), wF_o (by omega), wF_o (by omega), wF_o (by omega)]
        · rw [fF _ _ (by omega), cpy_Fo (by decide), wF_o (by omega), wF_o (by omega), wF_e]
        · intro g hg
          refine ⟨?_, ?_, fun j hj => ?_, fun j hj => ?_⟩
          · rw [fF _ _ (by omega), cpy_Fo (by decide), wF_o (by omega), wF_o (by omega), wF_o (by omega)]
          · rw [fF _ _ (by omega), fFm _ _ (by decide) (by decide) (by decide) (by decide)]
          · rw [fF _ _ (by omega), cpy_F, if_neg (by omega), wF_o (by omega), wF_o (by omega), wF_o (by omega)]
          · rw [r4.2.2.2 _ _ (by unfold svL; omega)]; rfl
        · refine ⟨⟨hx0, hpt'.2.1, ?_, ?_⟩, ⟨hx, hgd⟩, h8x, r2, r3⟩
          · rw [fF _ _ (by omega), cpy_Fo (by decide), wF_e]
          · intro j hj
            rw [fF _ _ (by omega)]
            exact cpy_Fe (Nat.zero_le _) hj
      · exact oc_I (oc_P (oc_R (oc_R (oc_I (oc_t d4 (oc3 _ _ _ _)) (Or.inr (by omega))) (Or.inr (by omega))) (Or.inr (by omega))) (Or.inl (Or.inr rfl))) (Or.inl (Or.inr (Or.inr (Or.inr ⟨rfl, rfl⟩))))
      · have oa := ol_F (v := nI fs) (k := 1151) (f := 4 * u + scs.length) d5 (Or.inr (Or.inr (Or.inr (Or.inl ⟨Or.inl rfl, by omega, by omega⟩))))
        have ob := ol_F (v := nI (scs.length + 1)) (k := 1149) (f := u) oa (Or.inr (Or.inr (Or.inl ⟨Or.inl rfl, rfl⟩)))
        have occ := ol_F (v := nI (ts.getD 0 []).length) (k := 1153) (f := fs) ob (Or.inr (Or.inr (Or.inr (Or.inl ⟨Or.inr (Or.inl rfl), g2, g3⟩))))
        have od := ol_cpy (K := 1152) (off := 20 * fs) (i := 0) (L := (ts.getD 0 []).length) (g := fun j => nI ((ts.getD 0 []).getD j 0)) occ (fun f z1 z2 => Or.inr (Or.inr (Or.inr (Or.inr ⟨rfl, by omega, by omega⟩))))
        exact ol_t od (ol_w r4 (fun _ _ h => h.elim) (fun k f h => Or.inr (Or.inr (Or.inr (Or.inl ⟨Or.inr (Or.inr h.1), by omega, by omega⟩)))) (fun k f h => ⟨h.1, by unfold svL at h; omega, by unfold svL at h; omega⟩))
      · intro k hk z
        obtain ⟨j, z1, z2, z3⟩ := z
        rw [wI_e, nI_ltJ (by omega) (by omega)] at z2
        have z3 : (wP (wR (wR (wI s3 sA.n 2 (-1)) sA.n 0 (some (sA.n + 1))) sA.n 1 (some s2.n)) (985 + 16 * u + 1) scs.length (some sA.n)).P (985 + 16 * u + 1) j = some k := z3
        rw [wP_P] at z3
        by_cases c : j = scs.length
        · rw [if_pos ⟨rfl, c⟩] at z3
          have := Option.some.inj z3
          omega
        · rw [if_neg (fun e => c e.2)] at z3
          exact d6 k hk ⟨j, z1, by rw [hccnt]; exact nI_lt (by omega) (by omega), (kp _ _ (by omega)).symm.trans z3⟩
    obtain ⟨s4, t4, l1, l2, l3⟩ := cmd_line hu (w := kW_3) (by decide) hmid hroom.1 (show s3.n ≤ s.n + 3 by omega) (show s3.m ≤ s.m + 2030 by omega)
    exact ⟨s4, t4, true, by rw [l1, Option.bind_some], by rw [show kW_204 = kW_3 from rfl, l2, Option.bind_some], l3⟩
  · rw [c1, c2, Option.bind_some, Option.bind_some]
    exact ⟨s2, t2, false, rfl, rfl, cmdR.lost hm c3 (by omega) (by omega)⟩
