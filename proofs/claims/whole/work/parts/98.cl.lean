/-! strings and lists of strings on both sides -/
theorem RV.ret {x : List Nat} {s t : uS} {T v : Nat} {G : uS → Nat → uS → Nat → Prop} (h : G s T t v) : RV x s t (pd T s) (some (t, nI v)) G := Or.inr ⟨T, s, t, v, rfl, rfl, out_r, ol_r, h⟩
theorem RU.ret {x : List Nat} {s t : uS} {T : Nat} {G : uS → Nat → uS → Prop} (h : G s T t) : RU x s t (pd T s) (some t) G := Or.inr ⟨T, s, t, rfl, rfl, out_r, ol_r, h⟩
theorem pb.RU {k fr : Nat} {x : List Nat} {ts : List (List Nat)} {bg e : Nat} {σ : List (Nat × Nat)} {N M cn ob dp rq T : Nat} {s t S U : uS} {G : uS → Nat → uS → Prop} (h : pb k fr x ts bg e σ N M cn ob dp rq T S U) (o : out psI psI s S) (q : ol rdI rdF rNo t U) (g : ∀ (s1 t1 : uS) (b1 e1 : Nat), e ≤ b1 → out lnI' lqF S s1 → out rnI (rqP bg) U t1 → pj k fr x ts bg b1 e1 σ N M cn ob dp rq T s1 t1 → G s1 T t1) : RU x s t ((fn_X2_next S).bind fun s1 => pd T s1) (fn_X12_next U) G := by
  obtain ⟨s1, t1, a1, a2, a3, a4, a5⟩ := go h
  rw [a1, Option.bind_some, a2]
  rcases a5 with ⟨b1, e1, c1, c2⟩ | ⟨p, s2, c1, c2, c3, c4⟩
  · exact Or.inr ⟨T, s1, t1, rfl, rfl, out_t o (ln_ps a3), ol_t q (rq_rd a4), g s1 t1 b1 e1 c1 a3 a4 c2⟩
  · exact Or.inl ⟨p, s2, c1, c2, out_t o (out_t (ln_ps a3) c3), t1, rfl, c4, ol_t q (rq_rd a4)⟩
theorem nI_div12 {i l : Nat} (hi : i < 320) (hl : l < 12) : nI (12 * i + l) / 12 = nI i ∧ nI (12 * i + l) - nI i * 12 = nI l := by
  refine ⟨?_, ?_⟩
  · rw [show nI (12 * i + l) / 12 = nI ((12 * i + l) / 12) from pk_div (d := 12) (by omega) (by decide) (by decide), show (12 * i + l) / 12 = i by omega]
  · rw [show (12 : Int32) = nI 12 from rfl, nI_mul, nI_sub (by omega), show 12 * i + l - i * 12 = l by omega]
def tkc (S : uS) (i l a j n : Nat) : uS := wI (wF (if a = 0 then wF S (17 + 3 * i) l (nI j) else S) (18 + 3 * i) l (nI (a + 1))) 6 5 (nI n)
theorem c_tks {s S : uS} {i l j a n : Nat} (hi : i < 320) (hl : l < 12) (h2 : s.I 7 2 = 3) (h3 : s.I 8 3 = nI (j + 1)) (hj : j < 300) (ha : s.F (18 + 3 * i) l = nI a) (ha9 : a < 10) (hS : fn_X4_isAskedFor (16 + 3 * i) (nI l) (nI j) s = some (S, true)) (SF : S.F = s.F) (S5 : S.I 6 5 = nI (n + 1)) : fn_X4_takeString (nI (12 * i + l)) s = some (tkc S i l a j n, 1) := by
  have e := nI_div12 hi hl
  have e3 : nI (j + 1) - 1 = nI j := nI_sub (show 1 ≤ j + 1 by omega)
  have e5 : nI (n + 1) - 1 = nI n := nI_sub (show 1 ≤ n + 1 by omega)
  unfold fn_X4_takeString fb_X4_takeString_94 fn_X4_pop
  rw [e.1, pgt_nod hi, Option.bind_some, if_pos (so_nod hi), if_pos h2, h3, e3, if_neg (show ¬ nI j < 0 from nI_nlt (b := 0) (Nat.zero_le _) (by omega)), if_neg (show ¬ (300 : Int32) ≤ nI j from nI_ge hj (by decide)), e.2, g_amt hi hl, Option.bind_some, ha, if_neg (show ¬ nI a = 10 by show ¬ nI a = nI 10; rw [nI_eq (by omega) (by omega)]; omega), hS, Option.bind_some, if_pos rfl]
  show ((iget 20 S (16 + 3 * i + 2) (nI l)).bind _) = _
  rw [g_amt hi hl, Option.bind_some, SF, ha]
  unfold tkc
  by_cases q : a = 0
  · rw [q, if_pos (show nI 0 = 0 from rfl), p_fst hi hl, Option.bind_some, g_amt hi hl, Option.bind_some, wF_o (by omega), SF, ha, p_amt hi hl, Option.bind_some, Option.bind_some, if_pos rfl, wF_I, wF_I, S5, e5, q, nI_1]
  · rw [if_neg (show ¬ nI a = 0 by show ¬ nI a = nI 0; rw [nI_eq (by omega) (by omega)]; exact q), Option.bind_some, p_amt hi hl, Option.bind_some, Option.bind_some, if_neg q, wF_I, S5, e5, nI_1]
theorem c_tk0 {s : uS} {i l : Nat} (hi : i < 320) (hl : l < 12) (h2 : s.I 7 2 ≠ 3) : fn_X4_takeString (nI (12 * i + l)) s = some (s, 0) := by
  unfold fn_X4_takeString
  rw [(nI_div12 hi hl).1, pgt_nod hi, Option.bind_some, if_pos (so_nod hi), if_neg h2]
theorem c_tkm {s : uS} {i l j : Nat} (hi : i < 320) (hl : l < 12) (h2 : s.I 7 2 = 3) (h3 : s.I 8 3 = nI (j + 1)) (hj : 300 ≤ j) (hj2 : j < 1000) : fn_X4_takeString (nI (12 * i + l)) s = some (s, 0) := by
  have e3 : nI (j + 1) - 1 = nI j := nI_sub (show 1 ≤ j + 1 by omega)
  unfold fn_X4_takeString
  rw [(nI_div12 hi hl).1, pgt_nod hi, Option.bind_some, if_pos (so_nod hi), if_pos h2, h3, e3, if_neg (show ¬ nI j < 0 from nI_nlt (b := 0) (Nat.zero_le _) (by omega)), if_pos (show (300 : Int32) ≤ nI j from nI_le (a := 300) hj (by omega))]
theorem c_tk2 {s : uS} {i l j : Nat} (hi : i < 320) (hl : l < 12) (h2 : s.I 7 2 = 3) (h3 : s.I 8 3 = nI (j + 1)) (hj : j < 300) (ha : s.F (18 + 3 * i) l = nI 10) : fn_X4_takeString (nI (12 * i + l)) s = some (s, 0) := by
  have e3 : nI (j + 1) - 1 = nI j := nI_sub (show 1 ≤ j + 1 by omega)
  unfold fn_X4_takeString
  rw [(nI_div12 hi hl).1, pgt_nod hi, Option.bind_some, if_pos (so_nod hi), if_pos h2, h3, e3, if_neg (show ¬ nI j < 0 from nI_nlt (b := 0) (Nat.zero_le _) (by omega)), if_neg (show ¬ (300 : Int32) ≤ nI j from nI_ge hj (by decide)), (nI_div12 hi hl).2, g_amt hi hl, Option.bind_some, ha, if_pos (show nI 10 = 10 from rfl)]
theorem c_tk3 {s S : uS} {i l j a : Nat} (hi : i < 320) (hl : l < 12) (h2 : s.I 7 2 = 3) (h3 : s.I 8 3 = nI (j + 1)) (hj : j < 300) (ha : s.F (18 + 3 * i) l = nI a) (ha9 : a < 10) (hS : fn_X4_isAskedFor (16 + 3 * i) (nI l) (nI j) s = some (S, false)) : fn_X4_takeString (nI (12 * i + l)) s = some (S, 0) := by
  have e3 : nI (j + 1) - 1 = nI j := nI_sub (show 1 ≤ j + 1 by omega)
  unfold fn_X4_takeString
  rw [(nI_div12 hi hl).1, pgt_nod hi, Option.bind_some, if_pos (so_nod hi), if_pos h2, h3, e3, if_neg (show ¬ nI j < 0 from nI_nlt (b := 0) (Nat.zero_le _) (by omega)), if_neg (show ¬ (300 : Int32) ≤ nI j from nI_ge hj (by decide)), (nI_div12 hi hl).2, g_amt hi hl, Option.bind_some, ha, if_neg (show ¬ nI a = 10 by show ¬ nI a = nI 10; rw [nI_eq (by omega) (by omega)]; omega), hS, Option.bind_some, if_neg (show ¬ false = true by decide)]
theorem pj.q {k fr : Nat} {x : List Nat} {ts : List (List Nat)} {bg b e : Nat} {σ : List (Nat × Nat)} {N M cn ob dp rq T : Nat} {s t : uS} (h : pj k fr x ts bg b e σ N M cn ob dp rq T s t) (hq : s.I 7 2 = 3) : tkQ k fr x ts bg b e s t := by
  rcases h.1 with h | h | h | h | h | h
  · rw [h.2.2.2.1] at hq; exact absurd hq (by decide)
  · rw [h.2.2.1] at hq; exact absurd hq (by decide)
  · rw [h.2.2.1] at hq; exact absurd hq (by decide)
  · rw [h.2.2.1] at hq; exact absurd hq (by decide)
  · rw [h.2.2.2.1] at hq; exact absurd hq (by decide)
  · exact h
def rsW (t : uS) (j a n : Nat) : uS := wI (wF (wF t 1116 j (nI a)) 1117 j (nI n)) 1079 61 (nI (j + 1))
theorem rsW_o {t : uS} {j a n : Nat} : ol rnJ rnK rNo t (rsW t j a n) := ol_I (ol_F (ol_F ol_r (by unfold rnK; omega)) (by unfold rnK; omega)) ⟨rfl, by omega⟩
/-- string() where a string stands -/
theorem pj.str {k fr : Nat} {x : List Nat} {ts : List (List Nat)} {bg b e : Nat} {σ : List (Nat × Nat)} {N M cn ob dp rq T : Nat} {s t : uS} (h : pj k fr x ts bg b e σ N M cn ob dp rq T s t) (hq : s.I 7 2 = 3) (hl : ts.length < 300) : ∃ str : List Nat, fn_X12_string t = some (rsW t ts.length bg str.length, nI ts.length) ∧ lxB k fr x (ts ++ [str]) (bg + str.length) e s t ∧ pr (ts ++ [str]) (bg + str.length) M cn ob dp rq (rsW t ts.length bg str.length) ∧ s.I 8 3 = nI (ts.length + 1) ∧ b < e ∧ bg + str.length ≤ e ∧ bys str := by
  have h4 := h.is (c := 3) (by decide)
  obtain ⟨a, str, g1, g2, g3, g4, g5, g6, g7, g8, g9, g10, g11⟩ := h.q hq
  obtain ⟨-, -, ⟨r1, r2, r3, r4, r5, r6, r7, r8⟩, k1, k2, k3, k4, -⟩ := h
  have hj : ts.length < 310 := by omega
  have hle : (ts ++ [str]).length = ts.length + 1 := by rw [List.length_append]; rfl
  refine ⟨str, ?_, ⟨g1, g2.1, g3, g2.2.1, g7, k1, k2, by omega, g4⟩, ⟨?_, ?_, ?_, ?_, ?_, ?_, ?_, ?_⟩, ?_, a, g4, g6⟩
  · unfold fn_X12_string fb_X12_string_36
    rw [show (4 : Int32) = nI (3 + 1) from rfl, h4, Option.bind_some, decide_eq_true (show s.I 7 2 = nI 3 from hq), if_pos rfl, r6, if_neg (show ¬ nI ts.length = 300 by show ¬ nI ts.length = nI 300; rw [nI_eq (by omega) (by omega)]; omega), p_1116 hj, Option.bind_some, wF_I, r6, p_1117 hj, Option.bind_some, wF_I, wF_I, r6, wI_e, nI_1, g2.2.2.1, g2.2.2.2.1, show nI (ts.length + 1) - 1 = nI ts.length from nI_sub (show 1 ≤ ts.length + 1 by omega)]
    rfl
  · exact (wI_o (by omega)).trans r1
  · exact (wI_o (by omega)).trans r2
  · exact (wI_o (by omega)).trans r3
  · exact (wI_o (by omega)).trans r4
  · exact (wI_o (by omega)).trans r5
  · rw [hle]; exact wI_e _ _ _ _
  · have hF : ∀ r f : Nat, (rsW t ts.length bg str.length).F r f = (wF (wF t 1116 ts.length (nI bg)) 1117 ts.length (nI str.length)).F r f := fun r f => rfl
    intro j hj
    by_cases c : j < ts.length
    · have e1 : (ts ++ [str]).getD j [] = ts.getD j [] := by
        rw [List.getD_eq_getElem?_getD, List.getD_eq_getElem?_getD, List.getElem?_append_left c]
      obtain ⟨p, p1, p2, p3, pl, p4⟩ := r7 j c
      rw [e1]
      refine ⟨p, by omega, ?_, ?_, pl, fun i hi => ?_⟩
      · rw [hF, wF_o (by omega), wF_o (by omega)]; exact p2
      · rw [hF, wF_o (by omega), wF_o (by omega)]; exact p3
      · rw [hF, wF_o (by omega), wF_o (by omega)]; exact p4 i hi
    · have c' : j = ts.length := by omega
      have e1 : (ts ++ [str]).getD j [] = str := by
        rw [c', List.getD_eq_getElem?_getD, List.getElem?_append_right (Nat.le_refl _), Nat.sub_self]; rfl
      rw [e1]
      refine ⟨bg, by omega, ?_, ?_, g5, fun i hi => ?_⟩
      · rw [hF, c', wF_o (by omega), wF_e]
      · rw [hF, c', wF_e]
      · rw [hF, wF_o (by omega), wF_o (by omega)]; exact g2.2.2.2.2 i hi
  · exact r8
  · rw [g3.1, hle]
/-- string() fails elsewhere -/
theorem pj.strN {k fr : Nat} {x : List Nat} {ts : List (List Nat)} {bg b e : Nat} {σ : List (Nat × Nat)} {N M cn ob dp rq T : Nat} {s t : uS} (h : pj k fr x ts bg b e σ N M cn ob dp rq T s t) (hq : s.I 7 2 ≠ 3 ∨ 300 ≤ ts.length) : FV b t (fn_X12_string t) := by
  have h4 := h.is (c := 3) (by decide)
  obtain ⟨r1, r2, r3, r4, r5, r6, r7, r8⟩ := h.2.2.1
  have k3 := h.2.2.2.2.2.1
  have fl := h.fl
  unfold fn_X12_string fb_X12_string_36
  rw [show (4 : Int32) = nI (3 + 1) from rfl, h4, Option.bind_some]
  by_cases c : s.I 7 2 = nI 3
  · have hl : ts.length = 300 := by rcases hq with z | z; exact absurd c z; omega
    rw [decide_eq_true c, if_pos rfl, r6, if_pos (by rw [hl]; rfl)]
    obtain ⟨t1, a1, a2, a3⟩ := fl
    rw [a1, Option.bind_some]
    have q61 : t1.I 1079 61 = nI 300 := by
      unfold fn_X12_fail fb_X12_fail_12 at a1
      rw [h.1.l.2.2.1, if_neg (show ¬ (0 : Int32) ≤ -1 by decide)] at a1
      rw [← Option.some.inj a1, wI_o (by omega), wI_o (by omega), wI_o (by omega), r6, hl]
    rw [q61, p_1116 (by omega), Option.bind_some, wF_I, q61, p_1117 (by omega), Option.bind_some, wF_I, wF_I, q61, nI_1, wI_e]
    refine ⟨_, 300, by rw [show nI (300 + 1) - 1 = nI 300 from rfl], by omega, ((a2.F (by decide) (by decide)).F (by decide) (by decide)).I (by decide) (by decide), ol_t a3 (ol_I (ol_F (ol_F ol_r (by unfold rdF; omega)) (by unfold rdF; omega)) ⟨rfl, by omega⟩)⟩
  · rw [decide_eq_false c, if_neg (show ¬ false = true by decide)]
    exact fl.uv fun t1 h1 => h1.V (by decide)
