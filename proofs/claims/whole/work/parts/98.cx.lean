/-! fileinto's mailbox, redirect's address, size on both sides -/
theorem allB_s {p : Nat → Bool} {n i : Nat} : allB p (n + 1) i = (p i && allB p n (i + 1)) := rfl
def bxc (c : Nat) : Bool := decide (32 ≤ c ∧ c < 127 ∧ c ≠ 34)
def bxn (w : List Nat) : Bool := allB (fun j => bxc (w.getD j 0)) w.length 0 && decide (0 < w.length ∧ w.length ≤ 20)
theorem bx_s : ∀ c : Fin 256, (if sb c.1 < 32 then false else if (126 : Int32) < sb c.1 then false else if sb c.1 = 34 then false else true) = bxc c.1 := by decide +kernel
theorem c_boxL {s : uS} {ts : List (List Nat)} {bg j fr : Nat} {w : List Nat} (hz : cTz s 8 2000 301 ts bg []) (hj : j < ts.length) (hw : ts.getD j [] = w) (a2 : iget 20 s 11 (nI j) = some (nI (fr + w.length))) (a3 : rdC s 9 fr w) : ∀ (n m i : Nat), m = w.length - i → m < n → i ≤ w.length → fn_X4_isBoxName_7 n 8 (nI j) (nI (fr + i)) s = some (allB (fun j => bxc (w.getD j 0)) m i && decide (0 < w.length ∧ w.length ≤ 20)) := by
  have hf := a3.1
  have hlen := tz_len uTx_str hz hj
  rw [hw] at hlen
  intro n
  induction n with
  | zero => intro m i _ z; omega
  | succ n ih =>
    intro m i hm hn hi
    show fb_X4_isBoxName_7 _ _ _ _ _ = _
    unfold fb_X4_isBoxName_7
    rw [show iget 20 s (8 + 3) (nI j) = some (nI (fr + w.length)) from a2, Option.bind_some]
    by_cases c : w.length ≤ i
    · rw [if_pos (nI_le (by omega) (by omega)), hlen, Option.bind_some, show m = 0 by omega]
      show _ = some (true && _)
      rw [Bool.true_and]
      by_cases d : w.length = 0
      · rw [if_pos (show nI w.length ≤ 0 by rw [d]; decide), decide_eq_false (by omega)]
      · rw [if_neg (show ¬ nI w.length ≤ 0 from nI_ge (a := 0) (by omega) (by omega)), Option.bind_some]
        by_cases f : w.length ≤ 20
        · rw [if_neg (show ¬ (20 : Int32) < nI w.length from nI_nlt (a := 20) f (by decide)), decide_eq_true (by omega)]
        · rw [if_pos (show (20 : Int32) < nI w.length from nI_lt (a := 20) (by omega) (by omega)), decide_eq_false (by omega)]
    · obtain ⟨m', rfl⟩ : ∃ m', m = m' + 1 := ⟨m - 1, by omega⟩
      have h8 := a3.2.1 i
      rw [if_neg (nI_ge (by omega) (by omega)), show iget 21 s (8 + 1) (nI (fr + i)) = some (sb (w.getD i 0)) from a3.2.2 i (by omega), Option.bind_some, nI_1, show fr + i + 1 = fr + (i + 1) by omega, ih m' (i + 1) (by omega) (by omega) (by omega)]
      rw [allB_s]
      have := bx_s ⟨w.getD i 0, h8⟩
      dsimp only at this
      rw [← this]
      split
      · rfl
      · split
        · rfl
        · split
          · rfl
          · rw [Bool.true_and]
theorem c_box {s : uS} {ts : List (List Nat)} {bg j : Nat} (hz : cTz s 8 2000 301 ts bg []) (hj : j < ts.length) : fn_X4_isBoxName 8 (nI j) s = some (bxn (ts.getD j [])) := by
  obtain ⟨fr, a1, a2, a3, a4⟩ := tz_rd uTx_str hz hj
  unfold fn_X4_isBoxName bxn
  rw [a1, Option.bind_some]
  exact c_boxL hz hj rfl a2 a3 uFu _ 0 (by rw [Nat.sub_zero]) (by show _ < 1000000; omega) (Nat.zero_le _)
theorem r_boxL {t : uS} {ts : List (List Nat)} {bg j n0 : Nat} (h : rst ts bg t) (hj : j < ts.length) (hts : ts.length ≤ 301) (hbg : bg ≤ 4000) (h8 : bys (ts.getD j [])) (h40 : t.I 1079 40 = -1) : ∀ (n m i : Nat) (is : Bool), m = (ts.getD j []).length - i → m < n → i ≤ (ts.getD j []).length → fn_X12_file_41 n (nI n0) (nI j) is (nI i) t = fb_X12_file_112 (nI n0) (nI j) (is && allB (fun q => bxc ((ts.getD j []).getD q 0)) m i) t := by
  obtain ⟨a, p1, p2, p3, -, p4⟩ := h j hj
  generalize ts.getD j [] = w at *
  intro n
  induction n with
  | zero => intro m i is _ z; omega
  | succ n ih =>
    intro m i is hm hn hi
    show fb_X12_file_41 _ _ _ _ _ _ = _
    unfold fb_X12_file_41
    rw [h40, if_neg (show ¬ (0 : Int32) ≤ -1 by decide)]
    cases is with
    | false => rw [if_neg (by decide), Bool.false_and]
    | true =>
      rw [if_pos rfl, g_1117 (by omega), Option.bind_some, p3, Bool.true_and]
      by_cases c : w.length ≤ i
      · rw [if_pos (nI_le c (by omega)), show m = 0 by omega]; rfl
      · obtain ⟨m', rfl⟩ : ∃ m', m = m' + 1 := ⟨m - 1, by omega⟩
        have h9 := h8 i
        rw [if_neg (nI_ge (by omega) (by omega)), g_1116 (by omega), Option.bind_some, p2, nI_add, g_1097 (by omega), Option.bind_some, p4 i (by omega), nI_1]
        have nx := fun is => ih m' (i + 1) is (by omega) (by omega) (by omega)
        rw [nx, nx]
        rw [allB_s]
        show _ = fb_X12_file_112 (nI n0) (nI j) (decide (32 ≤ w.getD i 0 ∧ w.getD i 0 < 127 ∧ w.getD i 0 ≠ 34) && allB (fun q => bxc (w.getD q 0)) m' (i + 1)) t
        have l32 : nI (w.getD i 0) < (32 : Int32) ↔ w.getD i 0 < 32 := nI_ltJ (b := 32) (by omega) (by decide)
        have e34 : nI (w.getD i 0) = (34 : Int32) ↔ w.getD i 0 = 34 := nI_eq (b := 34) (by omega) (by omega)
        by_cases c1 : w.getD i 0 < 32
        · rw [if_pos (l32.mpr c1), decide_eq_false (by omega)]
        · rw [if_neg (fun z => c1 (l32.mp z))]
          by_cases c2 : 127 ≤ w.getD i 0
          · rw [if_pos (show (127 : Int32) ≤ nI (w.getD i 0) from nI_le (a := 127) c2 (by omega)), decide_eq_false (by omega)]
          · rw [if_neg (show ¬ (127 : Int32) ≤ nI (w.getD i 0) from nI_ge (b := 127) (by omega) (by decide))]
            by_cases c3 : w.getD i 0 = 34
            · rw [if_pos (e34.mpr c3), decide_eq_false (by omega)]
            · rw [if_neg (fun z => c3 (e34.mp z)), decide_eq_true (by omega)]
theorem r_one {t : uS} {ts : List (List Nat)} {bg j : Nat} (h : rst ts bg t) (hj : j < ts.length) (hts : ts.length ≤ 301) (hbg : bg ≤ 4000) : fn_X12_oneString (nI j) t = some (cpy (wI t 1079 21 (nI (ts.getD j []).length)) 1093 0 0 (ts.getD j []).length (fun i => nI ((ts.getD j []).getD i 0))) := by
  obtain ⟨a, p1, p2, p3, -, p4⟩ := h j hj
  unfold fn_X12_oneString
  rw [g_1117 (by omega), Option.bind_some, p3]
  generalize ts.getD j [] = w at *
  refine cpy0 (F := fun n i s => fn_X12_oneString_12 n (nI j) i s) (fin := fun s => some s) ?_ ?_ (by show _ < 1000000; omega)
  · intro n i hi
    show fb_X12_oneString_12 _ _ (nI i) _ = _
    unfold fb_X12_oneString_12
    rw [cpy_I, wI_e, if_neg (nI_ge hi (by omega)), g_1116 (by omega), Option.bind_some, cpy_Fo (by omega), wI_F, p2, nI_add, g_1097 (by omega), Option.bind_some, cpy_Fo (by omega), wI_F, p4 i hi, p_1093 (by omega), Option.bind_some, nI_1, Nat.zero_add]
  · intro n
    show fb_X12_oneString_12 _ _ (nI w.length) _ = _
    unfold fb_X12_oneString_12
    rw [cpy_I, wI_e, if_pos (nI_le (Nat.le_refl _) (by omega))]
theorem rOne_cpy {t : uS} {w : List Nat} (h8 : bys w) (hl : w.length ≤ 4100) : rOne w (cpy (wI t 1079 21 (nI w.length)) 1093 0 0 w.length (fun i => nI (w.getD i 0))) := by
  refine ⟨?_, hl, h8, fun j hj => ?_⟩
  · rw [cpy_I, wI_e]
  · have := cpy_Fe (s := wI t 1079 21 (nI w.length)) (K := 1093) (off := 0) (i := 0) (L := w.length) (g := fun i => nI (w.getD i 0)) (j := j) (Nat.zero_le _) hj
    rwa [Nat.zero_add] at this
/-- what a single string leaves of a command -/
def sgG (k fr : Nat) (x : List Nat) (ts : List (List Nat)) (bg e : Nat) (σ : List (Nat × Nat)) (N M cn ob dp rq i n l : Nat) (ok : List Nat → Bool) (s t : uS) (s1 : uS) (T1 : Nat) (t1 : uS) : Prop := ∃ (str : List Nat) (b1 e1 : Nat), e ≤ b1 ∧ pj k fr x (ts ++ [str]) (bg + str.length) b1 e1 σ N M cn ob dp rq T1 s1 t1 ∧ ok str = true ∧ s1.F (17 + 3 * i) l = nI ts.length ∧ t1.F 1102 n = nI ts.length ∧ out (cLI i l) (cLF i l) s s1 ∧ ol nrI (nrF n ts.length bg) rNo t t1 ∧ ∀ r : Nat, 1103 ≤ r → r ≤ 1115 → t1.F r n = t.F r n
theorem p_file {k fr : Nat} {x : List Nat} {ts : List (List Nat)} {bg b e : Nat} {σ : List (Nat × Nat)} {N M cn ob dp rq T : Nat} {s t : uS} {i n : Nat} (h : pj k fr x ts bg b e ((10, 12 * i + 3) :: σ) N M cn ob dp rq T s t) (hi : i < 320) (hn : n < 520) (ha : s.F (18 + 3 * i) 3 = nI 0) : RU x s t (pd T s) (fn_X12_file (nI n) t) (sgG k fr x ts bg e σ N M cn ob dp rq i n 3 bxn s t) := by
  rw [pd_10 h]
  have hk := h.2.2.2
  have hx := h.bl
  unfold fn_X12_file
  by_cases c3 : s.I 7 2 = 3
  · by_cases cl : 300 ≤ ts.length
    · have h83 : s.I 8 3 = nI (ts.length + 1) := by
        obtain ⟨a, str, -, -, g3, -⟩ := h.q c3
        rw [g3.1, List.length_append]; rfl
      have k3 := hk.2.2.1
      rw [c_tkm hi (by decide) c3 h83 cl (by omega), Option.bind_some]
      refine h.RU out_r ((h.strN (Or.inr cl)).vu fun t1 v hv h1 => ?_)
      rw [if_pos h1.lt]; exact h1.f41 (n := 999999) hn
    · obtain ⟨str, y1, y2, y3, y4, y5, y6, y7⟩ := h.str c3 (by omega)
      have hz := y2.2.2.1
      have hle : (ts ++ [str]).length = ts.length + 1 := by rw [List.length_append]; rfl
      have hV := rsW_o (t := t) (j := ts.length) (a := bg) (n := str.length)
      have hbx : bg + str.length ≤ 4000 := by have := y2.1.2.2.2.2.2.2.2; omega
      obtain ⟨f0, a1, a2, a3, -⟩ := tz_rd uTx_str hz (i := ts.length) (by omega)
      rw [getD_last] at a2 a3
      have a1 : iget 20 s 10 (nI ts.length) = some (nI f0) := a1
      have a2 : iget 20 s 11 (nI ts.length) = some (nI (f0 + str.length)) := a2
      have t40 : (rsW t ts.length bg str.length).I 1079 40 = -1 := by
        rw [hV.2.1 _ _ (by unfold rnJ; omega)]; exact h.1.l.2.2.1
      have ask : fn_X4_isAskedFor (16 + 3 * i) (nI 3) (nI ts.length) s = some (s, bxn str) := by
        unfold fn_X4_isAskedFor
        rw [a1, Option.bind_some, a2, Option.bind_some, if_neg (show ¬ nI 3 = 2 by decide), if_pos (show nI 3 = 3 from rfl), c_box hz (j := ts.length) (by omega), Option.bind_some]
        rw [getD_last]
      rw [y1, Option.bind_some, if_neg (show ¬ (0 : Int32) ≤ (rsW t ts.length bg str.length).I 1079 40 by rw [t40]; decide)]
      obtain ⟨pa, q1, q2, q3, -, q4⟩ := y3.2.2.2.2.2.2.1 ts.length (by omega)
      rw [getD_last] at q1 q3 q4
      have rl : ∀ is : Bool, fn_X12_file_41 uFu (nI n) (nI ts.length) is 0 (rsW t ts.length bg str.length) = fb_X12_file_112 (nI n) (nI ts.length) (is && allB (fun q => bxc (str.getD q 0)) str.length 0) (rsW t ts.length bg str.length) := by
        intro is
        have := r_boxL (n0 := n) y3.2.2.2.2.2.2.1 (j := ts.length) (by omega) (by omega) hbx (by rw [getD_last]; exact y7) t40 uFu str.length 0 is (by rw [getD_last, Nat.sub_zero]) (by show _ < 1000000; omega) (Nat.zero_le _)
        rw [getD_last] at this
        exact this
      have A : ((iget 20 (rsW t ts.length bg str.length) 1117 (nI ts.length)).bind fun v4 => if v4 ≤ 0 then (fn_X12_file_41 uFu (nI n) (nI ts.length) false 0 (rsW t ts.length bg str.length)) else ((iget 20 (rsW t ts.length bg str.length) 1117 (nI ts.length)).bind fun v7 => if (20 : Int32) < v7 then (fn_X12_file_41 uFu (nI n) (nI ts.length) false 0 (rsW t ts.length bg str.length)) else (fn_X12_file_41 uFu (nI n) (nI ts.length) true 0 (rsW t ts.length bg str.length)))) = fb_X12_file_112 (nI n) (nI ts.length) (bxn str) (rsW t ts.length bg str.length) := by
        rw [g_1117 (by omega), Option.bind_some, q3, rl, rl, Option.bind_some]
        unfold bxn
        by_cases d : str.length = 0
        · rw [if_pos (show nI str.length ≤ 0 by rw [d]; decide), decide_eq_false (by omega), Bool.and_false, Bool.false_and]
        · rw [if_neg (show ¬ nI str.length ≤ 0 from nI_ge (a := 0) (by omega) (by omega))]
          by_cases f : str.length ≤ 20
          · rw [if_neg (show ¬ (20 : Int32) < nI str.length from nI_nlt (a := 20) f (by decide)), decide_eq_true (by omega), Bool.and_true, Bool.true_and]
          · rw [if_pos (show (20 : Int32) < nI str.length from nI_lt (a := 20) (by omega) (by omega)), decide_eq_false (by omega), Bool.and_false, Bool.false_and]
      refine Eq.mpr (congrArg (fun A => RU x s t _ A _) A) ?_
      unfold fb_X12_file_112
      by_cases ok : bxn str = true
      · rw [if_pos ok]
        unfold fb_X12_file_124
        rw [p_1102 hn, Option.bind_some]
        rw [show ∀ A : Option uS, (A.bind fun s3 => some s3) = A from fun A => by cases A <;> rfl]
        refine str_go (rq1 := rq) (S := s) (U := t) h hi (by decide) ha (by decide) c3 (by omega) y4 y2 y6 y5 (by rw [ask, ok]) out_r h.2.1.2.2.2.2.2 hk.2.2.2.2.2.2.2.2.2.2.2.1 (ol_F hV (Or.inr ⟨by omega, by omega⟩)) (y3.wF (by omega)) ?_
        intro s1 t1 b1 e1 w1 w2 w3 w4
        refine ⟨str, b1, e1, w1, w4, ok, ?_, ?_, ?_, ?_, ?_⟩
        · rw [w2.2.2 _ _ (by unfold lqF; omega)]
          show (wF (wF s (17 + 3 * i) 3 (nI ts.length)) (18 + 3 * i) 3 (nI (0 + 1))).F (17 + 3 * i) 3 = _
          rw [wF_o (by omega), wF_e]
        · rw [w3.2.2 _ _ (by unfold rqP; omega), wF_e]
        · refine out_t (s1 := tkc s i 3 0 ts.length σ.length) ?_ (out_w w2 (fun k f z => by unfold lnI' at z; unfold cLI; omega) (fun k f z => by unfold lqF at z; unfold cLF; omega))
          exact out_I (out_F (out_F out_r (by unfold cLF; omega)) (by unfold cLF; omega)) (by unfold cLI; omega)
        · exact ol_t (ol_F (ol_I (ol_F (ol_F ol_r (Or.inl (Or.inr ⟨Or.inl rfl, Nat.le_refl _⟩))) (Or.inl (Or.inr ⟨Or.inr rfl, Nat.le_refl _⟩))) (Or.inl ⟨rfl, Or.inr (Or.inr rfl)⟩)) (Or.inr (Or.inl ⟨by omega, rfl⟩))) (ol_out (out_w w3 (fun k f z => by unfold rnI at z; unfold nrI rLI; omega) (fun k f z => by unfold rqP at z; exact Or.inl (Or.inl ⟨z.1, by omega⟩))))
        · intro r r1 r2
          rw [w3.2.2 _ _ (by unfold rqP; omega), wF_o (by omega)]
          exact (wF_o (by omega)).trans (wF_o (by omega))
      · rw [if_neg ok, c_tk3 hi (by decide) c3 y4 (by omega) ha (by decide) (by rw [ask, Bool.eq_false_iff.mpr ok]), Option.bind_some]
        exact h.RU out_r ((h.fl1 hV (wI_o (by omega)) y3.2.2.2.2.2.2.2).uu fun t1 h1 => h1.f124 hn)
  · rw [c_tk0 hi (by decide) c3, Option.bind_some]
    refine h.RU out_r ((h.strN (Or.inl c3)).vu fun t1 v hv h1 => ?_)
    rw [if_pos h1.lt]; exact h1.f41 (n := 999999) hn
theorem p_redir {k fr : Nat} {x : List Nat} {ts : List (List Nat)} {bg b e : Nat} {σ : List (Nat × Nat)} {N M cn ob dp rq T : Nat} {s t : uS} {i n : Nat} (h : pj k fr x ts bg b e ((10, 12 * i + 4) :: σ) N M cn ob dp rq T s t) (hi : i < 320) (hn : n < 520) (ha : s.F (18 + 3 * i) 4 = nI 0) : RU x s t (pd T s) (fn_X12_redirect (nI n) t) (sgG k fr x ts bg e σ N M cn ob dp rq i n 4 (fun w => (adr w).isSome) s t) := by
  rw [pd_10 h]
  have hk := h.2.2.2
  have hx := h.bl
  unfold fn_X12_redirect
  by_cases c3 : s.I 7 2 = 3
  · by_cases cl : 300 ≤ ts.length
    · have h83 : s.I 8 3 = nI (ts.length + 1) := by
        obtain ⟨a, str, -, -, g3, -⟩ := h.q c3
        rw [g3.1, List.length_append]; rfl
      have k3 := hk.2.2.1
      rw [c_tkm hi (by decide) c3 h83 cl (by omega), Option.bind_some]
      refine h.RU out_r ((h.strN (Or.inr cl)).vu fun t1 v hv h1 => ?_)
      rw [if_pos h1.lt]; unfold fb_X12_redirect_17; rw [if_pos h1.lt]; exact h1.re39 hn
    · obtain ⟨str, y1, y2, y3, y4, y5, y6, y7⟩ := h.str c3 (by omega)
      have hz := y2.2.2.1
      have hle : (ts ++ [str]).length = ts.length + 1 := by rw [List.length_append]; rfl
      have hV := rsW_o (t := t) (j := ts.length) (a := bg) (n := str.length)
      have hbx : bg + str.length ≤ 4000 := by have := y2.1.2.2.2.2.2.2.2; omega
      obtain ⟨f0, a1, a2, a3, -⟩ := tz_rd uTx_str hz (i := ts.length) (by omega)
      rw [getD_last] at a2 a3
      have a1 : iget 20 s 10 (nI ts.length) = some (nI f0) := a1
      have a2 : iget 20 s 11 (nI ts.length) = some (nI (f0 + str.length)) := a2
      have t40 : (rsW t ts.length bg str.length).I 1079 40 = -1 := by
        rw [hV.2.1 _ _ (by unfold rnJ; omega)]; exact h.1.l.2.2.1
      have ask : fn_X4_isAskedFor (16 + 3 * i) (nI 4) (nI ts.length) s = some (s, (fun w => (adr w).isSome) str) := by
        unfold fn_X4_isAskedFor
        rw [a1, Option.bind_some, a2, Option.bind_some, if_neg (show ¬ nI 4 = 2 by decide), if_neg (show ¬ nI 4 = 3 by decide), if_pos (show nI 4 = 4 from rfl), c_addr a3 (by omega), Option.bind_some]
      rw [y1, Option.bind_some, if_neg (show ¬ (0 : Int32) ≤ (rsW t ts.length bg str.length).I 1079 40 by rw [t40]; decide)]
      rw [r_one y3.2.2.2.2.2.2.1 (j := ts.length) (by omega) (by omega) hbx, getD_last, Option.bind_some]
      have hl4 : str.length ≤ 4100 := by omega
      have ho := rOne_cpy (t := rsW t ts.length bg str.length) y7 hl4
      have oW : ol rnJ rnK rNo t (cpy (wI (rsW t ts.length bg str.length) 1079 21 (nI str.length)) 1093 0 0 str.length (fun i => nI (str.getD i 0))) := ol_cpy (ol_I hV ⟨rfl, Or.inl rfl⟩) (fun f _ _ => Or.inl rfl)
      have hI : ∀ f : Nat, f ≠ 21 → (cpy (wI (rsW t ts.length bg str.length) 1079 21 (nI str.length)) 1093 0 0 str.length (fun i => nI (str.getD i 0))).I 1079 f = (rsW t ts.length bg str.length).I 1079 f := fun f hf => by rw [cpy_I, wI_o (by omega)]
      have hF : ∀ r : Nat, r ≠ 1093 → (cpy (wI (rsW t ts.length bg str.length) 1079 21 (nI str.length)) 1093 0 0 str.length (fun i => nI (str.getD i 0))).F r = (rsW t ts.length bg str.length).F r := fun r hr => by rw [cpy_Fo hr, wI_F]
      have oW0 : ol nrI (nrF n ts.length bg) rNo t (cpy (wI (rsW t ts.length bg str.length) 1079 21 (nI str.length)) 1093 0 0 str.length (fun i => nI (str.getD i 0))) := ol_cpy (ol_I (ol_I (ol_F (ol_F ol_r (Or.inl (Or.inr ⟨Or.inl rfl, Nat.le_refl _⟩))) (Or.inl (Or.inr ⟨Or.inr rfl, Nat.le_refl _⟩))) (Or.inl ⟨rfl, Or.inr (Or.inr rfl)⟩)) (Or.inr ⟨rfl, rfl⟩)) (fun f _ _ => Or.inr (Or.inr rfl))
      generalize cpy (wI (rsW t ts.length bg str.length) 1079 21 (nI str.length)) 1093 0 0 str.length (fun i => nI (str.getD i 0)) = U at *
      have hprU : pr (ts ++ [str]) (bg + str.length) M cn ob dp rq U := by
        obtain ⟨r1, r2, r3, r4, r5, r6, r7, r8⟩ := y3
        refine ⟨(hI _ (by omega)).trans r1, (hI _ (by omega)).trans r2, (hI _ (by omega)).trans r3, (hI _ (by omega)).trans r4, (hI _ (by omega)).trans r5, (hI _ (by omega)).trans r6, r7.out (fun j _ => ⟨by rw [hF 1116 (by omega)], by rw [hF 1117 (by omega)]⟩) (fun j _ => by rw [hF 1097 (by omega)]), fun n hn => ?_⟩
        rw [hF 1099 (by omega), hF 1100 (by omega)]; exact r8 n hn
      unfold fb_X12_redirect_17
      rw [if_neg (show ¬ (0 : Int32) ≤ U.I 1079 40 by rw [hI 40 (by omega), t40]; decide), r_atOf ho, Option.bind_some]
      cases hadr : adr str with
      | some at_ =>
        have ok : (fun w => (adr w).isSome) str = true := by show (adr str).isSome = true; rw [hadr]; rfl
        have hat : at_ < str.length := by
          unfold adr at hadr
          cases q : fnb str 64 0 str.length with
          | none => rw [q] at hadr; cases hadr
          | some j =>
            rw [q] at hadr
            have hj := fnb_some q
            dsimp only at hadr
            split at hadr
            · have := Option.some.inj hadr; omega
            · cases hadr
        rw [oI_s, if_pos (show (0 : Int32) ≤ nI at_ from nI_le (a := 0) (Nat.zero_le _) (by omega))]
        unfold fb_X12_redirect_39
        rw [p_1102 hn, Option.bind_some]
        rw [show ∀ A : Option uS, (A.bind fun s3 => some s3) = A from fun A => by cases A <;> rfl]
        refine str_go (rq1 := rq) (S := s) (U := t) h hi (by decide) ha (by decide) c3 (by omega) y4 y2 y6 y5 (by rw [ask, ok]) out_r h.2.1.2.2.2.2.2 hk.2.2.2.2.2.2.2.2.2.2.2.1 (ol_F oW (Or.inr ⟨by omega, by omega⟩)) (hprU.wF (by omega)) ?_
        intro s1 t1 b1 e1 w1 w2 w3 w4
        refine ⟨str, b1, e1, w1, w4, ok, ?_, ?_, ?_, ?_, ?_⟩
        · rw [w2.2.2 _ _ (by unfold lqF; omega)]
          show (wF (wF s (17 + 3 * i) 4 (nI ts.length)) (18 + 3 * i) 4 (nI (0 + 1))).F (17 + 3 * i) 4 = _
          rw [wF_o (by omega), wF_e]
        · rw [w3.2.2 _ _ (by unfold rqP; omega), wF_e]
        · refine out_t (s1 := tkc s i 4 0 ts.length σ.length) ?_ (out_w w2 (fun k f z => by unfold lnI' at z; unfold cLI; omega) (fun k f z => by unfold lqF at z; unfold cLF; omega))
          exact out_I (out_F (out_F out_r (by unfold cLF; omega)) (by unfold cLF; omega)) (by unfold cLI; omega)
        · exact ol_t (ol_F (ol_w oW0 (fun _ _ z => z) (fun _ _ z => z) (fun _ _ z => z)) (Or.inr (Or.inl ⟨by omega, rfl⟩))) (ol_out (out_w w3 (fun k f z => by unfold rnI at z; unfold nrI rLI; omega) (fun k f z => by unfold rqP at z; exact Or.inl (Or.inl ⟨z.1, by omega⟩))))
        · intro r r1 r2
          rw [w3.2.2 _ _ (by unfold rqP; omega), wF_o (by omega), hF r (by omega)]
          exact (wF_o (by omega)).trans (wF_o (by omega))
      | none =>
        rw [oI_n, if_neg (show ¬ (0 : Int32) ≤ -1 by decide), c_tk3 hi (by decide) c3 y4 (by omega) ha (by decide) (by rw [ask]; show some (s, (adr str).isSome) = _; rw [hadr]; rfl), Option.bind_some]
        exact h.RU out_r ((h.fl1 oW ((hI 41 (by omega)).trans (wI_o (by omega))) hprU.2.2.2.2.2.2.2).uu fun t1 h1 => h1.re39 hn)
  · rw [c_tk0 hi (by decide) c3, Option.bind_some]
    refine h.RU out_r ((h.strN (Or.inl c3)).vu fun t1 v hv h1 => ?_)
    rw [if_pos h1.lt]; unfold fb_X12_redirect_17; rw [if_pos h1.lt]; exact h1.re39 hn
