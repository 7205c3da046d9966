/-! words on both sides; a test begins -/
theorem pj.wrd {k fr : Nat} {x : List Nat} {ts : List (List Nat)} {bg b e : Nat} {σ : List (Nat × Nat)} {N M cn ob dp rq T : Nat} {s t : uS} (h : pj k fr x ts bg b e σ N M cn ob dp rq T s t) (K : List Nat) (hK : ∀ c ∈ K, c < 128) (hl : K.length < 900000) : ∃ v : Nat, v ≤ ((spl K).1 :: (spl K).2).length ∧ (s.I 7 2 = 0 → fn_X2_placeIn K s = some (if v = ((spl K).1 :: (spl K).2).length then -1 else nI v)) ∧ (s.I 7 2 ≠ 0 → v = ((spl K).1 :: (spl K).2).length) ∧ (s.I 7 2 = 0 → b < e) ∧ ∀ (W : List Nat) (j : Nat), wdAt ((spl K).1 :: (spl K).2) W j → ∀ U : uS, ol rnJ rnK rNo t U → fn_X12_isWord W U = some (decide (v = j)) := by
  have his : ∀ U : uS, ol rnJ rnK rNo t U → fn_X12_is 1 U = some (decide (s.I 7 2 = nI 0)) := by
    intro U q
    have j : ∀ f : Nat, f < 41 → f ≠ 21 → U.I 1079 f = t.I 1079 f := fun f hf hg => q.2.1 _ _ (by unfold rnJ; omega)
    have := h.is (c := 0) (by decide)
    unfold fn_X12_is at this ⊢
    rw [j 40 (by omega) (by omega), j 31 (by omega) (by omega)]
    exact this
  by_cases c : s.I 7 2 = 0
  · have hW : tkW k fr x ts bg b e s t := by
      rcases h.1 with h | h | h | h | h | h
      · rw [h.2.2.2.1] at c; exact absurd c (by decide)
      · exact h
      · rw [h.2.2.1] at c; exact absurd c (by decide)
      · rw [h.2.2.1] at c; exact absurd c (by decide)
      · rw [h.2.2.2.1] at c; exact absurd c (by decide)
      · obtain ⟨a, str, -, -, -, -, -, -, -, -, -, z, -⟩ := h
        rw [z] at c; exact absurd c (by decide)
    obtain ⟨a1, ⟨g1, g2, g3, g4, g5, g6, g7⟩, a3, a4, a5, a6, a7⟩ := hW
    have he := g1.2.2.2.2.2.2.2
    obtain ⟨v, v1, v2, v3⟩ := wds ((spl K).1 :: (spl K).2) (sub x b e)
    refine ⟨v, v1, fun _ => ?_, fun z => absurd c z, fun _ => a1, fun W j hWd U q => ?_⟩
    · rw [c_placeIn g1 a5 (by omega) he g1.2.2.2.2.2.2.1 hK hl, v2]
    · have jj : ∀ f : Nat, f < 41 → f ≠ 21 → U.I 1079 f = t.I 1079 f := fun f hf hg => q.2.1 _ _ (by unfold rnJ; omega)
      have g : ∀ r f : Nat, r = 1096 → U.F r f = t.F r f := fun r f hr => q.2.2.1 _ _ (by unfold rnK; omega)
      obtain ⟨c1, c2, c3, c4, c5, c6⟩ := g2
      have hw := r_wordIs (t := U) (a := b) (b := e) (p := e) ⟨(jj 29 (by omega) (by omega)).trans c1, fun i hi => (g 1096 i rfl).trans (c2 i hi), c3, c4, (jj 30 (by omega) (by omega)).trans c5, c6⟩ ((jj 33 (by omega) (by omega)).trans a6) ((jj 34 (by omega) (by omega)).trans a7) (by omega) he hWd.1 hWd.2.1
      unfold fn_X12_isWord
      rw [his U q, Option.bind_some, decide_eq_true (show s.I 7 2 = nI 0 from c), if_pos rfl, hw, Option.bind_some, v3 W j hWd]
      by_cases z : v = j
      · rw [decide_eq_true z, if_pos rfl]
      · rw [decide_eq_false z, if_neg (by decide)]
  · refine ⟨((spl K).1 :: (spl K).2).length, Nat.le_refl _, fun z => absurd z c, fun _ => rfl, fun z => absurd z c, fun W j hWd U q => ?_⟩
    unfold fn_X12_isWord
    rw [his U q, Option.bind_some, decide_eq_false (show ¬ s.I 7 2 = nI 0 from c), if_neg (by decide), decide_eq_false (by have := hWd.2.2.2.2; omega)]
def tsL : List (List Nat) := (spl kW_39).1 :: (spl kW_39).2
theorem xw_100 : wdAt tsL kW_100 0 := ⟨by decide, by decide, by decide, by decide, by decide⟩
theorem xw_101 : wdAt tsL kW_101 1 := ⟨by decide, by decide, by decide, by decide, by decide⟩
theorem xw_79 : wdAt tsL kW_79 2 := ⟨by decide, by decide, by decide, by decide, by decide⟩
theorem xw_102 : wdAt tsL kW_102 3 := ⟨by decide, by decide, by decide, by decide, by decide⟩
theorem xw_103 : wdAt tsL kW_103 4 := ⟨by decide, by decide, by decide, by decide, by decide⟩
theorem xw_104 : wdAt tsL kW_104 5 := ⟨by decide, by decide, by decide, by decide, by decide⟩
theorem xw_105 : wdAt tsL kW_105 6 := ⟨by decide, by decide, by decide, by decide, by decide⟩
theorem xw_106 : wdAt tsL kW_106 7 := ⟨by decide, by decide, by decide, by decide, by decide⟩
theorem xw_107 : wdAt tsL kW_107 8 := ⟨by decide, by decide, by decide, by decide, by decide⟩
theorem xw_108 : wdAt tsL kW_108 9 := ⟨by decide, by decide, by decide, by decide, by decide⟩
theorem xw_109 : wdAt tsL kW_109 10 := ⟨by decide, by decide, by decide, by decide, by decide⟩
def stT (v N : Nat) (σ : List (Nat × Nat)) : List (Nat × Nat) := if v ≤ 2 then (8, N) :: (11, 12 * N + 0) :: (11, 12 * N + 1) :: σ else if v = 3 then (8, N) :: (11, 12 * N + 1) :: σ else if v = 4 then (11, 12 * N + 0) :: σ else if v = 5 then (8, N) :: (9, N) :: σ else if v ≤ 7 then (13, 40) :: (5, N) :: (6, N) :: σ else if v = 8 then (5, N) :: (7, N) :: σ else σ
/-- what the reference does of a test behind its word -/
def tsK (R1 : Int32 → uS → Option uS) (R2 : uS → Option (uS × Int32)) (x1 x2 : Int32) (s1 : uS) : Option (uS × Int32) := if x1 = 20 then ((fn_X12_how x2 s1).bind fun s3 => (iput 20 s3 1102 x2 (s3.I 1079 61)).bind fun s5 => (fn_X12_list s5).bind fun r7 => (iput 20 r7.1 1103 x2 r7.2).bind fun s9 => (iput 20 s9 1104 x2 (s9.I 1079 61)).bind fun s11 => (fn_X12_list s11).bind fun r13 => (iput 20 r13.1 1105 x2 r13.2).bind fun s15 => fb_X12_test_419 R1 R2 x2 s15) else (if x1 = 21 then ((fn_X12_how x2 s1).bind fun s17 => (iput 20 s17 1102 x2 (s17.I 1079 61)).bind fun s19 => (fn_X12_list s19).bind fun r21 => (iput 20 r21.1 1103 x2 r21.2).bind fun s23 => (iput 20 s23 1104 x2 (s23.I 1079 61)).bind fun s25 => (fn_X12_list s25).bind fun r27 => (iput 20 r27.1 1105 x2 r27.2).bind fun s29 => fb_X12_test_419 R1 R2 x2 s29) else (if x1 = 22 then ((fn_X12_how x2 s1).bind fun s31 => (iput 20 s31 1102 x2 (s31.I 1079 61)).bind fun s33 => (fn_X12_list s33).bind fun r35 => (iput 20 r35.1 1103 x2 r35.2).bind fun s37 => (iput 20 s37 1104 x2 (s37.I 1079 61)).bind fun s39 => (fn_X12_list s39).bind fun r41 => (iput 20 r41.1 1105 x2 r41.2).bind fun s43 => fb_X12_test_419 R1 R2 x2 s43) else (if x1 = 23 then ((fn_X12_how x2 s1).bind fun s45 => (iput 20 s45 1104 x2 (s45.I 1079 61)).bind fun s47 => (fn_X12_list s47).bind fun r49 => (iput 20 r49.1 1105 x2 r49.2).bind fun s51 => fb_X12_test_419 R1 R2 x2 s51) else (if x1 = 24 then ((iput 20 s1 1102 x2 (s1.I 1079 61)).bind fun s53 => (fn_X12_list s53).bind fun r55 => (iput 20 r55.1 1103 x2 r55.2).bind fun s57 => fb_X12_test_419 R1 R2 x2 s57) else (if x1 = 25 then ((fn_X12_size x2 s1).bind fun s59 => fb_X12_test_419 R1 R2 x2 s59) else (if x1 = 26 then ((R1 x2 s1).bind fun s61 => fb_X12_test_419 R1 R2 x2 s61) else (if x1 = 27 then ((R1 x2 s1).bind fun s63 => fb_X12_test_419 R1 R2 x2 s63) else (if x1 = 28 then ((R2 s1).bind fun r65 => (fn_X12_put x2 r65.2 r65.1).bind fun s67 => fb_X12_test_419 R1 R2 x2 s67) else (fb_X12_test_419 R1 R2 x2 s1)))))))))
theorem tsK_e {R1 : Int32 → uS → Option uS} {R2 : uS → Option (uS × Int32)} {x1 x2 : Int32} {s : uS} : fb_X12_test_238 R1 R2 x1 x2 s = (fn_X12_next s).bind fun s1 => tsK R1 R2 x1 x2 s1 := rfl
theorem r_testW {R1 : Int32 → uS → Option uS} {R2 : uS → Option (uS × Int32)} {v : Nat} {t : uS} (hv : v ≤ 11) (w : ∀ (W : List Nat) (j : Nat), wdAt tsL W j → ∀ U : uS, ol rnJ rnK rNo t U → fn_X12_isWord W U = some (decide (v = j))) : fn_X12_test R1 R2 t = fb_X12_test_166 R1 R2 (if v = 11 then -1 else nI (20 + v)) t := by
  unfold fn_X12_test
  rw [w kW_100 0 xw_100 t ol_r, w kW_101 1 xw_101 t ol_r, w kW_79 2 xw_79 t ol_r, w kW_102 3 xw_102 t ol_r, w kW_103 4 xw_103 t ol_r, w kW_104 5 xw_104 t ol_r, w kW_105 6 xw_105 t ol_r, w kW_106 7 xw_106 t ol_r, w kW_107 8 xw_107 t ol_r, w kW_108 9 xw_108 t ol_r, w kW_109 10 xw_109 t ol_r]
  have : v = 0 ∨ v = 1 ∨ v = 2 ∨ v = 3 ∨ v = 4 ∨ v = 5 ∨ v = 6 ∨ v = 7 ∨ v = 8 ∨ v = 9 ∨ v = 10 ∨ v = 11 := by omega
  rcases this with z | z | z | z | z | z | z | z | z | z | z | z <;> rw [z] <;> rfl
theorem c_parts {S : uS} {N v n : Nat} (hv : v ≤ 5) (h5 : S.I 6 5 = nI n) (hn : n < 100) : ∃ S1 : uS, fn_X4_pushPartsOfTest (nI N) (11 + nI v) S = some S1 ∧ S1 = (if v ≤ 2 then psh (psh (psh S n 11 (nI (12 * N + 1))) (n + 1) 11 (nI (12 * N + 0))) (n + 2) 8 (nI N) else if v = 3 then psh (psh S n 11 (nI (12 * N + 1))) (n + 1) 8 (nI N) else if v = 4 then psh S n 11 (nI (12 * N + 0)) else psh (psh S n 9 (nI N)) (n + 1) 8 (nI N)) := by
  have p1 : ∀ S : uS, ∀ n : Nat, S.I 6 5 = nI n → n < 120 → fn_X4_pushList 11 (nI N) 1 S = some (psh S n 11 (nI (12 * N + 1))) := fun S n h5 hn => c_pushL (l := 1) h5 hn
  have p0 : ∀ S : uS, ∀ n : Nat, S.I 6 5 = nI n → n < 120 → fn_X4_pushList 11 (nI N) 0 S = some (psh S n 11 (nI (12 * N + 0))) := fun S n h5 hn => c_pushL (l := 0) h5 hn
  unfold fn_X4_pushPartsOfTest fb_X4_pushPartsOfTest_30 fb_X4_pushPartsOfTest_50
  have : v = 0 ∨ v = 1 ∨ v = 2 ∨ v = 3 ∨ v = 4 ∨ v = 5 := by omega
  rcases this with z | z | z | z | z | z <;> rw [z]
  · rw [if_neg (show ¬ (11 : Int32) + nI 0 = 16 by decide), if_neg (show ¬ (11 : Int32) + nI 0 = 15 by decide), p1 S n h5 (by omega), Option.bind_some, if_neg (show ¬ (11 : Int32) + nI 0 = 16 by decide), if_neg (show ¬ (11 : Int32) + nI 0 = 14 by decide), p0 _ (n + 1) psh_5 (by omega), Option.bind_some, show tget kS_2 ((11 : Int32) + nI 0) = some (nI (TKn.getD 11 0)) from tg_2 (v := 11) (by decide), Option.bind_some, if_neg (show ¬ nI (TKn.getD 11 0) = 0 by decide), c_push (n := n + 2) psh_5 (by omega), Option.bind_some]
    exact ⟨_, rfl, rfl⟩
  · rw [if_neg (show ¬ (11 : Int32) + nI 1 = 16 by decide), if_neg (show ¬ (11 : Int32) + nI 1 = 15 by decide), p1 S n h5 (by omega), Option.bind_some, if_neg (show ¬ (11 : Int32) + nI 1 = 16 by decide), if_neg (show ¬ (11 : Int32) + nI 1 = 14 by decide), p0 _ (n + 1) psh_5 (by omega), Option.bind_some, show tget kS_2 ((11 : Int32) + nI 1) = some (nI (TKn.getD 12 0)) from tg_2 (v := 12) (by decide), Option.bind_some, if_neg (show ¬ nI (TKn.getD 12 0) = 0 by decide), c_push (n := n + 2) psh_5 (by omega), Option.bind_some]
    exact ⟨_, rfl, rfl⟩
  · rw [if_neg (show ¬ (11 : Int32) + nI 2 = 16 by decide), if_neg (show ¬ (11 : Int32) + nI 2 = 15 by decide), p1 S n h5 (by omega), Option.bind_some, if_neg (show ¬ (11 : Int32) + nI 2 = 16 by decide), if_neg (show ¬ (11 : Int32) + nI 2 = 14 by decide), p0 _ (n + 1) psh_5 (by omega), Option.bind_some, show tget kS_2 ((11 : Int32) + nI 2) = some (nI (TKn.getD 13 0)) from tg_2 (v := 13) (by decide), Option.bind_some, if_neg (show ¬ nI (TKn.getD 13 0) = 0 by decide), c_push (n := n + 2) psh_5 (by omega), Option.bind_some]
    exact ⟨_, rfl, rfl⟩
  · rw [if_neg (show ¬ (11 : Int32) + nI 3 = 16 by decide), if_neg (show ¬ (11 : Int32) + nI 3 = 15 by decide), p1 S n h5 (by omega), Option.bind_some, if_neg (show ¬ (11 : Int32) + nI 3 = 16 by decide), if_pos (show (11 : Int32) + nI 3 = 14 from rfl), show tget kS_2 ((11 : Int32) + nI 3) = some (nI (TKn.getD 14 0)) from tg_2 (v := 14) (by decide), Option.bind_some, if_neg (show ¬ nI (TKn.getD 14 0) = 0 by decide), c_push (n := n + 1) psh_5 (by omega), Option.bind_some]
    exact ⟨_, rfl, rfl⟩
  · rw [if_neg (show ¬ (11 : Int32) + nI 4 = 16 by decide), if_pos (show (11 : Int32) + nI 4 = 15 from rfl), if_neg (show ¬ (11 : Int32) + nI 4 = 16 by decide), if_neg (show ¬ (11 : Int32) + nI 4 = 14 by decide), p0 S n h5 (by omega), Option.bind_some, show tget kS_2 ((11 : Int32) + nI 4) = some (nI (TKn.getD 15 0)) from tg_2 (v := 15) (by decide), Option.bind_some, if_pos (show nI (TKn.getD 15 0) = 0 from rfl)]
    exact ⟨_, rfl, rfl⟩
  · rw [if_pos (show (11 : Int32) + nI 5 = 16 from rfl), c_push h5 (by omega), Option.bind_some, if_pos (show (11 : Int32) + nI 5 = 16 from rfl), show tget kS_2 ((11 : Int32) + nI 5) = some (nI (TKn.getD 16 0)) from tg_2 (v := 16) (by decide), Option.bind_some, if_neg (show ¬ nI (TKn.getD 16 0) = 0 by decide), c_push (n := n + 1) psh_5 (by omega), Option.bind_some]
    exact ⟨_, rfl, rfl⟩
