/-! the lexers: the reference reads texts -/
/-- what holds while the reference copies bytes to its pool -/
def rPl1 (t : uS) (x : List Nat) (q bg : Nat) (acc : List Nat) : Prop := lxR t x q ∧ t.I 1079 37 = nI (bg + acc.length) ∧ t.I 1079 38 = nI bg ∧ (∀ j : Nat, j < acc.length → t.F 1097 (bg + j) = nI (acc.getD j 0)) ∧ acc.length ≤ 1000 ∧ bg + acc.length ≤ q
theorem rPl1.into {t : uS} {x : List Nat} {q bg : Nat} {acc : List Nat} (h : rPl1 t x q bg acc) (hq : q < x.length) : fn_X12_into (nI (x.getD q 0)) 1000 t = if acc.length = 1000 then some (t, false) else some (wI (wF t 1097 (bg + acc.length) (nI (x.getD q 0))) 1079 37 (nI (bg + acc.length + 1)), true) := by
  obtain ⟨h1, h2, h3, h4, h5, h6⟩ := h
  have := h1.2.2.2.1
  exact r_into (by omega) h2 h3 h5 (by decide)
def rNx (t : uS) (bg q : Nat) (acc : List Nat) (b : Nat) : uS := wI (wI (wF t 1097 (bg + acc.length) (nI b)) 1079 37 (nI (bg + acc.length + 1))) 1079 30 (nI (q + 1))
theorem rPl1.nx {t : uS} {x : List Nat} {q bg : Nat} {acc : List Nat} (h : rPl1 t x q bg acc) (hq : q < x.length) (hl : acc.length < 1000) : rPl1 (rNx t bg q acc (x.getD q 0)) x (q + 1) bg (acc ++ [x.getD q 0]) ∧ out rqI rqF t (rNx t bg q acc (x.getD q 0)) ∧ ∀ j : Nat, j < bg → (rNx t bg q acc (x.getD q 0)).F 1097 j = t.F 1097 j := by
  obtain ⟨h1, h2, h3, h4, h5, h6⟩ := h
  unfold rNx
  refine ⟨⟨h1.fr ((wI_o (by omega)).trans (wI_o (by omega))) (wF_r (by decide)) (wI_e _ _ _ _) (by omega), by rw [wI_o (by omega), wI_e, List.length_append]; rfl, by rw [wI_o (by omega), wI_o (by omega), wF_I]; exact h3, ?_, by rw [List.length_append]; show acc.length + 1 ≤ 1000; omega, by rw [List.length_append]; show bg + (acc.length + 1) ≤ q + 1; omega⟩, out_I (out_I (out_F out_r rfl) ⟨rfl, Or.inr (Or.inl rfl)⟩) ⟨rfl, Or.inl rfl⟩, ?_⟩
  · intro j hj
    rw [List.length_append] at hj
    have hj : j < acc.length + 1 := hj
    rw [wI_F, wI_F]
    by_cases z : j = acc.length
    · rw [z, wF_e, getDn_end]
    · rw [wF_o (by omega), getDn_app (by omega)]; exact h4 j (by omega)
  · intro j hj
    rw [wI_F, wI_F, wF_o (by omega)]
theorem sub_one {x : List Nat} {q : Nat} (h : q < x.length) : sub x q (q + 1) = [x.getD q 0] := by
  unfold sub
  rw [show q + 1 - q = 1 by omega, dropN h]
  rfl
theorem sub_cons {x : List Nat} {q c : Nat} (h : q < x.length) (hc : q < c) : sub x q c = x.getD q 0 :: sub x (q + 1) c := by
  unfold sub
  rw [dropN h, show c - q = (c - (q + 1)) + 1 by omega]
  rfl
theorem sub_nil {x : List Nat} {q : Nat} : sub x q q = [] := by
  unfold sub
  rw [Nat.sub_self]
  rfl
/-- copying e bytes, the end of a line -/
theorem r_cp200 {x : List Nat} {bg e : Nat} (K81 : uS → Option (uS × Int32)) : ∀ (d n i q : Nat) (t : uS) (acc : List Nat), d = e - i → i ≤ e → e ≤ 2 → d < n → rPl1 t x q bg acc → q + d ≤ x.length → (acc.length + d ≤ 1000 ∧ ∃ t1 : uS, fn_X12_lines_200 K81 n (nI e) (nI i) t = K81 t1 ∧ rPl1 t1 x (q + d) bg (acc ++ sub x q (q + d)) ∧ out rqI rqF t t1 ∧ ∀ j : Nat, j < bg → t1.F 1097 j = t.F 1097 j) ∨ (1000 < acc.length + d ∧ ∃ t1 : uS, fn_X12_lines_200 K81 n (nI e) (nI i) t = some (t1, 5) ∧ out rqI rqF t t1 ∧ ∀ j : Nat, j < bg → t1.F 1097 j = t.F 1097 j) := by
  intro d
  induction d with
  | zero =>
    intro n i q t acc h1 h2 h3 h4 h5 h6
    left
    refine ⟨by have := h5.2.2.2.2.1; omega, t, ?_, by rw [Nat.add_zero, sub_nil, List.append_nil]; exact h5, out_r, fun _ _ => rfl⟩
    cases n with
    | zero => omega
    | succ n =>
      unfold fn_X12_lines_200 fb_X12_lines_200
      rw [if_pos (nI_le (by omega) (by omega))]
  | succ d ih =>
    intro n i q t acc h1 h2 h3 h4 h5 h6
    cases n with
    | zero => omega
    | succ n =>
      have hb := h5.1.2.2.1 q
      have hpk : fn_X12_peek 0 t = some (nI (x.getD q 0)) := by rw [h5.1.peek0, if_pos (by omega)]
      have hin := h5.into (show q < x.length by omega)
      have hal := h5.2.2.2.2.1
      by_cases c : acc.length = 1000
      · right
        refine ⟨by omega, t, ?_, out_r, fun _ _ => rfl⟩
        unfold fn_X12_lines_200 fb_X12_lines_200
        rw [if_neg (nI_ge (by omega) (by omega)), hpk, Option.bind_some, hin, if_pos c, Option.bind_some, if_neg (show ¬ (false = true) by decide)]
      · obtain ⟨n1, n2, n3⟩ := h5.nx (show q < x.length by omega) (by omega)
        have hrun : fn_X12_lines_200 K81 (n + 1) (nI e) (nI i) t = fn_X12_lines_200 K81 n (nI e) (nI (i + 1)) (rNx t bg q acc (x.getD q 0)) := by
          show fb_X12_lines_200 K81 (fn_X12_lines_200 K81 n) _ _ _ = _
          unfold fb_X12_lines_200
          rw [if_neg (nI_ge (by omega) (by omega)), hpk, Option.bind_some, hin, if_neg c, Option.bind_some, if_pos rfl, nI_1]
          show fn_X12_lines_200 K81 n (nI e) (nI (i + 1)) (wI (wI (wF t 1097 (bg + acc.length) (nI (x.getD q 0))) 1079 37 (nI (bg + acc.length + 1))) 1079 30 ((wI (wF t 1097 (bg + acc.length) (nI (x.getD q 0))) 1079 37 (nI (bg + acc.length + 1))).I 1079 30 + 1)) = _
          rw [wI_o (show ¬ (1079 = 1079 ∧ 30 = 37) by decide), wF_I, h5.1.2.2.2.2.1, nI_1]
          rfl
        have hal2 : (acc ++ [x.getD q 0]).length = acc.length + 1 := by rw [List.length_append]; rfl
        rcases ih n (i + 1) (q + 1) _ (acc ++ [x.getD q 0]) (by omega) (by omega) h3 (by omega) n1 (by omega) with ⟨z1, t1, z2, z3, z4, z5⟩ | ⟨z1, t1, z2, z4, z5⟩
        · rw [hal2] at z1
          left
          refine ⟨by omega, t1, hrun.trans z2, ?_, out_t n2 z4, fun j hj => (z5 j hj).trans (n3 j hj)⟩
          rw [show q + (d + 1) = q + 1 + d by omega, sub_cons (show q < x.length by omega) (by omega)]
          rw [List.append_assoc] at z3
          exact z3
        · rw [hal2] at z1
          exact Or.inr ⟨by omega, t1, hrun.trans z2, out_t n2 z4, fun j hj => (z5 j hj).trans (n3 j hj)⟩
/-- copying a line -/
theorem r_line1 {x : List Nat} {bg : Nat} (K81 : uS → Option (uS × Int32)) : ∀ (n q : Nat) (t : uS) (acc : List Nat), rPl1 t x q bg acc → x.length < q + n → (lfx x 10 q < x.length ∧ acc.length + (lfx x 10 q + 1 - q) ≤ 1000 ∧ ∃ t1 : uS, fn_X12_lines_134 K81 n t = K81 t1 ∧ rPl1 t1 x (lfx x 10 q + 1) bg (acc ++ sub x q (lfx x 10 q + 1)) ∧ out rqI rqF t t1 ∧ ∀ j : Nat, j < bg → t1.F 1097 j = t.F 1097 j) ∨ ((x.length ≤ lfx x 10 q ∨ 1000 < acc.length + (lfx x 10 q + 1 - q)) ∧ ∃ t1 : uS, fn_X12_lines_134 K81 n t = some (t1, 5) ∧ out rqI rqF t t1 ∧ ∀ j : Nat, j < bg → t1.F 1097 j = t.F 1097 j) := by
  intro n
  induction n with
  | zero => intro q t acc h a; have := h.1.2.2.2.2.2; omega
  | succ n ih =>
    intro q t acc h a
    have hp := h.1.2.2.2.2.2
    have h4 := h.1.2.2.2.1
    have h5 := h.1.2.2.2.2.1
    have hend : fn_X12_endAt (t.I 1079 30) t = some (nI (eAt x q)) := by rw [h5]; exact r_endAt h.1 (by omega)
    have hle := lfx_le (x := x) (b := 10) hp
    have hal := h.2.2.2.2.1
    have unf : fn_X12_lines_134 K81 (n + 1) t = fb_X12_lines_134 K81 (fn_X12_lines_134 K81 n) t := rfl
    rw [unf]
    unfold fb_X12_lines_134 fb_X12_lines_183
    rw [hend]
    by_cases c : q < x.length
    · have b1 := h.1.2.2.1 q
      have hpk : fn_X12_peek 0 t = some (nI (x.getD q 0)) := by rw [h.1.peek0, if_pos c]
      simp only [hpk, Option.bind_some, if_neg (nI_pos (show x.getD q 0 < 2 ^ 31 by omega))]
      have hls := lfx_s (b := 10) c
      rcases eAt_v x q with e0 | ⟨e1, e1'⟩ | ⟨e2, e2'⟩
      · -- a byte of the line
        have hne : x.getD q 0 ≠ 10 := by
          intro z
          unfold eAt at e0
          rw [if_pos ⟨c, z⟩] at e0
          cases e0
        rw [if_neg hne] at hls
        have hle1 := lfx_le (x := x) (b := 10) (p := q + 1) (by omega)
        rw [e0]
        simp only [if_pos (show nI 0 = 0 from rfl)]
        have hin := h.into c
        rw [hin]
        by_cases d : acc.length = 1000
        · right
          rw [if_pos d, Option.bind_some, if_neg (show ¬ (false = true) by decide)]
          exact ⟨by omega, t, rfl, out_r, fun _ _ => rfl⟩
        · rw [if_neg d, Option.bind_some, if_pos rfl]
          obtain ⟨n1, n2, n3⟩ := h.nx c (by omega)
          have e30 : (wI (wF t 1097 (bg + acc.length) (nI (x.getD q 0))) 1079 37 (nI (bg + acc.length + 1))).I 1079 30 = nI q := by rw [wI_o (by omega), wF_I]; exact h5
          have hal2 : (acc ++ [x.getD q 0]).length = acc.length + 1 := by rw [List.length_append]; rfl
          rw [e30, nI_1]
          have hih := ih (q + 1) _ (acc ++ [x.getD q 0]) n1 (by omega)
          rw [hal2, ← hls] at hih
          rcases hih with ⟨z0, z1, t1, z2, z3, z4, z5⟩ | ⟨z1, t1, z2, z4, z5⟩
          · left
            refine ⟨z0, by omega, t1, z2, ?_, out_t n2 z4, fun j hj => (z5 j hj).trans (n3 j hj)⟩
            rw [sub_cons c (by omega)]
            rw [List.append_assoc] at z3
            exact z3
          · right
            refine ⟨?_, t1, z2, out_t n2 z4, fun j hj => (z5 j hj).trans (n3 j hj)⟩
            rcases z1 with z1 | z1
            · exact Or.inl z1
            · exact Or.inr (by omega)
      · -- LF
        have hlf : x.getD q 0 = 10 := by
          unfold eAt at e1
          by_cases z : q < x.length ∧ x.getD q 0 = 10
          · exact z.2
          · rw [if_neg z] at e1
            split at e1
            · cases e1
            · cases e1
        rw [if_pos hlf] at hls
        rw [hls, e1]
        simp only [if_neg (show ¬ nI 1 = 0 by decide)]
        have := r_cp200 (x := x) (bg := bg) (e := 1) K81 1 uFu 0 q t acc rfl (by omega) (by omega) (by show 1 < 1000000; omega) h (by omega)
        have e : q + 1 - q = 1 := by omega
        rw [e]
        rcases this with ⟨z1, t1, z2, z3, z4, z5⟩ | ⟨z1, t1, z2, z4, z5⟩
        · exact Or.inl ⟨c, z1, t1, z2, z3, z4, z5⟩
        · exact Or.inr ⟨Or.inr z1, t1, z2, z4, z5⟩
      · -- CR LF
        have hcr : x.getD q 0 = 13 ∧ x.getD (q + 1) 0 = 10 := by
          unfold eAt at e2
          by_cases z : q < x.length ∧ x.getD q 0 = 10
          · rw [if_pos z] at e2; cases e2
          · rw [if_neg z] at e2
            by_cases z2 : q + 1 < x.length ∧ x.getD q 0 = 13 ∧ x.getD (q + 1) 0 = 10
            · exact z2.2
            · rw [if_neg z2] at e2; cases e2
        rw [if_neg (by omega), lfx_s e2', if_pos hcr.2] at hls
        rw [hls, e2]
        simp only [if_neg (show ¬ nI 2 = 0 by decide)]
        have := r_cp200 (x := x) (bg := bg) (e := 2) K81 2 uFu 0 q t acc rfl (by omega) (by omega) (by show 2 < 1000000; omega) h (by omega)
        have e : q + 1 + 1 - q = 2 := by omega
        rw [e]
        rcases this with ⟨z1, t1, z2, z3, z4, z5⟩ | ⟨z1, t1, z2, z4, z5⟩
        · exact Or.inl ⟨by omega, z1, t1, z2, z3, z4, z5⟩
        · exact Or.inr ⟨Or.inr z1, t1, z2, z4, z5⟩
    · right
      have hpk : fn_X12_peek 0 t = some (-1) := by rw [h.1.peek0, if_neg c]
      have e0 : eAt x q = 0 := by
        rcases eAt_v x q with e0 | ⟨e1, e1'⟩ | ⟨e2, e2'⟩
        · exact e0
        · omega
        · omega
      rw [hpk, Option.bind_some, if_pos (show (-1 : Int32) < 0 by decide), e0, Option.bind_some, if_pos (show nI 0 = 0 from rfl)]
      exact ⟨Or.inl (by rw [lfx_e (by omega)]; omega), t, rfl, out_r, fun _ _ => rfl⟩
