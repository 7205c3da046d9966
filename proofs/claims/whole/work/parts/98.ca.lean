/-! the lexers: the reference reads texts, to their end -/
theorem dot_e {x : List Nat} {i : Nat} (hi : i < x.length) (h46 : x.getD i 0 = 46) : (eAt x (i + 1) = 0 ∧ (x.length ≤ lfx x 10 i ∨ ¬ tdot x i (lfx x 10 i))) ∨ (0 < eAt x (i + 1) ∧ lfx x 10 i < x.length ∧ tdot x i (lfx x 10 i) ∧ lfx x 10 i + 1 = i + 1 + eAt x (i + 1)) := by
  have hl : lfx x 10 i = lfx x 10 (i + 1) := by rw [lfx_s hi, if_neg (by omega)]
  unfold eAt
  by_cases c : i + 1 < x.length ∧ x.getD (i + 1) 0 = 10
  · right
    have hl2 : lfx x 10 (i + 1) = i + 1 := by rw [lfx_s c.1, if_pos c.2]
    rw [if_pos c, hl, hl2]
    exact ⟨by decide, c.1, ⟨h46, Or.inl rfl⟩, rfl⟩
  · rw [if_neg c]
    by_cases d : i + 1 + 1 < x.length ∧ x.getD (i + 1) 0 = 13 ∧ x.getD (i + 1 + 1) 0 = 10
    · right
      have hl2 : lfx x 10 (i + 1) = i + 2 := by rw [lfx_s (by omega), if_neg (by omega), lfx_s d.1, if_pos d.2.2]
      rw [if_pos d, hl, hl2]
      exact ⟨by decide, d.1, ⟨h46, Or.inr ⟨rfl, d.2.1⟩⟩, rfl⟩
    · left
      rw [if_neg d]
      refine ⟨rfl, ?_⟩
      by_cases z : x.length ≤ lfx x 10 i
      · exact Or.inl z
      · right
        have h10 := lfx_10 (x := x) (b := 10) (p := i) (by omega)
        intro y
        rcases y.2 with y2 | ⟨y2, y3⟩
        · exact c ⟨by omega, by rw [← y2]; exact h10.1⟩
        · exact d ⟨by omega, y3, by rw [show i + 1 + 1 = i + 2 by omega, ← y2]; exact h10.1⟩
theorem lfx_ta {x : List Nat} {i : Nat} (hi : i < x.length) : lfx x 10 (ta x i) = lfx x 10 i := by
  unfold ta
  split
  · rename_i c
    rw [lfx_s hi, if_neg (by omega)]
  · rfl
/-- what a text leaves -/
def rTxt (t t1 : uS) (bg : Nat) : Prop := out rqI rqF t t1 ∧ ∀ j : Nat, j < bg → t1.F 1097 j = t.F 1097 j
def rStr (t1 : uS) (x : List Nat) (bg e : Nat) (str : List Nat) : Prop := lxR t1 x e ∧ t1.I 1079 37 = nI (bg + str.length) ∧ t1.I 1079 38 = nI bg ∧ t1.I 1079 39 = nI str.length ∧ ∀ j : Nat, j < str.length → t1.F 1097 (bg + j) = nI (str.getD j 0)
theorem r_txt {x : List Nat} {bg : Nat} : ∀ (n i : Nat) (t : uS) (acc : List Nat), rPl1 t x i bg acc → x.length < i + n → ∃ t1 : uS, rTxt t t1 bg ∧ (match tl x n i acc with | none => fn_X12_lines_81 n t = some (t1, 5) | some (str, e) => fn_X12_lines_81 n t = some (t1, 4) ∧ rStr t1 x bg e str) := by
  intro n
  induction n with
  | zero => intro i t acc h a; have := h.1.2.2.2.2.2; omega
  | succ n ih =>
    intro i t acc h a
    have hp := h.1.2.2.2.2.2
    have h4 := h.1.2.2.2.1
    have h5 := h.1.2.2.2.2.1
    have hal := h.2.2.2.2.1
    have hbg := h.2.2.2.2.2
    have hfn : fn_X12_lines_81 (n + 1) t = fb_X12_lines_81 (fn_X12_lines_81 n) t := rfl
    rw [hfn]
    unfold tl
    -- a line that isn't the end
    have line : (x.length ≤ lfx x 10 i ∨ ¬ tdot x i (lfx x 10 i)) → ∃ t1 : uS, rTxt t t1 bg ∧ (match (if x.length ≤ lfx x 10 i then none else if tdot x i (lfx x 10 i) then some (acc, lfx x 10 i + 1) else if 1000 < acc.length + (lfx x 10 i + 1 - ta x i) then none else tl x n (lfx x 10 i + 1) (acc ++ sub x (ta x i) (lfx x 10 i + 1))) with | none => fb_X12_lines_104 (fn_X12_lines_81 n) t = some (t1, 5) | some (str, e) => fb_X12_lines_104 (fn_X12_lines_81 n) t = some (t1, 4) ∧ rStr t1 x bg e str) := by
      intro hnd
      have main : ∀ t' : uS, rPl1 t' x (ta x i) bg acc → out rqI rqF t t' → (∀ j : Nat, j < bg → t'.F 1097 j = t.F 1097 j) → lfx x 10 (ta x i) = lfx x 10 i → fb_X12_lines_104 (fn_X12_lines_81 n) t = fn_X12_lines_134 (fn_X12_lines_81 n) uFu t' → ∃ t1 : uS, rTxt t t1 bg ∧ (match (if x.length ≤ lfx x 10 i then none else if tdot x i (lfx x 10 i) then some (acc, lfx x 10 i + 1) else if 1000 < acc.length + (lfx x 10 i + 1 - ta x i) then none else tl x n (lfx x 10 i + 1) (acc ++ sub x (ta x i) (lfx x 10 i + 1))) with | none => fb_X12_lines_104 (fn_X12_lines_81 n) t = some (t1, 5) | some (str, e) => fb_X12_lines_104 (fn_X12_lines_81 n) t = some (t1, 4) ∧ rStr t1 x bg e str) := by
        intro t' k1 k2 k3 k4 k5
        rw [k5]
        have hl1 := r_line1 (fn_X12_lines_81 n) uFu (ta x i) t' acc k1 (by show _ < _ + 1000000; omega)
        rw [k4] at hl1
        rcases hl1 with ⟨z0, z1, t1, z2, z3, z4, z5⟩ | ⟨z1, t1, z2, z4, z5⟩
        · have hnt : ¬ tdot x i (lfx x 10 i) := by rcases hnd with y | y; omega; exact y
          have hle := lfx_le (x := x) (b := 10) hp
          rw [if_neg (by omega), if_neg hnt, if_neg (by omega), z2]
          obtain ⟨t2, y1, y2⟩ := ih (lfx x 10 i + 1) t1 _ z3 (by omega)
          exact ⟨t2, ⟨out_t k2 (out_t z4 y1.1), fun j hj => (y1.2 j hj).trans ((z5 j hj).trans (k3 j hj))⟩, y2⟩
        · refine ⟨t1, ⟨out_t k2 z4, fun j hj => (z5 j hj).trans (k3 j hj)⟩, ?_⟩
          by_cases y : x.length ≤ lfx x 10 i
          · rw [if_pos y]; exact z2
          · have hnt : ¬ tdot x i (lfx x 10 i) := by rcases hnd with q | q; exact absurd q y; exact q
            rw [if_neg y, if_neg hnt, if_pos (by omega)]; exact z2
      by_cases c : i < x.length
      · have b1 := h.1.2.2.1 i
        have b2 := h.1.2.2.1 (i + 1)
        have e46 : nI (x.getD i 0) = (46 : Int32) ↔ x.getD i 0 = 46 := nI_eq (by omega) (by decide)
        by_cases d : x.getD i 0 = 46 ∧ x.getD (i + 1) 0 = 46
        · have hta : ta x i = i + 1 := if_pos d
          have hi1 : i + 1 < x.length := by
            apply Classical.byContradiction
            intro z
            have y := getDn_out (a := x) (j := i + 1) (by omega)
            have y2 := d.2
            omega
          refine main (wI t 1079 30 (nI (i + 1))) ?_ (out_I out_r ⟨rfl, Or.inl rfl⟩) (fun _ _ => rfl) (lfx_ta c) ?_
          · obtain ⟨g1, g2, g3, g4, g5, g6⟩ := h
            rw [hta]
            exact ⟨g1.to (by omega), (wI_o (by omega)).trans g2, (wI_o (by omega)).trans g3, g4, g5, by omega⟩
          · unfold fb_X12_lines_104
            rw [h.1.peek0, if_pos c, Option.bind_some, if_pos (e46.mpr d.1), h.1.peek1, if_pos hi1, Option.bind_some, if_pos (show nI (x.getD (i + 1) 0) = 46 by rw [d.2]; rfl), h5, nI_1]
        · have hta : ta x i = i := if_neg d
          refine main t (by rw [hta]; exact h) out_r (fun _ _ => rfl) (lfx_ta c) ?_
          unfold fb_X12_lines_104
          rw [h.1.peek0, if_pos c, Option.bind_some]
          by_cases d1 : x.getD i 0 = 46
          · rw [if_pos (e46.mpr d1), h.1.peek1, Option.bind_some]
            by_cases d2 : i + 1 < x.length
            · rw [if_pos d2, if_neg (show ¬ nI (x.getD (i + 1) 0) = 46 by show ¬ nI (x.getD (i + 1) 0) = nI 46; rw [nI_eq (by omega) (by omega)]; exact fun z => d ⟨d1, z⟩)]
            · rw [if_neg d2, if_neg (show ¬ (-1 : Int32) = 46 by decide)]
          · rw [if_neg (fun z => d1 (e46.mp z))]
      · have hta : ta x i = i := if_neg (fun z => by have y := getDn_out (a := x) (j := i) (by omega); have y2 := z.1; omega)
        refine main t (by rw [hta]; exact h) out_r (fun _ _ => rfl) (by rw [hta]) ?_
        unfold fb_X12_lines_104
        rw [h.1.peek0, if_neg c, Option.bind_some, if_neg (show ¬ (-1 : Int32) = 46 by decide)]
    unfold fb_X12_lines_81
    rw [h.1.peek0, Option.bind_some]
    by_cases c : i < x.length
    · have b1 := h.1.2.2.1 i
      have e46 : nI (x.getD i 0) = (46 : Int32) ↔ x.getD i 0 = 46 := nI_eq (by omega) (by decide)
      rw [if_pos c]
      by_cases d : x.getD i 0 = 46
      · have hend : fn_X12_endAt (t.I 1079 30 + 1) t = some (nI (eAt x (i + 1))) := by rw [h5, nI_1]; exact r_endAt h.1 (by omega)
        rw [if_pos (e46.mpr d), hend, Option.bind_some, Option.bind_some]
        rcases dot_e c d with ⟨z1, z2⟩ | ⟨z1, z2, z3, z4⟩
        · rw [z1, if_neg (show ¬ (0 : Int32) < nI 0 by decide)]
          exact line z2
        · have hev := eAt_v x (i + 1)
          rw [if_pos (show (0 : Int32) < nI (eAt x (i + 1)) from nI_lt z1 (by omega)), if_neg (by omega), if_pos z3]
          obtain ⟨g1, g2, g3, g4, g5, g6⟩ := h
          refine ⟨wI (wI t 1079 30 (nI (lfx x 10 i + 1))) 1079 39 (nI acc.length), ⟨out_I (out_I out_r ⟨rfl, Or.inl rfl⟩) ⟨rfl, Or.inr (Or.inr (Or.inr rfl))⟩, fun _ _ => rfl⟩, ?_, g1.fr ((wI_o (by omega)).trans (wI_o (by omega))) rfl ((wI_o (by omega)).trans (wI_e _ _ _ _)) (by omega), ((wI_o (by omega)).trans (wI_o (by omega))).trans g2, ((wI_o (by omega)).trans (wI_o (by omega))).trans g3, wI_e _ _ _ _, g4⟩
          rw [h5, nI_1, nI_add, z4, wI_o (by omega), g2, wI_o (by omega), g3, nI_sub (by omega), Nat.add_sub_cancel_left]
      · rw [if_neg (fun z => d (e46.mp z))]
        exact line (Or.inr (fun z => d z.1))
    · rw [if_neg c, if_neg (show ¬ (-1 : Int32) = 46 by decide)]
      exact line (Or.inl (by rw [lfx_e (by omega)]; exact Nat.le_refl _))
/-- from the colon on -/
theorem r_linesB {x : List Nat} : ∀ (n p : Nat) (t : uS), lxR t x p → x.length < p + n → fn_X12_lines_10 n t = (if eAt x (blx x n p) = 0 then some (wI t 1079 30 (nI (blx x n p)), 5) else fn_X12_lines_81 uFu (wI (wI t 1079 30 (nI (blx x n p + eAt x (blx x n p)))) 1079 38 (t.I 1079 37))) := by
  intro n
  induction n with
  | zero => intro p t h a; have := h.2.2.2.2.2; omega
  | succ n ih =>
    intro p t h a
    have hp := h.2.2.2.2.2
    have h4 := h.2.2.2.1
    have h5 := h.2.2.2.2.1
    unfold fn_X12_lines_10 fb_X12_lines_10 fb_X12_lines_30 blx
    have hend : fn_X12_endAt (t.I 1079 30) t = some (nI (eAt x p)) := by rw [h5]; exact r_endAt h (by omega)
    have stop : ((fn_X12_endAt (t.I 1079 30) t).bind fun v7 => if v7 = 0 then (some (t, (5 : Int32))) else ((fn_X12_endAt (t.I 1079 30) t).bind fun v10 => fn_X12_lines_81 uFu (wI (wI t 1079 30 ((t.I 1079 30) + v10)) 1079 38 ((wI t 1079 30 ((t.I 1079 30) + v10)).I 1079 37)))) = (if eAt x p = 0 then some (wI t 1079 30 (nI p), 5) else fn_X12_lines_81 uFu (wI (wI t 1079 30 (nI (p + eAt x p))) 1079 38 (t.I 1079 37))) := by
      have hev := eAt_v x p
      rw [hend, Option.bind_some, Option.bind_some]
      by_cases z : eAt x p = 0
      · rw [if_pos (show nI (eAt x p) = 0 by rw [z]; rfl), if_pos z, wI_self h5]
      · rw [if_neg (nI_ne0 (by omega) (by omega)), if_neg z, h5, nI_add, wI_o (by omega)]
    rw [h.peek0, Option.bind_some, Option.bind_some]
    by_cases c : p < x.length
    · have b1 := h.2.2.1 p
      have e32 : nI (x.getD p 0) = (32 : Int32) ↔ x.getD p 0 = 32 := nI_eq (by omega) (by decide)
      have e9 : nI (x.getD p 0) = (9 : Int32) ↔ x.getD p 0 = 9 := nI_eq (by omega) (by decide)
      rw [if_pos c]
      by_cases d : isBl (x.getD p 0) = true
      · rw [if_pos (show p < x.length ∧ isBl (x.getD p 0) = true from ⟨c, d⟩), h5, nI_1]
        have hn := ih (p + 1) _ (h.to (show p + 1 ≤ x.length by omega)) (by omega)
        rw [wI_wI, wI_wI, wI_o (show ¬ (1079 = 1079 ∧ 37 = 30) by decide)] at hn
        unfold isBl at d
        rw [decide_eq_true_eq] at d
        by_cases z : x.getD p 0 = 32
        · rw [if_pos (e32.mpr z)]; exact hn
        · rw [if_neg (fun y => z (e32.mp y)), if_pos (e9.mpr (by omega))]; exact hn
      · have d' : ¬ (x.getD p 0 = 32 ∨ x.getD p 0 = 9) := fun z => d (by unfold isBl; exact decide_eq_true z)
        rw [if_neg (fun z => d' (Or.inl (e32.mp z))), if_neg (fun z => d' (Or.inr (e9.mp z))), if_neg (show ¬ (p < x.length ∧ isBl (x.getD p 0) = true) from fun z => d z.2)]
        exact stop
    · rw [if_neg c, if_neg (show ¬ (-1 : Int32) = 32 by decide), if_neg (show ¬ (-1 : Int32) = 9 by decide), if_neg (show ¬ (p < x.length ∧ isBl (x.getD p 0) = true) from fun z => c z.1)]
      exact stop
