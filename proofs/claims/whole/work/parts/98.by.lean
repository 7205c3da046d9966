/-! the lexers: the lines of a text -/
def ta (x : List Nat) (i : Nat) : Nat := if x.getD i 0 = 46 ∧ x.getD (i + 1) 0 = 46 then i + 1 else i
abbrev tdot (x : List Nat) (i c : Nat) : Prop := x.getD i 0 = 46 ∧ (c = i + 1 ∨ (c = i + 2 ∧ x.getD (i + 1) 0 = 13))
def tl (x : List Nat) : Nat → Nat → List Nat → Option (List Nat × Nat)
  | 0, _, _ => none
  | n + 1, i, acc => if x.length ≤ lfx x 10 i then none else if tdot x i (lfx x 10 i) then some (acc, lfx x 10 i + 1) else if 1000 < acc.length + (lfx x 10 i + 1 - ta x i) then none else tl x n (lfx x 10 i + 1) (acc ++ sub x (ta x i) (lfx x 10 i + 1))
theorem lfx_10 {x : List Nat} {b p : Nat} (h : lfx x b p < x.length) : x.getD (lfx x b p) 0 = b ∧ ∀ q : Nat, p ≤ q → q < lfx x b p → x.getD q 0 ≠ b := by
  unfold lfx at *
  cases hv : fnb x b p (x.length - p) with
  | none => rw [hv] at h; exact absurd h (by show ¬ x.length < x.length; omega)
  | some j => have := fnb_some hv; exact ⟨this.2.2.1, this.2.2.2⟩
theorem ta_le {x : List Nat} {i : Nat} (h : lfx x 10 i < x.length) (hi : i ≤ x.length) : i ≤ ta x i ∧ ta x i ≤ lfx x 10 i ∧ ta x i ≤ i + 1 := by
  have h1 := lfx_10 h
  have h2 := lfx_le (x := x) (b := 10) hi
  unfold ta
  split
  · rename_i c
    have : lfx x 10 i ≠ i := fun z => by rw [z] at h1; omega
    omega
  · omega
theorem c_txt {k fr : Nat} {x : List Nat} (hk : 976 ≤ k) {ts : List (List Nat)} {bg : Nat} (hts : ts.length ≤ 300) : ∀ (n i : Nat) (s : uS) (acc : List Nat) (p : Nat), lxC s k fr x p → (uCl s k).2 ≤ 10000 → s.I 7 2 = 6 → cTz s 8 2000 301 ts bg acc → x.length < i + n → i ≤ x.length → acc.length ≤ 1000 → bg + acc.length ≤ i → ∃ s1 : uS, fn_X2_readText_8 n (nI (fr + i)) s = some s1 ∧ out lqI lqF s s1 ∧ (match tl x n i acc with | none => s1.I 7 2 = 6 | some (str, e) => s1.I 7 2 = 3 ∧ s1.I 7 8 = nI (fr + e) ∧ cTz s1 8 2000 301 (ts ++ [str]) (bg + str.length) []) := by
  intro n
  induction n with
  | zero => intro i s acc p h hc h2 h3 a b c d; omega
  | succ n ih =>
    intro i s acc p h hcl h2 h3 a b c d
    have hx := h.2.2.1
    have hfr := h.2.2.2.1
    have h5 := h.2.2.2.2.2.1
    have hu : s.I 8 5 - s.I 8 4 = nI acc.length := by rw [h3.2.2.1, h3.2.2.2.1, nI_sub (by omega), Nat.add_sub_cancel_left]
    show ∃ s1 : uS, fb_X2_readText_8 (fn_X2_readText_8 n) (nI (fr + i)) s = some s1 ∧ _
    unfold fb_X2_readText_8 tl
    rw [h5, hu, h2]
    by_cases c1 : x.length ≤ i
    · rw [if_pos (nI_le (by omega) (by omega)), if_pos (by rw [lfx_e c1]; exact Nat.le_refl _)]
      exact ⟨_, rfl, out_I out_r (Or.inl ⟨rfl, Or.inr rfl⟩), (wI_o (by omega)).trans h2⟩
    · have hi : i < x.length := by omega
      have hf := c_findL h.2.1 (show 10 < 128 by decide) uFu i (by show _ < i + 1000000; omega) b
      have hf' : fn_X9_find k (nI (fr + i)) (nI (fr + x.length)) 10 s = some (match fnb x 10 i (x.length - i) with | none => -1 | some j => nI (fr + j)) := hf
      rw [if_neg (nI_ge (by omega) (by omega)), if_neg (show ¬ (1000 : Int32) < nI acc.length from nI_nlt c (by decide)), if_pos rfl, h.1, Option.bind_some, hf', Option.bind_some]
      have hd : lfx x 10 i = (fnb x 10 i (x.length - i)).getD x.length := rfl
      cases hv : fnb x 10 i (x.length - i) with
      | none =>
        rw [hv] at hd
        have hd : lfx x 10 i = x.length := hd
        dsimp only
        rw [if_neg (show ¬ (0 : Int32) ≤ -1 by decide), if_pos (by omega)]
        exact ⟨s, rfl, out_r, h2⟩
      | some cl =>
        rw [hv] at hd
        have hd : lfx x 10 i = cl := hd
        have hj := fnb_some hv
        dsimp only
        rw [if_pos (show (0 : Int32) ≤ nI (fr + cl) from nI_pos' (by omega)), Option.bind_some, h.at hi, Option.bind_some, hd, if_neg (show ¬ x.length ≤ cl by omega)]
        have hta := ta_le (x := x) (i := i) (by omega) b
        rw [hd] at hta
        -- the end
        have fin : ∃ s1 : uS, fb_X2_readText_116 (fn_X2_readText_8 n) (nI (fr + cl)) s = some s1 ∧ out lqI lqF s s1 ∧ (s1.I 7 2 = 3 ∧ s1.I 7 8 = nI (fr + (cl + 1)) ∧ cTz s1 8 2000 301 (ts ++ [acc]) (bg + acc.length) []) := by
          have h3' : cTz (wI s 7 2 3) 8 2000 301 ts bg acc := h3.fr (wI_o (by omega)) (wI_o (by omega)) (wI_o (by omega)) rfl rfl rfl
          obtain ⟨s1, q1, q2, q3⟩ := tz_close uTx_str h3' (by omega)
          have o1 : out lqI lqF s s1 := by
            rw [q2]
            exact out_I (out_I (out_F (out_F (out_I out_r (Or.inl ⟨rfl, Or.inl rfl⟩)) (Or.inr (Or.inl rfl))) (Or.inr (Or.inr rfl))) (Or.inr rfl)) (Or.inr rfl)
          have hk2 : s1.I 7 2 = 3 := by rw [q2, wI_o (by omega), wI_o (by omega), wF_I, wF_I, wI_e]
          refine ⟨wI s1 7 8 (nI (fr + (cl + 1))), ?_, out_I o1 (Or.inl ⟨rfl, Or.inr rfl⟩), (wI_o (by omega)).trans hk2, wI_e _ _ _ _, q3.fr (wI_o (by omega)) (wI_o (by omega)) (wI_o (by omega)) rfl rfl rfl⟩
          unfold fb_X2_readText_116
          rw [q1, Option.bind_some, nI_1, show fr + cl + 1 = fr + (cl + 1) by omega]
          cases n with
          | zero => omega
          | succ n =>
            show fb_X2_readText_8 (fn_X2_readText_8 n) _ _ = _
            unfold fb_X2_readText_8
            rw [hk2]
            split
            · rfl
            · split
              · rfl
              · rw [if_neg (show ¬ (3 : Int32) = 6 by decide)]
        -- a line
        have line : ∃ s1 : uS, fb_X2_readText_164 (fn_X2_readText_8 n) (nI (fr + cl)) (nI (fr + ta x i)) k s = some s1 ∧ out lqI lqF s s1 ∧ (match (if 1000 < acc.length + (cl + 1 - ta x i) then none else tl x n (cl + 1) (acc ++ sub x (ta x i) (cl + 1))) with | none => s1.I 7 2 = 6 | some (str, e) => s1.I 7 2 = 3 ∧ s1.I 7 8 = nI (fr + e) ∧ cTz s1 8 2000 301 (ts ++ [str]) (bg + str.length) []) := by
          obtain ⟨s1, q1, q2, q3⟩ := tz_range uTx_str h3 h.2.1 hcl (by omega) (by omega) (show ta x i ≤ cl + 1 by omega) (by omega) (show bg + acc.length + (cl + 1 - ta x i) ≤ 2000 by omega)
          have o1 : out lqI lqF s s1 := out_w q3 (fun k' f z => Or.inr z.1) (fun k' f z => Or.inl z)
          have r5 : s1.I 7 5 = nI (fr + x.length) := by rw [q3.2.1 _ _ (by unfold txI; omega)]; exact h5
          have r2 : s1.I 7 2 = 6 := by rw [q3.2.1 _ _ (by unfold txI; omega)]; exact h2
          have hsl := sub_len (x := x) (a := ta x i) (b := cl + 1) (by omega) (by omega)
          unfold fb_X2_readText_164
          rw [nI_1, show fr + cl + 1 = fr + (cl + 1) by omega, q1, Option.bind_some]
          by_cases c4 : 1000 < acc.length + (cl + 1 - ta x i)
          · rw [if_pos c4]
            have hu1 : s1.I 8 5 - s1.I 8 4 = nI (acc.length + (cl + 1 - ta x i)) := by rw [q2.2.2.1, q2.2.2.2.1, nI_sub (by omega), Nat.add_sub_cancel_left, List.length_append, hsl]
            refine ⟨wI s1 7 8 (nI (fr + (cl + 1))), ?_, out_I o1 (Or.inl ⟨rfl, Or.inr rfl⟩), (wI_o (by omega)).trans r2⟩
            cases n with
            | zero => omega
            | succ n =>
              show fb_X2_readText_8 (fn_X2_readText_8 n) _ _ = _
              unfold fb_X2_readText_8
              rw [hu1, if_pos (show (1000 : Int32) < nI (acc.length + (cl + 1 - ta x i)) from nI_lt c4 (by omega))]
              split <;> rfl
          · rw [if_neg c4]
            have hl1 : lxC s1 k fr x p := by
              obtain ⟨g1, g2, g3, g4, g5, g6, g7, g8⟩ := h
              exact ⟨by rw [o1.1.2.1]; exact g1, g2.fr o1.1.1 o1.1.2.2.2.2.1 (funext fun f => o1.2.2 _ _ (by unfold lqF; omega)), g3, g4, by rw [q3.2.1 _ _ (by unfold txI; omega)]; exact g5, r5, by rw [q3.2.1 _ _ (by unfold txI; omega)]; exact g7, g8⟩
            have hcl1 : (uCl s1 k).2 ≤ 10000 := by
              have : uCl s1 k = uCl s k := by unfold uCl; rw [o1.1.1]
              rw [this]; exact hcl
            obtain ⟨s2, w1, w2, w3⟩ := ih (cl + 1) s1 (acc ++ sub x (ta x i) (cl + 1)) p hl1 hcl1 r2 q2 (by omega) (by omega) (by rw [List.length_append, hsl]; omega) (by rw [List.length_append, hsl]; omega)
            exact ⟨s2, w1, out_t o1 w2, w3⟩
        have b1 := h.by i
        have b2 := h.by (i + 1)
        have e46 : sb (x.getD i 0) = (46 : Int32) ↔ x.getD i 0 = 46 := sb_e b1 (by decide)
        have e46' : sb (x.getD (i + 1) 0) = (46 : Int32) ↔ x.getD (i + 1) 0 = 46 := sb_e b2 (by decide)
        have e13 : sb (x.getD (i + 1) 0) = (13 : Int32) ↔ x.getD (i + 1) 0 = 13 := sb_e b2 (by decide)
        by_cases d1 : x.getD i 0 = 46
        · have hcl2 : i < cl := by
            have : cl ≠ i := fun z => by rw [z] at hj; omega
            omega
          have g1 := h.at (q := i + 1) (by omega)
          rw [show fr + (i + 1) = fr + i + 1 by omega] at g1
          have l131 : fb_X2_readText_131 (fn_X2_readText_8 n) (nI (fr + i)) (nI (fr + cl)) true s = fb_X2_readText_164 (fn_X2_readText_8 n) (nI (fr + cl)) (nI (fr + ta x i)) k s := by
            unfold fb_X2_readText_131
            rw [h.1, Option.bind_some, if_pos rfl, Option.bind_some, nI_1, g1, Option.bind_some]
            unfold ta
            by_cases d2 : x.getD (i + 1) 0 = 46
            · rw [if_pos (e46'.mpr d2), if_pos (show x.getD i 0 = 46 ∧ x.getD (i + 1) 0 = 46 from ⟨d1, d2⟩), show fr + i + 1 = fr + (i + 1) by omega]
            · rw [if_neg (fun z => d2 (e46'.mp z)), if_neg (show ¬ (x.getD i 0 = 46 ∧ x.getD (i + 1) 0 = 46) from fun z => d2 z.2)]
          rw [if_pos (e46.mpr d1)]
          unfold fb_X2_readText_82
          rw [if_pos rfl, nI_1, l131, show nI (fr + i) + 2 = nI (fr + i + 2) from nI_add _ 2]
          by_cases d3 : cl = i + 1
          · rw [if_pos (by rw [d3, show fr + (i + 1) = fr + i + 1 by omega]), if_pos (show tdot x i cl from ⟨d1, Or.inl d3⟩)]
            exact fin
          · rw [if_neg (by rw [nI_eq (by omega) (by omega)]; omega)]
            by_cases d4 : cl = i + 2
            · rw [if_pos (by rw [d4, show fr + (i + 2) = fr + i + 2 by omega]), h.1, Option.bind_some, g1, Option.bind_some]
              by_cases d5 : x.getD (i + 1) 0 = 13
              · rw [if_pos (e13.mpr d5), if_pos (show tdot x i cl from ⟨d1, Or.inr ⟨d4, d5⟩⟩)]
                exact fin
              · rw [if_neg (fun z => d5 (e13.mp z)), if_neg (show ¬ tdot x i cl from fun z => z.2.elim d3 (fun y => d5 y.2))]
                exact line
            · rw [if_neg (by rw [nI_eq (by omega) (by omega)]; omega), if_neg (show ¬ tdot x i cl from fun z => z.2.elim d3 (fun y => d4 y.1))]
              exact line
        · rw [if_neg (fun z => d1 (e46.mp z)), if_neg (show ¬ tdot x i cl from fun z => d1 z.1)]
          unfold fb_X2_readText_82
          rw [if_neg (show ¬ (false = true) by decide)]
          unfold fb_X2_readText_131
          rw [h.1, Option.bind_some, if_neg (show ¬ (false = true) by decide), show nI (fr + i) = nI (fr + ta x i) from by unfold ta; rw [if_neg (fun z => d1 z.1)]]
          exact line
