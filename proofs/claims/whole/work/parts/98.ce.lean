/-! the lexers: the next token on both sides -/
theorem sg_c {b : Nat} (h : b < 256) : (decide (¬ sb b ≤ 0) && decide (¬ stidx kW_34 ((((sb b).toUInt32 % 65536).toInt32)) < 0)) = decide (sgn b) := by
  have : ∀ b, b < 256 → (decide (¬ sb b ≤ 0) && decide (¬ stidx kW_34 ((((sb b).toUInt32 % 65536).toInt32)) < 0)) = decide (b = 59 ∨ b = 44 ∨ b = 40 ∨ b = 41 ∨ b = 91 ∨ b = 93 ∨ b = 123 ∨ b = 125) := by decide +kernel
  exact this b h
/-- what begins a token, and its sign -/
theorem n_119 {k fr : Nat} {x : List Nat} {ts : List (List Nat)} {bg q : Nat} {s t : uS} (h : tk0 k fr x ts bg q s t) (hq : q < x.length) : ∃ (s1 t1 t2 : uS) (v : Int32) (e : Nat), fb_X2_next_119 (sb (x.getD q 0)) s = some s1 ∧ ((fn_X12_isDigit (nI (x.getD q 0)) t).bind fun v9 => if v9 = true then ((fn_X12_digits t).bind fun r23 => some (r23.1, r23.2)) else (if nI (x.getD q 0) = 34 then ((fn_X12_quoted t).bind fun r21 => some (r21.1, r21.2)) else (fb_X12_token_151 (nI (x.getD q 0)) (decide (sgn (x.getD q 0))) t))) = some (t1, v) ∧ fb_X12_next_34 v t1 = some t2 ∧ out lnI' lqF s s1 ∧ out rnI (rqP bg) t t2 ∧ tok k fr x ts bg q e s1 t2 := by
  have hh := h
  obtain ⟨hg, h1, h2, h3, h4⟩ := h
  have hgg := hg
  obtain ⟨g1, g2, g3, g4, g5, g6, g7⟩ := hg
  have b1 := g1.by q
  have hx := g1.2.2.1
  unfold fb_X2_next_119
  rw [c_digit, Option.bind_some, iDig_s b1, r_digit, Option.bind_some, iDig_N b1]
  by_cases d : isDb (x.getD q 0) = true
  · rw [if_pos d, if_pos d, bind_id]
    obtain ⟨s1, t1, t2, v, e, a1, a2, a3, a4, a5, a6⟩ := n_num hh hq d
    exact ⟨s1, t1, t2, v, e, by rw [a1, Option.bind_some], a2, a3, a4, a5, a6⟩
  · rw [if_neg d, if_neg d]
    have e34 : sb (x.getD q 0) = (34 : Int32) ↔ x.getD q 0 = 34 := sb_e b1 (by decide)
    have e34' : nI (x.getD q 0) = (34 : Int32) ↔ x.getD q 0 = 34 := nI_eq (by omega) (by decide)
    by_cases c : x.getD q 0 = 34
    · rw [if_pos (e34.mpr c), if_pos (e34'.mpr c), bind_id]
      obtain ⟨s1, t1, t2, v, e, a1, a2, a3, a4, a5, a6⟩ := n_quo hh hq
      exact ⟨s1, t1, t2, v, e, by rw [a1, Option.bind_some], a2, a3, a4, a5, a6⟩
    · rw [if_neg (fun z => c (e34.mp z)), if_neg (fun z => c (e34'.mp z))]
      have hs := sg_c b1
      have hi8 : s.I 7 8 = nI (fr + q) := g1.2.2.2.2.2.2.1
      unfold fb_X2_next_167 fb_X12_token_151
      by_cases sg : sgn (x.getD q 0)
      · rw [decide_eq_true sg, Bool.and_eq_true, decide_eq_true_eq, decide_eq_true_eq] at hs
        rw [if_neg hs.1, if_pos (show kW_34.length < 2 ^ 30 by decide), if_neg hs.2, decide_eq_true sg, if_pos rfl, wI_o (show ¬ (7 = 7 ∧ 8 = 2) by decide), hi8, nI_1, show fr + q + 1 = fr + (q + 1) by omega, g2.2.2.2.2.1, nI_1, show (100 : Int32) + nI (x.getD q 0) = nI (100 + x.getD q 0) from nI_add 100 _]
        have hne5 : nI (100 + x.getD q 0) ≠ 5 := by
          show ¬ nI (100 + x.getD q 0) = nI 5
          rw [nI_eq (by omega) (by omega)]
          omega
        refine ⟨_, _, _, _, q + 1, rfl, rfl, r_fin hne5, out_I (out_I out_r (Or.inl ⟨rfl, by omega⟩)) (Or.inl ⟨rfl, by omega⟩), out_I (out_I out_r ⟨rfl, by omega⟩) ⟨rfl, by omega⟩, Or.inr (Or.inr (Or.inr (Or.inr (Or.inl ⟨rfl, hq, ⟨(g1.I (f := 2) (by decide)).to (by omega), g2.fr ((wI_o (by omega)).trans (wI_o (by omega))) rfl ((wI_o (by omega)).trans (wI_e _ _ _ _)) (by omega), g3.fr ((wI_o (by omega)).trans (wI_o (by omega))) ((wI_o (by omega)).trans (wI_o (by omega))) ((wI_o (by omega)).trans (wI_o (by omega))) rfl rfl rfl, ((wI_o (by omega)).trans (wI_o (by omega))).trans g4, ((wI_o (by omega)).trans (wI_o (by omega))).trans g5, ((wI_o (by omega)).trans (wI_o (by omega))).trans g6, ((wI_o (by omega)).trans (wI_o (by omega))).trans g7⟩, (wI_o (by omega)).trans (wI_e _ _ _ _), wI_e _ _ _ _, sg⟩))))⟩
      · rw [decide_eq_false sg] at hs
        have bad : ∃ (s1 t1 t2 : uS) (v : Int32) (e : Nat), some (wI (wI s 7 2 6) 7 8 (((wI s 7 2 6).I 7 8) + 1)) = some s1 ∧ some (t, (5 : Int32)) = some (t1, v) ∧ fb_X12_next_34 v t1 = some t2 ∧ out lnI' lqF s s1 ∧ out rnI (rqP bg) t t2 ∧ tok k fr x ts bg q e s1 t2 := by
          have o : out lnI' lqF s (wI (wI s 7 2 6) 7 8 (((wI s 7 2 6).I 7 8) + 1)) := out_I (out_I out_r (Or.inl ⟨rfl, by omega⟩)) (Or.inl ⟨rfl, by omega⟩)
          exact ⟨_, _, _, _, q, rfl, rfl, r_fin5 g7 g5 g2.1, o, out_w rBad_out (fun _ _ z => z) (fun _ _ z => z.elim), hgg.B h2 o ((wI_o (by omega)).trans (wI_o (by omega))) ((wI_o (by omega)).trans (wI_e _ _ _ _)) rBad_v.1 rBad_v.2⟩
        rw [decide_eq_false sg, if_neg (show ¬ (false = true) by decide), if_pos (show kW_34.length < 2 ^ 30 by decide)]
        by_cases z : sb (x.getD q 0) ≤ 0
        · rw [if_pos z]; exact bad
        · rw [if_neg z]
          rw [decide_eq_true z, Bool.true_and, decide_eq_false_iff_not, Classical.not_not] at hs
          rw [if_pos hs]; exact bad
/-- the reference's token, by its first byte -/
theorem r_tok {x : List Nat} {q : Nat} {t : uS} (h : lxR t x q) : fn_X12_token t = if q < x.length then (if isWs (x.getD q 0) = true then ((fn_X12_word t).bind fun r1 => some (r1.1, r1.2)) else if x.getD q 0 = 58 then (if q + 1 < x.length ∧ isWs (x.getD (q + 1) 0) = true then ((fn_X12_wordOf (wI t 1079 30 (nI (q + 1)))).bind fun s1 => some (s1, (2 : Int32))) else some (t, 5)) else ((fn_X12_isDigit (nI (x.getD q 0)) t).bind fun v9 => if v9 = true then ((fn_X12_digits t).bind fun r23 => some (r23.1, r23.2)) else (if nI (x.getD q 0) = 34 then ((fn_X12_quoted t).bind fun r21 => some (r21.1, r21.2)) else (fb_X12_token_151 (nI (x.getD q 0)) (decide (sgn (x.getD q 0))) t)))) else some (t, 0) := by
  have h5 := h.2.2.2.2.1
  unfold fn_X12_token fb_X12_token_25 fb_X12_token_59
  rw [h.peek0, Option.bind_some, h.peek1]
  by_cases c : q < x.length
  · have b1 := h.2.2.1 q
    rw [if_pos c, if_pos c, if_pos (nI_pos' (show x.getD q 0 < 2 ^ 31 by omega)), r_letter, Option.bind_some, iLet_N b1]
    have e : ∀ c : Nat, c < 128 → (nI (x.getD q 0) = nI c ↔ x.getD q 0 = c) := fun c hc => nI_eq (by omega) (by omega)
    have e95 : nI (x.getD q 0) = (95 : Int32) ↔ x.getD q 0 = 95 := e 95 (by decide)
    have e58 : nI (x.getD q 0) = (58 : Int32) ↔ x.getD q 0 = 58 := e 58 (by decide)
    by_cases w : isWs (x.getD q 0) = true
    · rw [if_pos w]
      unfold isWs at w
      cases hl : isLb (x.getD q 0) with
      | true => rw [if_pos rfl]
      | false =>
        rw [hl, Bool.false_or, decide_eq_true_eq] at w
        rw [if_neg (by decide), if_pos (e95.mpr w)]
    · rw [if_neg w]
      have w' : isLb (x.getD q 0) = false ∧ ¬ x.getD q 0 = 95 := by
        unfold isWs at w
        cases hl : isLb (x.getD q 0) with
        | true => rw [hl] at w; exact absurd rfl w
        | false => rw [hl, Bool.false_or, decide_eq_true_eq] at w; exact ⟨rfl, w⟩
      rw [w'.1, if_neg (by decide), if_neg (fun z => w'.2 (e95.mp z))]
      by_cases d : x.getD q 0 = 58
      · rw [if_pos (e58.mpr d), if_pos d, Option.bind_some, Option.bind_some, h5, nI_1, r_letter, Option.bind_some]
        by_cases f : q + 1 < x.length
        · have b2 := h.2.2.1 (q + 1)
          have e95' : nI (x.getD (q + 1) 0) = (95 : Int32) ↔ x.getD (q + 1) 0 = 95 := nI_eq (by omega) (by decide)
          rw [if_pos f, iLet_N b2]
          unfold isWs
          cases hl : isLb (x.getD (q + 1) 0) with
          | true => rw [if_pos rfl, if_pos ⟨f, rfl⟩]
          | false =>
            rw [if_neg (by decide), Bool.false_or]
            by_cases z : x.getD (q + 1) 0 = 95
            · rw [if_pos (e95'.mpr z), if_pos ⟨f, decide_eq_true z⟩]
            · rw [if_neg (fun y => z (e95'.mp y)), if_neg (fun y => z (of_decide_eq_true y.2))]
        · rw [if_neg f, if_neg (show ¬ iLet (-1) = true by decide), if_neg (show ¬ (-1 : Int32) = 95 by decide), if_neg (fun z => f z.1)]
      · rw [if_neg (fun z => d (e58.mp z)), if_neg d]
        have cong : ∀ (A B : Option (uS × Int32)), A = B → ((fn_X12_isDigit (nI (x.getD q 0)) t).bind fun v9 => if v9 = true then ((fn_X12_digits t).bind fun r23 => some (r23.1, r23.2)) else (if nI (x.getD q 0) = 34 then ((fn_X12_quoted t).bind fun r21 => some (r21.1, r21.2)) else A)) = ((fn_X12_isDigit (nI (x.getD q 0)) t).bind fun v9 => if v9 = true then ((fn_X12_digits t).bind fun r23 => some (r23.1, r23.2)) else (if nI (x.getD q 0) = 34 then ((fn_X12_quoted t).bind fun r21 => some (r21.1, r21.2)) else B)) := fun A B z => by rw [z]
        apply cong
        have e59 : nI (x.getD q 0) = (59 : Int32) ↔ x.getD q 0 = 59 := e 59 (by decide)
        have e44 : nI (x.getD q 0) = (44 : Int32) ↔ x.getD q 0 = 44 := e 44 (by decide)
        have e40 : nI (x.getD q 0) = (40 : Int32) ↔ x.getD q 0 = 40 := e 40 (by decide)
        have e41 : nI (x.getD q 0) = (41 : Int32) ↔ x.getD q 0 = 41 := e 41 (by decide)
        have e91 : nI (x.getD q 0) = (91 : Int32) ↔ x.getD q 0 = 91 := e 91 (by decide)
        have e93 : nI (x.getD q 0) = (93 : Int32) ↔ x.getD q 0 = 93 := e 93 (by decide)
        have e123 : nI (x.getD q 0) = (123 : Int32) ↔ x.getD q 0 = 123 := e 123 (by decide)
        have e125 : nI (x.getD q 0) = (125 : Int32) ↔ x.getD q 0 = 125 := e 125 (by decide)
        simp only [e59, e44, e40, e41, e91, e93, e123, e125]
        unfold sgn
        by_cases z1 : x.getD q 0 = 59
        · rw [if_pos z1, decide_eq_true (Or.inl z1)]
        · rw [if_neg z1]
          by_cases z2 : x.getD q 0 = 44
          · rw [if_pos z2, decide_eq_true (Or.inr (Or.inl z2))]
          · rw [if_neg z2]
            by_cases z3 : x.getD q 0 = 40
            · rw [if_pos z3, decide_eq_true (Or.inr (Or.inr (Or.inl z3)))]
            · rw [if_neg z3]
              by_cases z4 : x.getD q 0 = 41
              · rw [if_pos z4, decide_eq_true (Or.inr (Or.inr (Or.inr (Or.inl z4))))]
              · rw [if_neg z4]
                by_cases z5 : x.getD q 0 = 91
                · rw [if_pos z5, decide_eq_true (by omega)]
                · rw [if_neg z5]
                  by_cases z6 : x.getD q 0 = 93
                  · rw [if_pos z6, decide_eq_true (by omega)]
                  · rw [if_neg z6]
                    by_cases z7 : x.getD q 0 = 123
                    · rw [if_pos z7, decide_eq_true (by omega)]
                    · rw [if_neg z7]
                      by_cases z8 : x.getD q 0 = 125
                      · rw [if_pos z8, decide_eq_true (by omega)]
                      · rw [if_neg z8, decide_eq_false (by omega)]
  · rw [if_neg c, if_neg c, if_neg (show ¬ (0 : Int32) ≤ -1 by decide)]
