/-! a command line of the delivery, as a whole -/
def ltR (R : Nat) (rcs : List (List Nat)) (bs : List Nat) : Prop := R = rcs.length ∨ R = rcs.length + 1 ∧ 18 ≤ bs.length
theorem r_fst {t : uS} {bs : List Nat} {q : Nat} (h : rLn t bs) (hq : q < 7) (a : Int32) : ∃ p : Nat, fn_X12_first (W7.getD q []) (wI t 1079 127 a) = some (wI t 1079 127 (nI p), decide (wix (sub bs 0 (wEn bs)) W7 0 = some q)) ∧ (wix (sub bs 0 (wEn bs)) W7 0 = some q → p = 4) := by
  have hm : W7.getD q [] ∈ W7 := by rw [getD_ge _ _ (show q < W7.length from hq)]; exact List.getElem_mem _
  obtain ⟨w1, w2, w3⟩ := W7_ok _ hm
  obtain ⟨p, e1, e2⟩ := r_first (h.w (f := 127) (v := a) (by decide)) w1 (by omega)
  rw [wI_wI, frB_7 hq] at e1
  refine ⟨p, e1, fun z => ?_⟩
  rw [frB_7 hq, decide_eq_true z] at e2
  rw [e2 rfl, w2]
theorem w7_4 {bs : List Nat} {v : Nat} (h : wix (sub bs 0 (wEn bs)) W7 0 = some v) : v < 7 ∧ wEn bs = 4 ∧ 4 ≤ bs.length ∧ (bs.length = 4 ∨ bs.getD 4 0 = 32) := by
  have hv : v < 7 := by have := (wix_lt h).2; have e : v < 0 + 7 := this; omega
  have hm : W7.getD v [] ∈ W7 := by rw [getD_ge _ _ (show v < W7.length from hv)]; exact List.getElem_mem _
  have hq := wix_7 (x := sub bs 0 (wEn bs)) W7 0 (fun w hw => (W7_ok w hw).1) W7_nd v hv
  rw [h, Nat.zero_add, decide_eq_true rfl] at hq
  have hl := eqW_len hq
  rw [(W7_ok _ hm).2.1, sub_len (wEn_le bs) (Nat.zero_le _), Nat.sub_zero] at hl
  have hle := wEn_le bs
  refine ⟨hv, hl, by omega, ?_⟩
  by_cases c : wEn bs < bs.length
  · right; have := wEn_at c; rw [hl] at this; exact this
  · left; omega
/-- the line's word, in the class -/
theorem c_word {s : uS} {bs : List Nat} (h : rdC s 1052 0 bs) (hl : bs.length ≤ 500) : ((fn_X9_find 1052 0 (nI bs.length) 32 s).bind fun v2 => if 0 ≤ v2 then (fb_X0_answerLine_50 (nI bs.length) v2 s) else (fb_X0_answerLine_50 (nI bs.length) (nI bs.length) s)) = fb_X0_answerLine_50 (nI bs.length) (nI (wEn bs)) s := by
  have fd := c_find (b := 32) h (by decide) (by omega)
  rw [Nat.zero_add] at fd
  rw [show fn_X9_find 1052 0 (nI bs.length) 32 s = _ from fd, Option.bind_some]
  unfold wEn
  cases f : fnb bs 32 0 bs.length with
  | none => rw [if_neg (show ¬ (0 : Int32) ≤ -1 by decide)]; rfl
  | some x =>
    obtain ⟨f1, f2, f3, f4⟩ := fnb_some f
    dsimp only
    rw [if_pos (show (0 : Int32) ≤ nI (0 + x) from nI_pos' (by omega)), Nat.zero_add]; rfl
theorem c_plW {s : uS} {bs : List Nat} (h : rdC s 1052 0 bs) (hl : bs.length ≤ 500) : fn_X9_place kW_15 1052 0 (nI (wEn bs)) s = some (oI (wix (sub bs 0 (wEn bs)) W7 0)) := by
  have hle := wEn_le bs
  have hsl := sub_len (x := bs) (a := 0) hle (Nat.zero_le _)
  have cp := c_place (W := kW_15) (h.sub (a := 0) (b := wEn bs) (Nat.zero_le _) hle) (by decide) (by decide)
  rw [Nat.zero_add, show 0 + (sub bs 0 (wEn bs)).length = wEn bs by omega, c_W7] at cp
  exact cp
theorem t_order {gr : Bool} {sd : Option (List Nat)} {rcs : List (List Nat)} {us : List Nat} {s t : uS} {bs : List Nat} (h : lnS gr sd rcs us s t) (hc : rdC s 1052 0 bs) (hr : rLn (wI t 1079 126 (nI bs.length)) bs) : ∃ (s1 t1 : uS) (R : Nat), fb_X0_answerLine_50 (nI bs.length) (nI (wEn bs)) s = some s1 ∧ fn_X12_order (nI bs.length) t = some t1 ∧ lnP R s t s1 t1 ∧ ltR R rcs bs := by
  have hl := hr.2.1
  unfold fb_X0_answerLine_50 fn_X12_order
  rw [c_plW hc hl, Option.bind_some]
  obtain ⟨t0, ht0⟩ : ∃ t0, t0 = wI t 1079 126 (nI bs.length) := ⟨_, rfl⟩
  rw [← ht0] at hr ⊢
  have h0 : lnS gr sd rcs us s t0 := by rw [ht0]; exact h.w (by decide)
  have o0 : out kqI kqF t t0 := by rw [ht0]; exact kq_w (by decide)
  have e0 : wI t0 1079 127 (t0.I 1079 127) = t0 := wI_self rfl
  have fst : ∀ (q : Nat) (a : Int32), q < 7 → ∃ p : Nat, fn_X12_first (W7.getD q []) (wI t0 1079 127 a) = some (wI t0 1079 127 (nI p), decide (wix (sub bs 0 (wEn bs)) W7 0 = some q)) ∧ (wix (sub bs 0 (wEn bs)) W7 0 = some q → p = 4) := fun q a hq => r_fst hr hq a
  have g10 : s.I 1042 10 = bI gr := h.2.2.2.1.1
  have hS : ∀ a : Int32, lnS gr sd rcs us s (wI t0 1079 127 a) := fun a => h0.w (by decide)
  have hO : ∀ a : Int32, out kqI kqF t (wI t0 1079 127 a) := fun a => out_t o0 (kq_w (by decide))
  have hRl : ∀ a : Int32, rLn (wI t0 1079 127 a) bs := fun a => hr.w (by decide)
  have g114 : ∀ a : Int32, (wI t0 1079 127 a).I 1079 114 = bI gr := fun a => (hS a).2.2.2.1.2.1
  have i127 : ∀ a : Int32, (wI t0 1079 127 a).I 1079 127 = a := fun a => wI_e _ _ _ _
  generalize hw : wix (sub bs 0 (wEn bs)) W7 0 = o at *
  -- the answers that need no more
  have ans : ∀ (w w' : List Nat) (a : Int32), w = w' → w.length < 900000 → ∃ (s1 t1 : uS) (R : Nat), ((fn_X5_line 1040 w s).bind fun s2 => some s2) = some s1 ∧ ((fn_X12_line 4 w' (wI t0 1079 127 a)).bind fun s2 => some s2) = some t1 ∧ lnP R s t s1 t1 ∧ ltR R rcs bs := by
    intro w w' a e hw'
    obtain ⟨s1, t1, a1, a2, a3, a4, a5⟩ := t_an (hS a) e hw'
    exact ⟨s1, t1, _, by rw [a1]; rfl, by rw [a2]; rfl, a3.p (Nat.le_refl _) (kq_cl a4) (kq_rl (out_t (hO a) a5)), Or.inl rfl⟩
  obtain ⟨p0, a0, b0⟩ := fst 0 (t0.I 1079 127) (by decide)
  obtain ⟨p1, a1, b1⟩ := fst 5 (nI p0) (by decide)
  obtain ⟨p2, a2, b2⟩ := fst 4 (nI p1) (by decide)
  obtain ⟨p3, a3, b3⟩ := fst 6 (nI p2) (by decide)
  obtain ⟨p4, a4, b4⟩ := fst 1 (nI p3) (by decide)
  obtain ⟨p5, a5, b5⟩ := fst 2 (nI p4) (by decide)
  obtain ⟨p6, a6, b6⟩ := fst 3 (nI p5) (by decide)
  rw [e0] at a0
  have c0 : fn_X12_first kW_166 t0 = some (wI t0 1079 127 (nI p0), decide (o = some 0)) := a0
  have c1 : fn_X12_first kW_167 (wI t0 1079 127 (nI p0)) = some (wI t0 1079 127 (nI p1), decide (o = some 5)) := a1
  have c2 : fn_X12_first kW_169 (wI t0 1079 127 (nI p1)) = some (wI t0 1079 127 (nI p2), decide (o = some 4)) := a2
  have c3 : fn_X12_first kW_170 (wI t0 1079 127 (nI p2)) = some (wI t0 1079 127 (nI p3), decide (o = some 6)) := a3
  have c4 : fn_X12_first kW_172 (wI t0 1079 127 (nI p3)) = some (wI t0 1079 127 (nI p4), decide (o = some 1)) := a4
  have c5 : fn_X12_first kW_173 (wI t0 1079 127 (nI p4)) = some (wI t0 1079 127 (nI p5), decide (o = some 2)) := a5
  have c6 : fn_X12_first kW_174 (wI t0 1079 127 (nI p5)) = some (wI t0 1079 127 (nI p6), decide (o = some 3)) := a6
  cases o with
  | none =>
    rw [c0, Option.bind_some]
    dsimp only
    rw [if_neg (show ¬ (0 : Int32) ≤ oI none by decide), if_neg (by decide), c1, Option.bind_some]
    dsimp only
    rw [if_neg (by decide), c2, Option.bind_some]
    dsimp only
    rw [if_neg (by decide), c3, Option.bind_some]
    dsimp only
    rw [if_neg (by decide), c4, Option.bind_some]
    dsimp only
    rw [if_neg (by decide), c5, Option.bind_some]
    dsimp only
    rw [if_neg (by decide), c6, Option.bind_some]
    dsimp only
    rw [if_neg (by decide)]
    exact ans kW_16 kW_176 (nI p6) rfl (by decide)
  | some v =>
    obtain ⟨v7, e4, n4, hsp⟩ := w7_4 hw
    have i4 : nI (wEn bs) = nI 4 := by rw [e4]
    rw [i4]
    have hge : (0 : Int32) ≤ oI (some v) := nI_pos' (by omega)
    rw [if_pos hge]
    have h8 : ∀ x : Nat, x < 7 → (oI (some v) = nI x ↔ v = x) := fun x hx => nI_eq (by omega) (by omega)
    have hn : ∀ x : Nat, x ≠ v → decide (some v = some x) = false := fun x hx => decide_eq_false (fun z => hx (Option.some.inj z).symm)
    have hy : decide (some v = some v) = true := decide_eq_true rfl
    have n4' : (nI bs.length ≤ nI 4) = (bs.length = 4) := by
      apply propext
      rw [nI_leI (by omega) (by omega)]
      omega
    rcases (show v = 0 ∨ v = 1 ∨ v = 2 ∨ v = 3 ∨ v = 4 ∨ v = 5 ∨ v = 6 by omega) with rfl | rfl | rfl | rfl | rfl | rfl | rfl
    · -- LHLO
      have q4 := b0 rfl
      subst q4
      have cl : (if (s.I 1042 10) = 0 then (if oI (some 0) = 1 then (fb_X0_answerLine_106 s) else (if oI (some 0) = 2 then (fb_X0_answerLine_106 s) else (if oI (some 0) = 3 then (fb_X0_answerLine_106 s) else (fb_X0_answerLine_118 (nI bs.length) (nI 4) (oI (some 0)) s)))) else (fb_X0_answerLine_118 (nI bs.length) (nI 4) (oI (some 0)) s)) = (fn_X0_answerLhlo (nI bs.length) s).bind fun s14 => some s14 := by
        rw [if_neg (show ¬ oI (some 0) = 1 by decide), if_neg (show ¬ oI (some 0) = 2 by decide), if_neg (show ¬ oI (some 0) = 3 by decide), ite_self]
        unfold fb_X0_answerLine_118
        rw [if_pos (show oI (some 0) = 0 by decide)]
      rw [cl, c0, Option.bind_some]
      dsimp only
      rw [if_pos hy]
      obtain ⟨s1, t1, x1, x2, x3⟩ := t_lhlo (hS (nI 4)) hc (hRl (nI 4)) n4 hsp (i127 _)
      exact ⟨s1, t1, _, by rw [x1]; rfl, by rw [x2]; rfl, x3.m out_r (kq_rl (hO _)), Or.inl rfl⟩
    · -- MAIL
      have q4 := b4 rfl
      subst q4
      rw [c0, Option.bind_some]
      dsimp only
      rw [if_neg (show ¬ decide (some 1 = some 0) = true by decide), c1, Option.bind_some]
      dsimp only
      rw [if_neg (show ¬ decide (some 1 = some 5) = true by decide), c2, Option.bind_some]
      dsimp only
      rw [if_neg (show ¬ decide (some 1 = some 4) = true by decide), c3, Option.bind_some]
      dsimp only
      rw [if_neg (show ¬ decide (some 1 = some 6) = true by decide), c4, Option.bind_some]
      dsimp only
      rw [if_pos (show decide (some 1 = some 1) = true by decide)]
      unfold fb_X12_order_128
      rw [g114, g10]
      cases gr with
      | false =>
        rw [if_pos (show bI false = 0 by decide), if_pos (show bI false = 0 by decide), if_pos (show oI (some 1) = 1 by decide)]
        exact ans kW_17 kW_175 _ rfl (by decide)
      | true =>
        rw [if_neg (show ¬ bI true = 0 by decide), if_neg (show ¬ bI true = 0 by decide)]
        unfold fb_X0_answerLine_118 fn_X12_transact
        obtain ⟨p7, a7, b7⟩ := fst 1 (nI 4) (by decide)
        have q7 := b7 rfl
        subst q7
        rw [show fn_X12_first kW_172 (wI t0 1079 127 (nI 4)) = _ from a7, Option.bind_some]
        dsimp only
        rw [if_neg (show ¬ oI (some 1) = 0 by decide), if_pos (show oI (some 1) = 1 by decide), if_pos (show decide (some 1 = some 1) = true by decide)]
        obtain ⟨s1, t1, x1, x2, x3⟩ := t_mail (hS (nI 4)) hc (hRl (nI 4)) hsp (i127 _)
        exact ⟨s1, t1, _, by rw [x1]; rfl, by rw [x2]; rfl, x3.m out_r (kq_rl (hO _)), Or.inl rfl⟩
    · -- RCPT
      have q4 := b5 rfl
      subst q4
      rw [c0, Option.bind_some]
      dsimp only
      rw [if_neg (show ¬ decide (some 2 = some 0) = true by decide), c1, Option.bind_some]
      dsimp only
      rw [if_neg (show ¬ decide (some 2 = some 5) = true by decide), c2, Option.bind_some]
      dsimp only
      rw [if_neg (show ¬ decide (some 2 = some 4) = true by decide), c3, Option.bind_some]
      dsimp only
      rw [if_neg (show ¬ decide (some 2 = some 6) = true by decide), c4, Option.bind_some]
      dsimp only
      rw [if_neg (show ¬ decide (some 2 = some 1) = true by decide), c5, Option.bind_some]
      dsimp only
      rw [if_pos (show decide (some 2 = some 2) = true by decide)]
      unfold fb_X12_order_128
      rw [g114, g10]
      cases gr with
      | false =>
        rw [if_pos (show bI false = 0 by decide), if_pos (show bI false = 0 by decide), if_neg (show ¬ oI (some 2) = 1 by decide), if_pos (show oI (some 2) = 2 by decide)]
        exact ans kW_17 kW_175 _ rfl (by decide)
      | true =>
        rw [if_neg (show ¬ bI true = 0 by decide), if_neg (show ¬ bI true = 0 by decide)]
        unfold fb_X0_answerLine_118 fn_X12_transact
        obtain ⟨p7, a7, b7⟩ := fst 1 (nI 4) (by decide)
        obtain ⟨p8, a8, b8⟩ := fst 2 (nI p7) (by decide)
        have q8 := b8 rfl
        subst q8
        rw [show fn_X12_first kW_172 (wI t0 1079 127 (nI 4)) = _ from a7, Option.bind_some]
        dsimp only
        rw [if_neg (show ¬ decide (some 2 = some 1) = true by decide), show fn_X12_first kW_173 (wI t0 1079 127 (nI p7)) = _ from a8, Option.bind_some]
        dsimp only
        rw [if_neg (show ¬ oI (some 2) = 0 by decide), if_neg (show ¬ oI (some 2) = 1 by decide), if_pos (show oI (some 2) = 2 by decide), if_pos (show decide (some 2 = some 2) = true by decide)]
        obtain ⟨s1, t1, R, x1, x2, x3, x4⟩ := t_rcpt (hS (nI 4)) hc (hRl (nI 4)) hsp (i127 _)
        exact ⟨s1, t1, R, by rw [x1]; rfl, by rw [x2]; rfl, x3.m out_r (kq_rl (hO _)), x4⟩
    · -- DATA
      have q4 := b6 rfl
      subst q4
      rw [c0, Option.bind_some]
      dsimp only
      rw [if_neg (show ¬ decide (some 3 = some 0) = true by decide), c1, Option.bind_some]
      dsimp only
      rw [if_neg (show ¬ decide (some 3 = some 5) = true by decide), c2, Option.bind_some]
      dsimp only
      rw [if_neg (show ¬ decide (some 3 = some 4) = true by decide), c3, Option.bind_some]
      dsimp only
      rw [if_neg (show ¬ decide (some 3 = some 6) = true by decide), c4, Option.bind_some]
      dsimp only
      rw [if_neg (show ¬ decide (some 3 = some 1) = true by decide), c5, Option.bind_some]
      dsimp only
      rw [if_neg (show ¬ decide (some 3 = some 2) = true by decide), c6, Option.bind_some]
      dsimp only
      rw [if_pos (show decide (some 3 = some 3) = true by decide)]
      unfold fb_X12_order_128
      rw [g114, g10]
      cases gr with
      | false =>
        rw [if_pos (show bI false = 0 by decide), if_pos (show bI false = 0 by decide), if_neg (show ¬ oI (some 3) = 1 by decide), if_neg (show ¬ oI (some 3) = 2 by decide), if_pos (show oI (some 3) = 3 by decide)]
        exact ans kW_17 kW_175 _ rfl (by decide)
      | true =>
        rw [if_neg (show ¬ bI true = 0 by decide), if_neg (show ¬ bI true = 0 by decide)]
        unfold fb_X0_answerLine_118 fn_X12_transact
        obtain ⟨p7, a7, b7⟩ := fst 1 (nI 4) (by decide)
        obtain ⟨p8, a8, b8⟩ := fst 2 (nI p7) (by decide)
        obtain ⟨p9, a9, b9⟩ := fst 3 (nI p8) (by decide)
        have q9 := b9 rfl
        subst q9
        rw [show fn_X12_first kW_172 (wI t0 1079 127 (nI 4)) = _ from a7, Option.bind_some]
        dsimp only
        rw [if_neg (show ¬ decide (some 3 = some 1) = true by decide), show fn_X12_first kW_173 (wI t0 1079 127 (nI p7)) = _ from a8, Option.bind_some]
        dsimp only
        rw [if_neg (show ¬ decide (some 3 = some 2) = true by decide), show fn_X12_first kW_174 (wI t0 1079 127 (nI p8)) = _ from a9, Option.bind_some]
        dsimp only
        rw [if_neg (show ¬ oI (some 3) = 0 by decide), if_neg (show ¬ oI (some 3) = 1 by decide), if_neg (show ¬ oI (some 3) = 2 by decide)]
        by_cases c : bs.length = 4
        · rw [if_pos (n4'.mpr c)]
          unfold fn_X0_answerBareWord
          rw [if_pos (show oI (some 3) = 3 by decide)]
          obtain ⟨s1, t1, x1, x2, x3⟩ := t_data (hS (nI 4)) (hRl (nI 4)) c (i127 _)
          exact ⟨s1, t1, _, by rw [x1]; rfl, by rw [x2]; rfl, x3.m out_r (kq_rl (hO _)), Or.inl rfl⟩
        · rw [if_neg (fun z => c (n4'.mp z))]
          unfold fn_X12_data
          rw [i127, (hRl (nI 4)).1, if_neg (by rw [nI_eq (by omega) (by omega)]; omega)]
          obtain ⟨s1, t1, R, x1, x2, x3, x4⟩ := ans kW_18 kW_165 (nI 4) rfl (by decide)
          exact ⟨s1, t1, R, x1, by rw [x2]; rfl, x3, x4⟩
    · -- RSET
      have q4 := b2 rfl
      subst q4
      rw [c0, Option.bind_some]
      dsimp only
      rw [if_neg (show ¬ decide (some 4 = some 0) = true by decide), c1, Option.bind_some]
      dsimp only
      rw [if_neg (show ¬ decide (some 4 = some 5) = true by decide), c2, Option.bind_some]
      dsimp only
      rw [if_pos (show decide (some 4 = some 4) = true by decide), if_neg (show ¬ oI (some 4) = 1 by decide), if_neg (show ¬ oI (some 4) = 2 by decide), if_neg (show ¬ oI (some 4) = 3 by decide), ite_self]
      unfold fb_X0_answerLine_118
      rw [if_neg (show ¬ oI (some 4) = 0 by decide), if_neg (show ¬ oI (some 4) = 1 by decide), if_neg (show ¬ oI (some 4) = 2 by decide)]
      by_cases c : bs.length = 4
      · rw [if_pos (n4'.mpr c)]
        unfold fn_X0_answerBareWord
        rw [if_neg (show ¬ oI (some 4) = 3 by decide), if_pos (show oI (some 4) = 4 by decide)]
        obtain ⟨s1, t1, x1, x2, x3⟩ := t_rset (hS (nI 4)) (hRl (nI 4)) c (i127 _)
        exact ⟨s1, t1, _, by rw [x1]; rfl, x2, x3.m out_r (kq_rl (hO _)), Or.inl rfl⟩
      · rw [if_neg (fun z => c (n4'.mp z))]
        obtain ⟨s1, t1, y1, y2, y3, y4, y5⟩ := t_lnR (w := kW_18) (w' := kW_165) rfl (by decide) (hS (nI 4)).1
        rw [r_done (w := kW_168) (hRl (nI 4)) (i127 _) (by omega) (by rw [if_neg (fun z => c z.symm)]; exact y2) y5, decide_eq_false (fun z => c z.symm), y1, Option.bind_some, Option.bind_some]
        exact ⟨s1, t1, _, rfl, rfl, ((hS (nI 4)).q y3 y4 y5).p (Nat.le_refl _) (kq_cl (ln_c y4)) (kq_rl (out_t (hO _) (ln_r y5))), Or.inl rfl⟩
    · -- NOOP
      have q4 := b1 rfl
      subst q4
      rw [c0, Option.bind_some]
      dsimp only
      rw [if_neg (show ¬ decide (some 5 = some 0) = true by decide), c1, Option.bind_some]
      dsimp only
      rw [if_pos (show decide (some 5 = some 5) = true by decide), if_neg (show ¬ oI (some 5) = 1 by decide), if_neg (show ¬ oI (some 5) = 2 by decide), if_neg (show ¬ oI (some 5) = 3 by decide), ite_self]
      unfold fb_X0_answerLine_118
      rw [if_neg (show ¬ oI (some 5) = 0 by decide), if_neg (show ¬ oI (some 5) = 1 by decide), if_neg (show ¬ oI (some 5) = 2 by decide)]
      by_cases c : bs.length = 4
      · rw [if_pos (n4'.mpr c)]
        unfold fn_X0_answerBareWord
        rw [if_neg (show ¬ oI (some 5) = 3 by decide), if_neg (show ¬ oI (some 5) = 4 by decide), if_pos (show oI (some 5) = 5 by decide)]
        obtain ⟨s1, t1, x1, x2, x3⟩ := t_noop (hS (nI 4)) (hRl (nI 4)) c (i127 _)
        exact ⟨s1, t1, _, by rw [x1]; rfl, x2, x3.m out_r (kq_rl (hO _)), Or.inl rfl⟩
      · rw [if_neg (fun z => c (n4'.mp z))]
        obtain ⟨s1, t1, y1, y2, y3, y4, y5⟩ := t_lnR (w := kW_18) (w' := kW_165) rfl (by decide) (hS (nI 4)).1
        rw [r_done (w := kW_168) (hRl (nI 4)) (i127 _) (by omega) (by rw [if_neg (fun z => c z.symm)]; exact y2) y5, decide_eq_false (fun z => c z.symm), y1, Option.bind_some, Option.bind_some]
        exact ⟨s1, t1, _, rfl, rfl, ((hS (nI 4)).q y3 y4 y5).p (Nat.le_refl _) (kq_cl (ln_c y4)) (kq_rl (out_t (hO _) (ln_r y5))), Or.inl rfl⟩
    · -- QUIT
      have q4 := b3 rfl
      subst q4
      rw [c0, Option.bind_some]
      dsimp only
      rw [if_neg (show ¬ decide (some 6 = some 0) = true by decide), c1, Option.bind_some]
      dsimp only
      rw [if_neg (show ¬ decide (some 6 = some 5) = true by decide), c2, Option.bind_some]
      dsimp only
      rw [if_neg (show ¬ decide (some 6 = some 4) = true by decide), c3, Option.bind_some]
      dsimp only
      rw [if_pos (show decide (some 6 = some 6) = true by decide), if_neg (show ¬ oI (some 6) = 1 by decide), if_neg (show ¬ oI (some 6) = 2 by decide), if_neg (show ¬ oI (some 6) = 3 by decide), ite_self]
      unfold fb_X0_answerLine_118
      rw [if_neg (show ¬ oI (some 6) = 0 by decide), if_neg (show ¬ oI (some 6) = 1 by decide), if_neg (show ¬ oI (some 6) = 2 by decide)]
      by_cases c : bs.length = 4
      · rw [if_pos (n4'.mpr c)]
        unfold fn_X0_answerBareWord
        rw [if_neg (show ¬ oI (some 6) = 3 by decide), if_neg (show ¬ oI (some 6) = 4 by decide), if_neg (show ¬ oI (some 6) = 5 by decide)]
        obtain ⟨s1, t1, x1, x2, x3⟩ := t_quit (hS (nI 4)) (hRl (nI 4)) c (i127 _)
        exact ⟨s1, t1, _, by rw [x1]; rfl, x2, x3.m out_r (kq_rl (hO _)), Or.inl rfl⟩
      · rw [if_neg (fun z => c (n4'.mp z))]
        obtain ⟨s1, t1, y1, y2, y3, y4, y5⟩ := t_lnR (w := kW_18) (w' := kW_165) rfl (by decide) (hS (nI 4)).1
        rw [r_done (w := kW_171) (hRl (nI 4)) (i127 _) (by omega) (by rw [if_neg (fun z => c z.symm)]; exact y2) y5, decide_eq_false (fun z => c z.symm), y1, Option.bind_some, Option.bind_some]
        exact ⟨s1, t1, _, rfl, rfl, ((hS (nI 4)).q y3 y4 y5).p (Nat.le_refl _) (kq_cl (ln_c y4)) (kq_rl (out_t (hO _) (ln_r y5))), Or.inl rfl⟩
/-- a line has ended -/
theorem t_line {gr : Bool} {sd : Option (List Nat)} {rcs : List (List Nat)} {us : List Nat} {s t : uS} {Lr : List Nat} (hq : pQ1 4 s t) (h4 : s.I 1042 4 = 1) (h113 : t.I 1079 113 = 1) (hT : tS gr sd rcs us s t) (hc : cLb s (Lr ++ [13])) (hr : rLb t Lr) (hb : bys Lr) (i8 : s.I 1042 8 = 0) (i116 : t.I 1079 116 = 0) : ∃ (s1 t1 : uS) (R : Nat), fn_X0_answerLine (wI s 1042 9 0) = some s1 ∧ fn_X12_commandLine (wI t 1079 123 0) = some (t1, true) ∧ lnP R s t s1 t1 ∧ ltR R rcs Lr := by
  have el : (Lr ++ [13]).length = Lr.length + 1 := by rw [List.length_append]; rfl
  obtain ⟨s2, hs2⟩ : ∃ s2, s2 = wI (wI s 1042 9 0) 1042 7 0 := ⟨_, rfl⟩
  obtain ⟨t2, ht2⟩ : ∃ t2, t2 = wI (wI t 1079 123 0) 1079 122 0 := ⟨_, rfl⟩
  have o2 : out (fun k f => k = 1042 ∧ (f = 9 ∨ f = 7)) rNo s s2 := by rw [hs2]; exact out_I (out_I out_r ⟨rfl, by omega⟩) ⟨rfl, by omega⟩
  have q2 : out (fun k f => k = 1079 ∧ (f = 123 ∨ f = 122)) rNo t t2 := by rw [ht2]; exact out_I (out_I out_r ⟨rfl, by omega⟩) ⟨rfl, by omega⟩
  have o2' : out kpC kpC s s2 := out_w o2 (fun k f z => by unfold kpC; omega) (fun _ _ z => z.elim)
  have q2' : out kpI kpF t t2 := out_w q2 (fun k f z => by unfold kpI; omega) (fun _ _ z => z.elim)
  have hS : lnS gr sd rcs us s2 t2 := ⟨pQ_o hq o2 q2 (fun k f a => ⟨by omega, fun z => z⟩) (fun _ _ _ z => z), (o2.2.1 _ _ (by omega)).trans h4, (q2.2.1 _ _ (by omega)).trans h113, hT.o o2' q2', by rw [hs2, wI_e], (o2.2.1 _ _ (by omega)).trans i8, by rw [hs2, wI_o (by omega), wI_e], (q2.2.1 _ _ (by omega)).trans i116, by rw [ht2, wI_e], by rw [ht2, wI_o (by omega), wI_e]⟩
  have i7 : (wI s 1042 9 0).I 1042 7 - 1 = nI (min Lr.length 501) := by
    rw [wI_o (by omega), hc.1, el, show min (Lr.length + 1) 502 = min Lr.length 501 + 1 by omega, nI_pred]
  have i122 : (wI t 1079 123 0).I 1079 122 = nI (min Lr.length 100000) := by rw [wI_o (by omega)]; exact hr.1
  unfold fn_X0_answerLine fn_X12_commandLine
  rw [i7, i122, ← hs2, ← ht2]
  by_cases c : Lr.length ≤ 500
  · rw [if_pos (show nI (min Lr.length 501) ≤ 500 from nI_le (b := 500) (by omega) (by decide)), if_pos (show nI (min Lr.length 100000) ≤ 500 from nI_le (b := 500) (by omega) (by decide)), show min Lr.length 501 = Lr.length by omega, show min Lr.length 100000 = Lr.length by omega]
    have hrd : rdC s2 1052 0 Lr := by
      refine ⟨by omega, hb, fun j hj => ?_⟩
      rw [Nat.zero_add, g_1052 (by omega), hs2, wI_Fe, wI_Fe, hc.2 j (by omega) (by omega), getDn_app hj]
    have hrl : rLn (wI t2 1079 126 (nI Lr.length)) Lr := ⟨wI_e _ _ _ _, c, hb, fun j hj => by rw [wI_Fe, ht2, wI_Fe, wI_Fe]; exact hr.2 j hj (by omega)⟩
    rw [c_word hrd c]
    obtain ⟨s1, t1, R, x1, x2, x3, x4⟩ := t_order hS hrd hrl
    exact ⟨s1, t1, R, x1, by rw [x2]; rfl, x3.m (kp_cl o2') (kp_rl q2'), x4⟩
  · rw [if_neg (show ¬ nI (min Lr.length 501) ≤ 500 from nI_ge (a := 500) (by omega) (by omega)), if_neg (show ¬ nI (min Lr.length 100000) ≤ 500 from nI_ge (a := 500) (by omega) (by omega))]
    obtain ⟨s1, t1, a1, a2, a3, a4, a5⟩ := t_an (w := kW_14) (w' := kW_164) hS rfl (by decide)
    rw [a1, Option.bind_some, a2, Option.bind_some]
    exact ⟨s1, t1, _, rfl, rfl, a3.p (Nat.le_refl _) (out_t (kp_cl o2') (kq_cl a4)) (out_t (kp_rl q2') (kq_rl a5)), Or.inl rfl⟩
