/-! a byte of a message on both sides -/
theorem r_50 {t : uS} {Tr : List Nat} {x cnt : Nat} {dot : Bool} (h : rTb t Tr) (hx : x < 256) (hc : cnt < 2 ^ 30) (h116 : t.I 1079 116 = 1) (h124 : t.I 1079 124 = bI dot) (h125 : t.I 1079 125 = nI cnt) (hk : ¬ (x = 46 ∧ cnt = 0 ∧ dot = false)) : ∃ t1 : uS, fb_X12_mailIn_50 (nI x) t = some (t1, true) ∧ rTb t1 (if x = 13 then Tr else Tr ++ [x]) ∧ t1.I 1079 123 = bI (decide (x = 13)) ∧ t1.I 1079 124 = bI dot ∧ t1.I 1079 125 = nI (if x = 13 then cnt else cnt + 1) ∧ out dyI mbR t t1 := by
  have e13 : nI x = 13 ↔ x = 13 := nI_eq (b := 13) (by omega) (by decide)
  unfold fb_X12_mailIn_50 fb_X12_mailIn_62
  by_cases c : x = 13
  · rw [if_pos (e13.mpr c), wI_e, if_neg (show ¬ bI true = 0 by decide), if_pos c, if_pos c, decide_eq_true c]
    refine ⟨_, rfl, ⟨?_, fun j y1 y2 => ?_⟩, wI_e _ _ _ _, ?_, ?_, out_I out_r ⟨rfl, by omega⟩⟩
    · rw [wI_o (by omega)]; exact h.1
    · rw [wI_Fe]; exact h.2 j y1 y2
    · rw [wI_o (by omega)]; exact h124
    · rw [wI_o (by omega)]; exact h125
  · rw [if_neg (fun z => c (e13.mp z)), wI_e, if_pos (show bI false = 0 by decide), if_neg c, if_neg c, decide_eq_false c]
    obtain ⟨t2, ht2⟩ : ∃ t2, t2 = wI t 1079 123 (bI false) := ⟨_, rfl⟩
    rw [← ht2]
    have hb : rTb t2 Tr := ⟨by rw [ht2, wI_o (by omega)]; exact h.1, fun j y1 y2 => by rw [ht2, wI_Fe]; exact h.2 j y1 y2⟩
    obtain ⟨t3, a1, a2, a3, a4, a5⟩ := r_plain hb hx hc (by rw [ht2, wI_o (by omega)]; exact h116) (by rw [ht2, wI_o (by omega)]; exact h124) (by rw [ht2, wI_o (by omega)]; exact h125) hk
    have o2 : out dyI mbR t t2 := by rw [ht2]; exact out_I out_r ⟨rfl, by omega⟩
    refine ⟨t3, by rw [a1, Option.bind_some], a2, ?_, a3, a4, out_t o2 (out_w a5 (fun _ _ z => dz_dy z) (fun _ _ z => z))⟩
    rw [a5.2.1 _ _ (by unfold dzI; omega), ht2, wI_e]
/-- where the two sides stand within a message -/
def dMd (m : Nat) (fl pd dot : Bool) (cnt : Nat) (T Tr : List Nat) : Prop :=
  (m = 1 ∧ fl = false ∧ pd = false ∧ dot = false ∧ cnt = 0 ∧ Tr = T ∧ crE T) ∨
  (m = 2 ∧ fl = false ∧ pd = false ∧ dot = true ∧ cnt = 0 ∧ Tr = T ∧ crE T) ∨
  (m = 3 ∧ fl = false ∧ pd = true ∧ dot = true ∧ cnt = 0 ∧ Tr = T ∧ crE T) ∨
  (m = 4 ∧ fl = false ∧ pd = false ∧ 0 < cnt ∧ Tr = T) ∨
  (m = 4 ∧ fl = true ∧ pd = true ∧ (dot = true → 0 < cnt) ∧ T = Tr ++ [13])
def dR (T : List Nat) (s t : uS) : Prop := ∃ (m : Nat) (fl pd dot : Bool) (cnt : Nat) (Tr : List Nat), dMd m fl pd dot cnt T Tr ∧ cTb s T ∧ rTb t Tr ∧ s.I 1042 8 = nI m ∧ s.I 1042 9 = bI fl ∧ t.I 1079 116 = 1 ∧ t.I 1079 123 = bI pd ∧ t.I 1079 124 = bI dot ∧ t.I 1079 125 = nI cnt ∧ cnt ≤ Tr.length ∧ bys T
theorem dyI_116 : ¬ dyI 1079 116 := by unfold dyI; omega
theorem t_85 {s t : uS} {T : List Nat} {x cnt : Nat} {fl dot : Bool} (hc : cTb s T) (hr : rTb t T) (hx : x < 256) (h9 : s.I 1042 9 = bI fl) (hfl : ¬ (x = 10 ∧ fl = true)) (hcnt : cnt ≤ T.length) (hT : T.length < 2 ^ 29) (h116 : t.I 1079 116 = 1) (h124 : t.I 1079 124 = bI dot) (h125 : t.I 1079 125 = nI cnt) (hk : ¬ (x = 46 ∧ cnt = 0 ∧ dot = false)) (hd : x = 13 → dot = true → 0 < cnt) (hb : bys T) : ∃ s1 t1 : uS, fb_X0_takeInMessage_85 (nI x) s = some (s1, 0) ∧ fb_X12_mailIn_50 (nI x) t = some (t1, true) ∧ dR (T ++ [x]) s1 t1 ∧ out dbI tbF s s1 ∧ out dyI mbR t t1 := by
  obtain ⟨s1, a1, a2, a3, a4, a5⟩ := c_85 hc hx h9
  obtain ⟨t1, b1, b2, b3, b4, b5, b6⟩ := r_50 hr hx (Nat.lt_of_le_of_lt hcnt (Nat.lt_trans hT (by decide))) h116 h124 h125 hk
  have el : (T ++ [x]).length = T.length + 1 := by rw [List.length_append]; rfl
  rw [if_neg hfl] at a3
  refine ⟨s1, t1, a1, b1, ⟨4, decide (x = 13), decide (x = 13), dot, if x = 13 then cnt else cnt + 1, if x = 13 then T else T ++ [x], ?_, a2, b2, a3, a4, (b6.2.1 _ _ dyI_116).trans h116, b3, b4, b5, ?_, bys_app hb hx⟩, a5, b6⟩
  · by_cases c : x = 13
    · rw [if_pos c, if_pos c, decide_eq_true c]
      exact Or.inr (Or.inr (Or.inr (Or.inr ⟨rfl, rfl, rfl, hd c, by rw [c]⟩)))
    · rw [if_neg c, if_neg c, decide_eq_false c]
      exact Or.inr (Or.inr (Or.inr (Or.inl ⟨rfl, rfl, rfl, Nat.succ_pos _, rfl⟩)))
  · by_cases c : x = 13
    · rw [if_pos c, if_pos c]; exact hcnt
    · rw [if_neg c, if_neg c, el]; exact Nat.succ_le_succ hcnt
theorem crE_end {Tr : List Nat} : crE (Tr ++ [13] ++ [10]) := by
  have el : (Tr ++ [13] ++ [10]).length = Tr.length + 2 := by rw [List.length_append, List.length_append]; rfl
  refine Or.inr ⟨by omega, ?_, ?_⟩
  · rw [el, show Tr.length + 2 - 2 = Tr.length by omega, getDn_app (by rw [List.length_append]; show Tr.length < Tr.length + 1; omega)]
    exact getDn_end
  · rw [el, show Tr.length + 2 - 1 = (Tr ++ [13]).length by rw [List.length_append]; show Tr.length + 2 - 1 = Tr.length + 1; omega]
    exact getDn_end
/-- a byte of a message, both sides -/
theorem t_dbyte {s t : uS} {T : List Nat} {x : Nat} (h : dR T s t) (hx : x < 256) (hT : T.length + 2 < 2 ^ 29) :
    (∃ (s1 t1 : uS) (T1 : List Nat), fn_X0_takeInMessage (nI x) s = some (s1, 0) ∧ fn_X12_mailIn (nI x) t = some (t1, true) ∧ dR T1 s1 t1 ∧ T1.length ≤ T.length + 2 ∧ out dbI tbF s s1 ∧ out dyI mbR t t1) ∨
    (crE T ∧ cTb s T ∧ rTb t T ∧ bys T ∧ fn_X0_takeInMessage (nI x) s = some (wI (wI s 1042 8 0) 1042 9 0, 2) ∧ fn_X12_mailIn (nI x) t = fb_X12_dataLine_19 true (wI t 1079 123 0)) := by
  obtain ⟨m, fl, pd, dot, cnt, Tr, hm, hc, hr, i8, i9, r116, r123, r124, r125, hcnt, hb⟩ := h
  have e13 : nI x = 13 ↔ x = 13 := nI_eq (b := 13) (by omega) (by decide)
  have e10 : nI x = 10 ↔ x = 10 := nI_eq (b := 10) (by omega) (by decide)
  have e46 : nI x = 46 ↔ x = 46 := nI_eq (b := 46) (by omega) (by decide)
  have el : ∀ y : Nat, (T ++ [y]).length = T.length + 1 := fun y => by rw [List.length_append]; rfl
  have no : ∀ pd' : Bool, pd' = false → t.I 1079 123 = bI pd' → fn_X12_mailIn (nI x) t = fb_X12_mailIn_50 (nI x) t := by
    intro pd' hp hp2
    subst hp
    unfold fn_X12_mailIn fb_X12_mailIn_37
    rw [hp2, if_pos (show bI false = 0 by decide), if_pos (show bI false = 0 by decide)]
  rcases hm with ⟨rfl, rfl, rfl, rfl, rfl, rfl, hE⟩ | ⟨rfl, rfl, rfl, rfl, rfl, rfl, hE⟩ | ⟨rfl, rfl, rfl, rfl, rfl, rfl, hE⟩ | ⟨rfl, rfl, rfl, hp, rfl⟩ | ⟨rfl, rfl, rfl, hp, hTr⟩
  · -- a line begins
    left
    by_cases c : x = 46
    · refine ⟨wI s 1042 8 2, wI (wI t 1079 123 (bI false)) 1079 124 1, Tr, ?_, ?_, ⟨2, false, false, true, 0, Tr, Or.inr (Or.inl ⟨rfl, rfl, rfl, rfl, rfl, rfl, hE⟩), ⟨?_, fun j y1 y2 => ?_⟩, ⟨?_, fun j y1 y2 => ?_⟩, wI_e _ _ _ _, ?_, ?_, ?_, wI_e _ _ _ _, ?_, Nat.zero_le _, hb⟩, Nat.le_add_right _ _, out_I out_r ⟨rfl, by omega⟩, out_I (out_I out_r ⟨rfl, by omega⟩) ⟨rfl, by omega⟩⟩
      · unfold fn_X0_takeInMessage
        rw [i8, if_pos (show nI 1 = 1 from rfl), if_pos (e46.mpr c)]
      · rw [no false rfl r123]
        unfold fb_X12_mailIn_50 fb_X12_mailIn_62
        rw [if_neg (fun z => by have := e13.mp z; omega), wI_e, if_pos (show bI false = 0 by decide), e46.mpr c, r_dotB (by rw [wI_o (by omega)]; exact r116) (by rw [wI_o (by omega)]; exact r124) (by rw [wI_o (by omega)]; exact r125), Option.bind_some]
      · rw [wI_o (by omega)]; exact hc.1
      · rw [wI_Fe]; exact hc.2 j y1 y2
      · rw [wI_o (by omega), wI_o (by omega)]; exact hr.1
      · rw [wI_Fe, wI_Fe]; exact hr.2 j y1 y2
      · rw [wI_o (by omega)]; exact i9
      · rw [wI_o (by omega), wI_o (by omega)]; exact r116
      · rw [wI_o (by omega), wI_e]
      · rw [wI_o (by omega), wI_o (by omega)]; exact r125
    · obtain ⟨s1, t1, a1, a2, a3, a4, a5⟩ := t_85 hc hr hx i9 (fun z => Bool.noConfusion z.2) hcnt (by omega) r116 r124 r125 (fun z => c z.1) (fun _ z => Bool.noConfusion z) hb
      refine ⟨s1, t1, _, ?_, by rw [no false rfl r123]; exact a2, a3, by rw [el]; omega, a4, a5⟩
      unfold fn_X0_takeInMessage
      rw [i8, if_pos (show nI 1 = 1 from rfl), if_neg (fun z => c (e46.mp z))]
      exact a1
  · -- behind a dot
    left
    by_cases c : x = 13
    · refine ⟨wI s 1042 8 3, wI t 1079 123 (bI true), Tr, ?_, ?_, ⟨3, false, true, true, 0, Tr, Or.inr (Or.inr (Or.inl ⟨rfl, rfl, rfl, rfl, rfl, rfl, hE⟩)), ⟨?_, fun j y1 y2 => ?_⟩, ⟨?_, fun j y1 y2 => ?_⟩, wI_e _ _ _ _, ?_, ?_, wI_e _ _ _ _, ?_, ?_, Nat.zero_le _, hb⟩, Nat.le_add_right _ _, out_I out_r ⟨rfl, by omega⟩, out_I out_r ⟨rfl, by omega⟩⟩
      · unfold fn_X0_takeInMessage
        rw [i8, if_neg (show ¬ nI 2 = 1 by decide), if_pos (show nI 2 = 2 from rfl), if_pos (e13.mpr c)]
      · rw [no false rfl r123]
        unfold fb_X12_mailIn_50 fb_X12_mailIn_62
        rw [if_pos (e13.mpr c), wI_e, if_neg (show ¬ bI true = 0 by decide)]
      · rw [wI_o (by omega)]; exact hc.1
      · rw [wI_Fe]; exact hc.2 j y1 y2
      · rw [wI_o (by omega)]; exact hr.1
      · rw [wI_Fe]; exact hr.2 j y1 y2
      · rw [wI_o (by omega)]; exact i9
      · rw [wI_o (by omega)]; exact r116
      · rw [wI_o (by omega)]; exact r124
      · rw [wI_o (by omega)]; exact r125
    · obtain ⟨s1, t1, a1, a2, a3, a4, a5⟩ := t_85 hc hr hx i9 (fun z => Bool.noConfusion z.2) hcnt (by omega) r116 r124 r125 (fun z => Bool.noConfusion z.2.2) (fun z => absurd z c) hb
      refine ⟨s1, t1, _, ?_, by rw [no false rfl r123]; exact a2, a3, by rw [el]; omega, a4, a5⟩
      unfold fn_X0_takeInMessage
      rw [i8, if_neg (show ¬ nI 2 = 1 by decide), if_pos (show nI 2 = 2 from rfl), if_neg (fun z => c (e13.mp z))]
      exact a1
  · -- behind dot CR
    by_cases c : x = 10
    · right
      refine ⟨hE, hc, hr, hb, ?_, ?_⟩
      · unfold fn_X0_takeInMessage
        rw [i8, if_neg (show ¬ nI 3 = 1 by decide), if_neg (show ¬ nI 3 = 2 by decide), if_pos (show nI 3 = 3 from rfl), if_pos (e10.mpr c)]
      · unfold fn_X12_mailIn fn_X12_dataLine
        have q116 : (wI t 1079 123 0).I 1079 116 = 1 := by rw [wI_o (by omega)]; exact r116
        have q124 : (wI t 1079 123 0).I 1079 124 = bI true := by rw [wI_o (by omega)]; exact r124
        have q125 : (wI t 1079 123 0).I 1079 125 = nI 0 := by rw [wI_o (by omega)]; exact r125
        rw [r123, if_neg (show ¬ bI true = 0 by decide), if_pos (e10.mpr c), q116, if_neg (by decide), q124, if_neg (show ¬ bI true = 0 by decide), q125, if_pos (show nI 0 = 0 from rfl)]
        cases fb_X12_dataLine_19 true (wI t 1079 123 0) with
        | none => rfl
        | some r => rfl
    · left
      obtain ⟨s2, a1, a2, a3⟩ := c_addT (x := 13) hc (by decide)
      obtain ⟨t2, b1, b2, b3, b4, b5⟩ := r_plain (x := 13) hr (by decide) (by decide) r116 r124 r125 (fun z => absurd z.1 (by decide))
      have o2 : out dyI mbR t t2 := out_w b5 (fun _ _ z => dz_dy z) (fun _ _ z => z)
      have o1 : out dbI tbF s s2 := out_w a3 (fun k f z => ⟨z.1, Or.inl z.2⟩) (fun _ _ z => z)
      obtain ⟨s1, t1, c1, c2, c3, c4, c5⟩ := t_85 a2 b2 hx ((a3.2.1 _ _ (by unfold tbI; omega)).trans i9) (fun z => Bool.noConfusion z.2) (by rw [el]; omega) (by rw [el]; omega) ((o2.2.1 _ _ dyI_116).trans r116) b3 b4 (fun z => by have := z.2.1; omega) (fun _ _ => by omega) (bys_app hb (by decide))
      refine ⟨s1, t1, _, ?_, ?_, c3, ?_, out_t o1 c4, out_t o2 c5⟩
      · unfold fn_X0_takeInMessage
        rw [i8, if_neg (show ¬ nI 3 = 1 by decide), if_neg (show ¬ nI 3 = 2 by decide), if_pos (show nI 3 = 3 from rfl), if_neg (fun z => c (e10.mp z))]
        rw [show fn_X0_addToText 13 s = some s2 from a1, Option.bind_some]
        exact c1
      · unfold fn_X12_mailIn fb_X12_mailIn_37
        rw [r123, if_neg (show ¬ bI true = 0 by decide), if_neg (fun z => c (e10.mp z)), if_neg (show ¬ bI true = 0 by decide)]
        rw [show fn_X12_plain 13 t = some t2 from b1, Option.bind_some]
        exact c2
      · rw [List.length_append, el]; exact Nat.le_refl _
  · -- within a line
    left
    obtain ⟨s1, t1, a1, a2, a3, a4, a5⟩ := t_85 hc hr hx i9 (fun z => Bool.noConfusion z.2) hcnt (by omega) r116 r124 r125 (fun z => by have := z.2.1; omega) (fun _ _ => hp) hb
    refine ⟨s1, t1, _, ?_, by rw [no false rfl r123]; exact a2, a3, by rw [el]; omega, a4, a5⟩
    unfold fn_X0_takeInMessage
    rw [i8, if_neg (show ¬ nI 4 = 1 by decide), if_neg (show ¬ nI 4 = 2 by decide), if_neg (show ¬ nI 4 = 3 by decide)]
    exact a1
  · -- behind a CR within a line
    left
    have hl0 : Tr.length + 1 = T.length := by rw [hTr, List.length_append]; rfl
    have ek : fn_X0_takeInMessage (nI x) s = fb_X0_takeInMessage_85 (nI x) s := by
      unfold fn_X0_takeInMessage
      rw [i8, if_neg (show ¬ nI 4 = 1 by decide), if_neg (show ¬ nI 4 = 2 by decide), if_neg (show ¬ nI 4 = 3 by decide)]
    by_cases c : x = 10
    · obtain ⟨s1, a1, a2, a3, a4, a5⟩ := c_85 hc hx i9
      rw [if_pos ⟨c, rfl⟩] at a3
      obtain ⟨t2, ht2⟩ : ∃ t2, t2 = wI (wI (wI t 1079 123 0) 1079 124 0) 1079 125 0 := ⟨_, rfl⟩
      have hb2 : rTb t2 Tr := ⟨by rw [ht2, wI_o (by omega), wI_o (by omega), wI_o (by omega)]; exact hr.1, fun j y1 y2 => by rw [ht2, wI_Fe, wI_Fe, wI_Fe]; exact hr.2 j y1 y2⟩
      obtain ⟨t3, b1, b2, b3⟩ := r_mbyte (x := 13) hb2
      obtain ⟨t4, d1, d2, d3⟩ := r_mbyte (x := 10) b2
      have o2 : out dyI mbR t t2 := by rw [ht2]; exact out_I (out_I (out_I out_r ⟨rfl, by omega⟩) ⟨rfl, by omega⟩) ⟨rfl, by omega⟩
      have n3 : ∀ f : Nat, f ≠ 13 → t4.I 1079 f = t2.I 1079 f := fun f hf => (d3.2.1 _ _ (by unfold mbI; omega)).trans (b3.2.1 _ _ (by unfold mbI; omega))
      refine ⟨s1, t4, T ++ [x], ek.trans a1, ?_, ⟨1, decide (x = 13), false, false, 0, T ++ [x], Or.inl ⟨rfl, by rw [c]; rfl, rfl, rfl, rfl, rfl, by rw [hTr, c]; exact crE_end⟩, a2, by rw [hTr, c]; exact d2, a3, a4, ?_, ?_, ?_, ?_, Nat.zero_le _, bys_app hb hx⟩, by rw [el]; omega, a5, out_t (out_t o2 (out_w b3 (fun k f z => ⟨z.1, Or.inl z.2⟩) (fun _ _ z => z))) (out_w d3 (fun k f z => ⟨z.1, Or.inl z.2⟩) (fun _ _ z => z))⟩
      · unfold fn_X12_mailIn fn_X12_dataLine
        have q116 : (wI t 1079 123 0).I 1079 116 = 1 := by rw [wI_o (by omega)]; exact r116
        have q124 : (wI t 1079 123 0).I 1079 124 = bI dot := by rw [wI_o (by omega)]; exact r124
        have q125 : (wI t 1079 123 0).I 1079 125 = nI cnt := by rw [wI_o (by omega)]; exact r125
        have d19 : fb_X12_dataLine_19 false (wI t 1079 123 0) = some (t4, true) := by
          unfold fb_X12_dataLine_19
          rw [if_neg (by decide), ← ht2, show fn_X12_mailByte 13 t2 = some t3 from b1, Option.bind_some, show fn_X12_mailByte 10 t3 = some t4 from d1, Option.bind_some]
        rw [r123, if_neg (show ¬ bI true = 0 by decide), if_pos (e10.mpr c), q116, if_neg (by decide), q124, q125]
        cases dot with
        | false => rw [if_pos (show bI false = 0 by decide), d19, Option.bind_some]
        | true =>
          rw [if_neg (show ¬ bI true = 0 by decide), if_neg (fun z => by have := (nI_eq (b := 0) (by omega) (by decide)).mp z; have := hp rfl; omega), d19, Option.bind_some]
      · rw [n3 116 (by decide), ht2, wI_o (by omega), wI_o (by omega), wI_o (by omega)]; exact r116
      · rw [n3 123 (by decide), ht2, wI_o (by omega), wI_o (by omega), wI_e]; rfl
      · rw [n3 124 (by decide), ht2, wI_o (by omega), wI_e]; rfl
      · rw [n3 125 (by decide), ht2, wI_e]; rfl
    · have hl : Tr.length + 1 = T.length := by rw [hTr, List.length_append]; rfl
      obtain ⟨t2, b1, b2, b3, b4, b5⟩ := r_plain (x := 13) hr (by decide) (by omega) r116 r124 r125 (fun z => absurd z.1 (by decide))
      rw [← hTr] at b2
      have o2 : out dyI mbR t t2 := out_w b5 (fun _ _ z => dz_dy z) (fun _ _ z => z)
      obtain ⟨s1, t1, c1, c2, c3, c4, c5⟩ := t_85 hc b2 hx i9 (fun z => c z.1) (by omega) (by omega) ((o2.2.1 _ _ dyI_116).trans r116) b3 b4 (fun z => by have := z.2.1; omega) (fun _ _ => by omega) hb
      refine ⟨s1, t1, _, ek.trans c1, ?_, c3, by rw [el]; omega, c4, out_t o2 c5⟩
      unfold fn_X12_mailIn fb_X12_mailIn_37
      rw [r123, if_neg (show ¬ bI true = 0 by decide), if_neg (fun z => c (e10.mp z)), if_neg (show ¬ bI true = 0 by decide)]
      rw [show fn_X12_plain 13 t = some t2 from b1, Option.bind_some]
      exact c2
