/-! a byte of a command line on both sides -/
def cLb (s : uS) (L : List Nat) : Prop := s.I 1042 7 = nI (min L.length 502) ∧ ∀ j : Nat, j < L.length → j < 501 → s.F 1052 j = sb (L.getD j 0)
def rLb (t : uS) (L : List Nat) : Prop := t.I 1079 122 = nI (min L.length 100000) ∧ ∀ j : Nat, j < L.length → j < 505 → t.F 1147 j = nI (L.getD j 0)
def lbI (k f : Nat) : Prop := k = 1042 ∧ (f = 7 ∨ f = 9)
def lbF (k _f : Nat) : Prop := k = 1052
def lrI (k f : Nat) : Prop := k = 1079 ∧ f = 122
def lrJ (k f : Nat) : Prop := k = 1079 ∧ (f = 122 ∨ f = 123)
def lrF (k _f : Nat) : Prop := k = 1147
theorem ul_1052 (s : uS) : ulen s 1052 = some (nI 501) := rfl
theorem c_cb {s : uS} {L : List Nat} {x : Nat} (h : cLb s L) (hx : x < 256) : ∃ s1 : uS, fb_X0_takeInCommands_20 (nI x) s = some (s1, 0) ∧ cLb s1 (L ++ [x]) ∧ s1.I 1042 9 = bI (decide (x = 13)) ∧ out lbI lbF s s1 := by
  obtain ⟨h1, h2⟩ := h
  have e13 : nI x = 13 ↔ x = 13 := nI_eq (b := 13) (by omega) (by decide)
  have el : (L ++ [x]).length = L.length + 1 := by rw [List.length_append]; rfl
  have fin : ∀ s2 : uS, s2.I 1042 7 = nI (min L.length 502) → ∃ s3 : uS, fb_X0_takeInCommands_43 (nI x) s2 = some (s3, 0) ∧ s3.I 1042 7 = nI (min (L.length + 1) 502) ∧ s3.I 1042 9 = bI (decide (x = 13)) ∧ s3.F = s2.F ∧ out lbI lbF s2 s3 := by
    intro s2 hs
    have key : (if nI 501 + 1 < nI (min L.length 502) + 1 then nI 501 + 1 else nI (min L.length 502) + 1) = nI (min (L.length + 1) 502) := by
      rw [nI_1, nI_1]
      by_cases c : 502 < min L.length 502 + 1
      · rw [if_pos (nI_lt (a := 501 + 1) c (by omega)), show min (L.length + 1) 502 = 501 + 1 by omega]
      · rw [if_neg (nI_nlt (a := 501 + 1) (by omega) (by decide)), show min (L.length + 1) 502 = min L.length 502 + 1 by omega]
    unfold fb_X0_takeInCommands_43
    rw [ul_1052, Option.bind_some, hs, key]
    by_cases c : x = 13
    · rw [if_pos (e13.mpr c), decide_eq_true c]
      exact ⟨_, rfl, by rw [wI_o (by omega), wI_e], wI_e _ _ _ _, rfl, out_I (out_I out_r ⟨rfl, by omega⟩) ⟨rfl, by omega⟩⟩
    · rw [if_neg (fun z => c (e13.mp z)), decide_eq_false c]
      exact ⟨_, rfl, by rw [wI_o (by omega), wI_e], wI_e _ _ _ _, rfl, out_I (out_I out_r ⟨rfl, by omega⟩) ⟨rfl, by omega⟩⟩
  unfold fb_X0_takeInCommands_20
  rw [ul_1052, Option.bind_some, h1]
  by_cases c : 501 ≤ L.length
  · rw [if_pos (nI_le (a := 501) (by omega) (by omega))]
    obtain ⟨s3, a1, a2, a3, a4, a5⟩ := fin s h1
    refine ⟨s3, a1, ⟨by rw [el]; exact a2, fun j hj hj2 => ?_⟩, a3, a5⟩
    rw [a4, getDn_app (by omega)]
    exact h2 j (by omega) hj2
  · rw [if_neg (nI_ge (b := 501) (by omega) (by omega)), show min L.length 502 = L.length by omega, p_1052 (by omega), Option.bind_some]
    obtain ⟨s3, a1, a2, a3, a4, a5⟩ := fin (wF s 1052 L.length (unar 21 (nI x).toInt8.toInt32)) h1
    refine ⟨s3, a1, ⟨by rw [el]; exact a2, fun j hj hj2 => ?_⟩, a3, out_t (out_F out_r rfl) a5⟩
    rw [a4]
    by_cases d : j = L.length
    · rw [d, wF_e, getDn_end]
      show ((nI x).toInt8.toInt32).toInt8.toInt32 = sb x
      exact sb_i8 hx
    · rw [wF_o (by omega), getDn_app (by omega)]
      exact h2 j (by omega) hj2
theorem r_cb {t : uS} {L : List Nat} {x : Nat} (h : rLb t L) (h116 : t.I 1079 116 = 0) : ∃ t1 : uS, fn_X12_plain (nI x) t = some t1 ∧ rLb t1 (L ++ [x]) ∧ out lrI lrF t t1 := by
  obtain ⟨h1, h2⟩ := h
  have el : (L ++ [x]).length = L.length + 1 := by rw [List.length_append]; rfl
  have fin : ∀ s2 : uS, s2.I 1079 122 = nI (min L.length 100000) → ∃ s3 : uS, fb_X12_cmdByte_20 s2 = some s3 ∧ s3.I 1079 122 = nI (min (L.length + 1) 100000) ∧ s3.F = s2.F ∧ out lrI lrF s2 s3 := by
    intro s2 hs
    refine ⟨wI s2 1079 122 (nI (min (L.length + 1) 100000)), ?_, wI_e _ _ _ _, wI_Fe _ _ _ _, out_I out_r ⟨rfl, rfl⟩⟩
    unfold fb_X12_cmdByte_20
    rw [hs, nI_1]
    by_cases c : 100000 ≤ L.length
    · rw [if_pos (show (100000 : Int32) ≤ nI (min L.length 100000) from nI_le (a := 100000) (by omega) (by omega)), show min (L.length + 1) 100000 = min L.length 100000 by omega]
    · rw [if_neg (show ¬ (100000 : Int32) ≤ nI (min L.length 100000) from nI_ge (b := 100000) (by omega) (by omega)), show min (L.length + 1) 100000 = min L.length 100000 + 1 by omega]
  unfold fn_X12_plain fn_X12_cmdByte
  rw [if_pos h116, h1]
  by_cases c : 505 ≤ L.length
  · rw [if_pos (show (505 : Int32) ≤ nI (min L.length 100000) from nI_le (a := 505) (by omega) (by omega))]
    obtain ⟨s3, a1, a2, a3, a4⟩ := fin t h1
    refine ⟨s3, by rw [a1, Option.bind_some], ⟨by rw [el]; exact a2, fun j hj hj2 => ?_⟩, a4⟩
    rw [a3, getDn_app (by omega)]
    exact h2 j (by omega) hj2
  · rw [if_neg (show ¬ (505 : Int32) ≤ nI (min L.length 100000) from nI_ge (b := 505) (by omega) (by omega)), show min L.length 100000 = L.length by omega, p_1147 (by omega), Option.bind_some]
    obtain ⟨s3, a1, a2, a3, a4⟩ := fin (wF t 1147 L.length (nI x)) h1
    refine ⟨s3, by rw [a1, Option.bind_some], ⟨by rw [el]; exact a2, fun j hj hj2 => ?_⟩, out_t (out_F out_r rfl) a4⟩
    rw [a3]
    by_cases d : j = L.length
    · rw [d, wF_e, getDn_end]
    · rw [wF_o (by omega), getDn_app (by omega)]
      exact h2 j (by omega) hj2
/-- where the two sides stand within a line -/
def kR (L : List Nat) (s t : uS) : Prop := ∃ (fl : Bool) (Lr : List Nat), L = Lr ++ (if fl = true then [13] else []) ∧ cLb s L ∧ rLb t Lr ∧ s.I 1042 8 = 0 ∧ s.I 1042 9 = bI fl ∧ t.I 1079 116 = 0 ∧ t.I 1079 123 = bI fl ∧ bys L
theorem lrJ_116 : ¬ lrJ 1079 116 := by unfold lrJ; omega
theorem out_lrJ {t t1 : uS} (o : out lrI lrF t t1) : out lrJ lrF t t1 := out_w o (fun _ _ z => ⟨z.1, Or.inl z.2⟩) (fun _ _ z => z)
theorem t_k50 {s t : uS} {L : List Nat} {x : Nat} (hc : cLb s L) (hr : rLb t L) (hx : x < 256) (h8 : s.I 1042 8 = 0) (h116 : t.I 1079 116 = 0) (hb : bys L) : ∃ s1 t1 : uS, fb_X0_takeInCommands_20 (nI x) s = some (s1, 0) ∧ fb_X12_mailIn_50 (nI x) t = some (t1, true) ∧ kR (L ++ [x]) s1 t1 ∧ out lbI lbF s s1 ∧ out lrJ lrF t t1 := by
  obtain ⟨s1, a1, a2, a3, a4⟩ := c_cb hc hx
  have e13 : nI x = 13 ↔ x = 13 := nI_eq (b := 13) (by omega) (by decide)
  have s8 : s1.I 1042 8 = 0 := (a4.2.1 _ _ (by unfold lbI; omega)).trans h8
  unfold fb_X12_mailIn_50 fb_X12_mailIn_62
  by_cases c : x = 13
  · rw [if_pos (e13.mpr c), wI_e, if_neg (show ¬ bI true = 0 by decide)]
    refine ⟨s1, _, a1, rfl, ⟨true, L, by rw [if_pos rfl, c], a2, ⟨by rw [wI_o (by omega)]; exact hr.1, fun j y1 y2 => by rw [wI_Fe]; exact hr.2 j y1 y2⟩, s8, by rw [a3, decide_eq_true c], by rw [wI_o (by omega)]; exact h116, wI_e _ _ _ _, bys_app hb hx⟩, a4, out_I out_r ⟨rfl, by omega⟩⟩
  · rw [if_neg (fun z => c (e13.mp z)), wI_e, if_pos (show bI false = 0 by decide)]
    obtain ⟨t2, ht2⟩ : ∃ t2, t2 = wI t 1079 123 (bI false) := ⟨_, rfl⟩
    rw [← ht2]
    have hb2 : rLb t2 L := ⟨by rw [ht2, wI_o (by omega)]; exact hr.1, fun j y1 y2 => by rw [ht2, wI_Fe]; exact hr.2 j y1 y2⟩
    have q116 : t2.I 1079 116 = 0 := by rw [ht2, wI_o (by omega)]; exact h116
    obtain ⟨t3, b1, b2, b3⟩ := r_cb (x := x) hb2 q116
    have o2 : out lrJ lrF t t2 := by rw [ht2]; exact out_I out_r ⟨rfl, by omega⟩
    refine ⟨s1, t3, a1, by rw [b1, Option.bind_some], ⟨false, L ++ [x], by rw [if_neg (by decide), List.append_nil], a2, b2, s8, by rw [a3, decide_eq_false c], (b3.2.1 _ _ (by unfold lrI; omega)).trans q116, ?_, bys_app hb hx⟩, a4, out_t o2 (out_lrJ b3)⟩
    rw [b3.2.1 _ _ (by unfold lrI; omega), ht2, wI_e]
/-- a byte of a command line, both sides -/
theorem t_cbyte {s t : uS} {L : List Nat} {x : Nat} (h : kR L s t) (hx : x < 256) :
    (∃ s1 t1 : uS, fn_X0_takeInCommands (nI x) s = some (s1, 0) ∧ fn_X12_mailIn (nI x) t = some (t1, true) ∧ kR (L ++ [x]) s1 t1 ∧ out lbI lbF s s1 ∧ out lrJ lrF t t1) ∨
    (∃ Lr : List Nat, L = Lr ++ [13] ∧ cLb s L ∧ rLb t Lr ∧ bys L ∧ s.I 1042 8 = 0 ∧ t.I 1079 116 = 0 ∧ fn_X0_takeInCommands (nI x) s = some (wI s 1042 9 0, 1) ∧ fn_X12_mailIn (nI x) t = fn_X12_commandLine (wI t 1079 123 0)) := by
  obtain ⟨fl, Lr, hL, hc, hr, i8, i9, r116, r123, hb⟩ := h
  have e10 : nI x = 10 ↔ x = 10 := nI_eq (b := 10) (by omega) (by decide)
  cases fl with
  | false =>
    left
    rw [if_neg (by decide), List.append_nil] at hL
    subst hL
    obtain ⟨s1, t1, a1, a2, a3, a4, a5⟩ := t_k50 hc hr hx i8 r116 hb
    refine ⟨s1, t1, ?_, ?_, a3, a4, a5⟩
    · unfold fn_X0_takeInCommands
      rw [i9, if_pos (show bI false = 0 by decide)]
      by_cases c : x = 10
      · rw [if_pos (e10.mpr c)]; exact a1
      · rw [if_neg (fun z => c (e10.mp z))]; exact a1
    · unfold fn_X12_mailIn fb_X12_mailIn_37
      rw [r123, if_pos (show bI false = 0 by decide), if_pos (show bI false = 0 by decide)]
      exact a2
  | true =>
    rw [if_pos rfl] at hL
    by_cases c : x = 10
    · right
      refine ⟨Lr, hL, hc, hr, hb, i8, r116, ?_, ?_⟩
      · unfold fn_X0_takeInCommands
        rw [if_pos (e10.mpr c), i9, if_neg (show ¬ bI true = 0 by decide)]
      · unfold fn_X12_mailIn
        rw [r123, if_neg (show ¬ bI true = 0 by decide), if_pos (e10.mpr c), if_pos (show (wI t 1079 123 0).I 1079 116 = 0 by rw [wI_o (by omega)]; exact r116)]
        exact bind_id _
    · left
      obtain ⟨t2, b1, b2, b3⟩ := r_cb (x := 13) hr r116
      rw [← hL] at b2
      obtain ⟨s1, t1, a1, a2, a3, a4, a5⟩ := t_k50 hc b2 hx i8 ((b3.2.1 _ _ (by unfold lrI; omega)).trans r116) hb
      refine ⟨s1, t1, ?_, ?_, a3, a4, out_t (out_lrJ b3) a5⟩
      · unfold fn_X0_takeInCommands
        rw [if_neg (fun z => c (e10.mp z))]; exact a1
      · unfold fn_X12_mailIn fb_X12_mailIn_37
        rw [r123, if_neg (show ¬ bI true = 0 by decide), if_neg (fun z => c (e10.mp z)), if_neg (show ¬ bI true = 0 by decide)]
        rw [show fn_X12_plain 13 t = some t2 from b1, Option.bind_some]
        exact a2
