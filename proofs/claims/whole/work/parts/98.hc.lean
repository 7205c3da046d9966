/-! the text of a message as it comes in -/
def cTb (s : uS) (T : List Nat) : Prop := s.I 1042 3 = nI (min T.length 4001) ∧ ∀ j : Nat, j < T.length → j < 4000 → s.F 1051 j = sb (T.getD j 0)
def rTb (t : uS) (T : List Nat) : Prop := t.I 1079 13 = nI (min T.length 1000000) ∧ ∀ j : Nat, j < T.length → j < 4000 → t.F 1087 j = nI (T.getD j 0)
def tbI (k f : Nat) : Prop := k = 1042 ∧ f = 3
def tbF (k _f : Nat) : Prop := k = 1051
def mbI (k f : Nat) : Prop := k = 1079 ∧ f = 13
def mbR (k _f : Nat) : Prop := k = 1087
theorem c_addT {s : uS} {T : List Nat} {x : Nat} (h : cTb s T) (hx : x < 256) : ∃ s1 : uS, fn_X0_addToText (nI x) s = some s1 ∧ cTb s1 (T ++ [x]) ∧ out tbI tbF s s1 := by
  obtain ⟨h1, h2⟩ := h
  have el : (T ++ [x]).length = T.length + 1 := by rw [List.length_append]; rfl
  have fin : ∀ s2 : uS, s2.I 1042 3 = nI (min T.length 4001) → ∃ s3 : uS, fb_X0_addToText_21 s2 = some s3 ∧ s3.I 1042 3 = nI (min (T.length + 1) 4001) ∧ s3.F = s2.F ∧ out tbI tbF s2 s3 := by
    intro s2 hs
    refine ⟨wI s2 1042 3 (nI (min (T.length + 1) 4001)), ?_, wI_e _ _ _ _, wI_Fe _ _ _ _, out_I out_r ⟨rfl, rfl⟩⟩
    unfold fb_X0_addToText_21
    rw [hs, nI_1]
    by_cases c : 4001 < min T.length 4001 + 1
    · rw [if_pos (show (4001 : Int32) < nI (min T.length 4001 + 1) from nI_lt (a := 4001) c (by omega)), show min (T.length + 1) 4001 = 4001 by omega]
      rfl
    · rw [if_neg (show ¬ (4001 : Int32) < nI (min T.length 4001 + 1) from nI_nlt (a := 4001) (by omega) (by decide)), show min (T.length + 1) 4001 = min T.length 4001 + 1 by omega]
  unfold fn_X0_addToText
  rw [h1]
  by_cases c : 4000 ≤ T.length
  · rw [if_pos (show (4000 : Int32) ≤ nI (min T.length 4001) from nI_le (a := 4000) (by omega) (by omega))]
    obtain ⟨s3, a1, a2, a3, a4⟩ := fin s h1
    refine ⟨s3, a1, ⟨by rw [el]; exact a2, fun j hj hj2 => ?_⟩, a4⟩
    rw [a3, getDn_app (by omega)]
    exact h2 j (by omega) hj2
  · rw [if_neg (show ¬ (4000 : Int32) ≤ nI (min T.length 4001) from nI_ge (b := 4000) (by omega) (by omega)), show min T.length 4001 = T.length by omega, p_1051 (by omega), Option.bind_some]
    obtain ⟨s3, a1, a2, a3, a4⟩ := fin (wF s 1051 T.length (unar 21 (nI x).toInt8.toInt32)) h1
    refine ⟨s3, a1, ⟨by rw [el]; exact a2, fun j hj hj2 => ?_⟩, out_t (out_F out_r rfl) a4⟩
    rw [a3]
    by_cases d : j = T.length
    · rw [d, wF_e, getDn_end]
      show ((nI x).toInt8.toInt32).toInt8.toInt32 = sb x
      exact sb_i8 hx
    · rw [wF_o (by omega), getDn_app (by omega)]
      exact h2 j (by omega) hj2
theorem r_mbyte {t : uS} {T : List Nat} {x : Nat} (h : rTb t T) : ∃ t1 : uS, fn_X12_mailByte (nI x) t = some t1 ∧ rTb t1 (T ++ [x]) ∧ out mbI mbR t t1 := by
  obtain ⟨h1, h2⟩ := h
  have el : (T ++ [x]).length = T.length + 1 := by rw [List.length_append]; rfl
  have fin : ∀ s2 : uS, s2.I 1079 13 = nI (min T.length 1000000) → ∃ s3 : uS, fb_X12_mailByte_20 s2 = some s3 ∧ s3.I 1079 13 = nI (min (T.length + 1) 1000000) ∧ s3.F = s2.F ∧ out mbI mbR s2 s3 := by
    intro s2 hs
    refine ⟨wI s2 1079 13 (nI (min (T.length + 1) 1000000)), ?_, wI_e _ _ _ _, wI_Fe _ _ _ _, out_I out_r ⟨rfl, rfl⟩⟩
    unfold fb_X12_mailByte_20
    rw [hs, nI_1]
    by_cases c : 1000000 ≤ T.length
    · rw [if_pos (show (1000000 : Int32) ≤ nI (min T.length 1000000) from nI_le (a := 1000000) (by omega) (by omega)), show min (T.length + 1) 1000000 = min T.length 1000000 by omega]
    · rw [if_neg (show ¬ (1000000 : Int32) ≤ nI (min T.length 1000000) from nI_ge (b := 1000000) (by omega) (by omega)), show min (T.length + 1) 1000000 = min T.length 1000000 + 1 by omega]
  unfold fn_X12_mailByte
  rw [h1]
  by_cases c : 4000 ≤ T.length
  · rw [if_pos (show (4000 : Int32) ≤ nI (min T.length 1000000) from nI_le (a := 4000) (by omega) (by omega))]
    obtain ⟨s3, a1, a2, a3, a4⟩ := fin t h1
    refine ⟨s3, a1, ⟨by rw [el]; exact a2, fun j hj hj2 => ?_⟩, a4⟩
    rw [a3, getDn_app (by omega)]
    exact h2 j (by omega) hj2
  · rw [if_neg (show ¬ (4000 : Int32) ≤ nI (min T.length 1000000) from nI_ge (b := 4000) (by omega) (by omega)), show min T.length 1000000 = T.length by omega, p_1087 (by omega), Option.bind_some]
    obtain ⟨s3, a1, a2, a3, a4⟩ := fin (wF t 1087 T.length (nI x)) h1
    refine ⟨s3, a1, ⟨by rw [el]; exact a2, fun j hj hj2 => ?_⟩, out_t (out_F out_r rfl) a4⟩
    rw [a3]
    by_cases d : j = T.length
    · rw [d, wF_e, getDn_end]
    · rw [wF_o (by omega), getDn_app (by omega)]
      exact h2 j (by omega) hj2
