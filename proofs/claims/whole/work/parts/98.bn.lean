/-! the word of a session grows by one at most -/
theorem iput_I {t k : Nat} {i v : Int32} {s s1 : uS} (h : iput t s k i v = some s1) : s1.I = s.I := by
  unfold iput at h
  split at h
  · cases h; rfl
  · cases h
theorem ws_pass {K : Nat} {x : Int32} {s : uS} {r : uS × Int32} (h : fn_X8_passOver K x s = some r) : r.1.I K 4 = s.I K 4 := by
  rw [c_pass] at h
  cases h
  show (wI (wI s K 7 _) K 5 12).I K 4 = _
  rw [wI_o (by omega), wI_o (by omega)]
theorem ws_go {K : Nat} {x : Int32} {s : uS} {r : uS × Int32} (h : fn_X8_go K x s = some r) : r.1.I K 4 = s.I K 4 := by
  rw [c_go] at h
  cases h
  show (wI s K 5 x).I K 4 = _
  rw [wI_o (by omega)]
theorem ws_end {K : Nat} {x : Int32} {s : uS} {r : uS × Int32} (h : fn_X8_partEnd K x s = some r) : r.1.I K 4 = s.I K 4 := by
  unfold fn_X8_partEnd fb_X8_partEnd_38 at h
  simp only [bind_id] at h
  split at h
  · exact ws_go h
  · split at h
    · split at h
      · exact ws_pass h
      · exact ws_go h
    · exact ws_pass h
theorem ws_put {k : Nat} {x : Int32} {s s1 : uS} (h : fn_X9_put k x s = some s1) {K : Nat} (hK : K ≠ k) : s1.I K = s.I K := by
  unfold fn_X9_put at h
  obtain ⟨a, -, h⟩ := uu_ob h
  split at h
  · cases h; rfl
  · obtain ⟨s2, h2, h⟩ := uu_ob h
    cases h
    rw [wI_r hK, iput_I h2]
theorem ws_txc {k : Nat} {s s1 : uS} (h : fn_X9_close k s = some s1) {K : Nat} (hK : K ≠ k) : s1.I K = s.I K := by
  unfold fn_X9_close at h
  obtain ⟨a, -, h⟩ := uu_ob h
  split at h
  · cases h; rw [wI_r hK]
  · obtain ⟨s2, h2, h⟩ := uu_ob h
    obtain ⟨s3, h3, h⟩ := uu_ob h
    cases h
    rw [wI_r hK, wI_r hK, iput_I h3, iput_I h2]
theorem ws_close {K : Nat} {x : Int32} {s : uS} {r : uS × Int32} (h : fn_X8_closePart K x s = some r) : r.1.I K 4 = s.I K 4 := by
  unfold fn_X8_closePart fb_X8_closePart_24 at h
  simp only [bind_id] at h
  split at h
  · obtain ⟨s2, h2, h⟩ := uu_ob h
    rw [ws_go h, ws_txc h2 (by omega)]
  · obtain ⟨s1, h1, h⟩ := uu_ob h
    obtain ⟨s2, h2, h⟩ := uu_ob h
    rw [ws_go h, ws_txc h2 (by omega), iput_I h1]
theorem ws_dig {K : Nat} {x : Int32} {s : uS} {r : uS × Bool} (h : fn_X8_addDigit K x s = some r) : r.1.I K 4 = s.I K 4 := by
  unfold fn_X8_addDigit at h
  split at h
  · cases h; rfl
  · cases h
    show (wI (wI s K 1 _) K 6 _).I K 4 = _
    rw [wI_o (by omega), wI_o (by omega)]
theorem ws_num {K : Nat} {x : Int32} {s : uS} {r : uS × Int32} (h : fn_X8_inNumber K x s = some r) : r.1.I K 4 = s.I K 4 := by
  unfold fn_X8_inNumber at h
  simp only [bind_id] at h
  obtain ⟨a, -, h⟩ := uu_ob h
  split at h
  · obtain ⟨q, h1, h⟩ := uu_ob h
    split at h
    · rw [ws_go h, ws_dig h1]
    · rw [ws_pass h, ws_dig h1]
  · obtain ⟨q, h1, h⟩ := uu_ob h
    rw [ws_end h, ws_close h1]
theorem un_id {α β : Type} {x : Option (α × β)} {q : α × β} (h : (x.bind fun r => some (r.1, r.2)) = some q) : x = some q := by rw [bind_id] at h; exact h
theorem ws_120 {K : Nat} {x : Int32} {s : uS} {r : uS × Int32} (h : fb_X8_aheadOfLiteral_120 K x s = some r) : r.1.I K 4 = s.I K 4 := by
  unfold fb_X8_aheadOfLiteral_120 at h
  exact ws_pass (un_id h)
theorem ws_105 {K : Nat} {x : Int32} {s : uS} {r : uS × Int32} (h : fb_X8_aheadOfLiteral_105 K x s = some r) : r.1.I K 4 = s.I K 4 := by
  unfold fb_X8_aheadOfLiteral_105 at h
  split at h
  · split at h
    · split at h
      · split at h
        · exact ws_close (un_id h)
        · exact ws_go (un_id h)
      · cases h; rfl
    · exact ws_120 h
  · exact ws_120 h
theorem ws_83 {K : Nat} {x : Int32} {s : uS} {r : uS × Int32} (h : fb_X8_aheadOfLiteral_83 K x s = some r) : r.1.I K 4 = s.I K 4 := by
  unfold fb_X8_aheadOfLiteral_83 at h
  split at h
  · split at h
    · exact ws_go (un_id h)
    · exact ws_105 h
  · exact ws_105 h
theorem ws_61 {K : Nat} {x : Int32} {s : uS} {r : uS × Int32} (h : fb_X8_aheadOfLiteral_61 K x s = some r) : r.1.I K 4 = s.I K 4 := by
  unfold fb_X8_aheadOfLiteral_61 at h
  split at h
  · split at h
    · exact ws_go (un_id h)
    · exact ws_83 h
  · exact ws_83 h
theorem ws_33 {K : Nat} {x : Int32} {s : uS} {r : uS × Int32} (h : fb_X8_aheadOfLiteral_33 K x s = some r) : r.1.I K 4 = s.I K 4 := by
  unfold fb_X8_aheadOfLiteral_33 at h
  split at h
  · split at h
    · split at h
      · exact ws_61 h
      · exact ws_go (un_id h)
    · exact ws_61 h
  · exact ws_61 h
theorem ws_lit {K : Nat} {x : Int32} {s : uS} {r : uS × Int32} (h : fn_X8_aheadOfLiteral K x s = some r) : r.1.I K 4 = s.I K 4 := by
  unfold fn_X8_aheadOfLiteral at h
  split at h
  · obtain ⟨a, -, h⟩ := uu_ob h
    split at h
    · obtain ⟨q, h1, h⟩ := uu_ob h
      split at h
      · cases h; exact ws_dig h1
      · rw [ws_pass (un_id h), ws_dig h1]
    · exact ws_33 h
  · exact ws_33 h
theorem ws_58 {K : Nat} {x : Int32} {s : uS} {r : uS × Int32} (h : fb_X8_inQuotes_58 K x s = some r) : r.1.I K 4 = s.I K 4 := by
  unfold fb_X8_inQuotes_58 at h
  split at h
  · exact ws_pass (un_id h)
  · obtain ⟨s2, h2, h⟩ := uu_ob h
    rw [ws_go (un_id h), ws_put h2 (by omega)]
theorem ws_38 {K : Nat} {x : Int32} {s : uS} {r : uS × Int32} (h : fb_X8_inQuotes_38 K x s = some r) : r.1.I K 4 = s.I K 4 := by
  unfold fb_X8_inQuotes_38 at h
  split at h
  · split at h
    · exact ws_go (un_id h)
    · exact ws_58 h
  · exact ws_58 h
theorem ws_quo {K : Nat} {x : Int32} {s : uS} {r : uS × Int32} (h : fn_X8_inQuotes K x s = some r) : r.1.I K 4 = s.I K 4 := by
  unfold fn_X8_inQuotes fb_X8_inQuotes_12 at h
  split at h
  · exact ws_pass (un_id h)
  · split at h
    · exact ws_pass (un_id h)
    · split at h
      · split at h
        · exact ws_close (un_id h)
        · exact ws_38 h
      · exact ws_38 h
theorem ws_start {K : Nat} {x : Int32} {s : uS} {r : uS × Int32} (h : fn_X8_partStart K x s = some r) : r.1.I K 4 = s.I K 4 := by
  unfold fn_X8_partStart at h
  have e : (wI (wI s K 1 0) K 6 0).I K 4 = s.I K 4 := by rw [wI_o (by omega), wI_o (by omega)]
  split at h
  · rw [ws_go (un_id h), e]
  · split at h
    · rw [ws_go (un_id h), e]
    · obtain ⟨a, -, h⟩ := uu_ob h
      split at h
      · rw [ws_num (un_id h), e]
      · rw [ws_pass (un_id h), e]
theorem ws_inl {K : Nat} {x : Int32} {s : uS} {r : uS × Int32} (h : fn_X8_inLiteral K x s = some r) : r.1.I K 4 = s.I K 4 := by
  unfold fn_X8_inLiteral at h
  obtain ⟨s2, h2, h⟩ := uu_ob h
  split at h
  · cases h; exact congrFun (ws_put h2 (by omega)) 4
  · rw [ws_close (un_id h), ws_put h2 (by omega)]
theorem ws_over {K : Nat} {x : Int32} {s : uS} {r : uS × Int32} (h : fn_X8_passingOver K x s = some r) : r.1.I K 4 = s.I K 4 := by
  unfold fn_X8_passingOver fb_X8_passingOver_15 at h
  split at h
  · split at h
    · split at h
      · cases h; exact wI_o (by omega)
      · cases h; exact wI_o (by omega)
    · cases h; rfl
  · split at h
    · cases h; exact wI_o (by omega)
    · cases h; exact wI_o (by omega)
theorem ws_word {K : Nat} {x : Int32} {s : uS} {r : uS × Int32} (h : fn_X8_inWord K x s = some r) : r.1.I K 4 = s.I K 4 ∨ (r.1.I K 4 = s.I K 4 + 1 ∧ ¬ (13 : Int32) ≤ s.I K 4) := by
  unfold fn_X8_inWord at h
  obtain ⟨a, -, h⟩ := uu_ob h
  split at h
  · split at h
    · cases h; exact Or.inl rfl
    · rename_i e
      obtain ⟨s2, h2, h⟩ := uu_ob h
      cases h
      refine Or.inr ⟨?_, e⟩
      show (wI s2 K 4 _).I K 4 = _
      rw [wI_e, iput_I h2]
  · split at h
    · exact Or.inl (ws_pass (un_id h))
    · exact Or.inl (ws_end (un_id h))
theorem ws_take {K : Nat} {x : Int32} {s : uS} {r : uS × Int32} (h : fn_X8_take K x s = some r) : r.1.I K 4 = s.I K 4 ∨ (r.1.I K 4 = s.I K 4 + 1 ∧ ¬ (13 : Int32) ≤ s.I K 4) := by
  unfold fn_X8_take at h
  by_cases c : s.I K 5 = 0
  · rw [if_pos c] at h; exact ws_word (un_id h)
  rw [if_neg c] at h
  left
  by_cases c : s.I K 5 = 1
  · rw [if_pos c] at h; exact ws_start (un_id h)
  rw [if_neg c] at h
  by_cases c : s.I K 5 = 2
  · rw [if_pos c] at h; exact ws_quo (un_id h)
  rw [if_neg c] at h
  by_cases c : s.I K 5 = 3
  · rw [if_pos c] at h; exact ws_quo (un_id h)
  rw [if_neg c] at h
  by_cases c : s.I K 5 = 4
  · rw [if_pos c] at h; exact ws_num (un_id h)
  rw [if_neg c] at h
  by_cases c : s.I K 5 = 5
  · rw [if_pos c] at h; exact ws_lit (un_id h)
  rw [if_neg c] at h
  by_cases c : s.I K 5 = 6
  · rw [if_pos c] at h; exact ws_lit (un_id h)
  rw [if_neg c] at h
  by_cases c : s.I K 5 = 7
  · rw [if_pos c] at h; exact ws_lit (un_id h)
  rw [if_neg c] at h
  by_cases c : s.I K 5 = 8
  · rw [if_pos c] at h; exact ws_lit (un_id h)
  rw [if_neg c] at h
  by_cases c : s.I K 5 = 9
  · rw [if_pos c] at h; exact ws_inl (un_id h)
  rw [if_neg c] at h
  by_cases c : s.I K 5 = 10
  · rw [if_pos c] at h; exact ws_end (un_id h)
  rw [if_neg c] at h
  by_cases c : s.I K 5 = 11
  · rw [if_pos c] at h
    by_cases d : x = 10
    · rw [if_pos d] at h; cases h; rfl
    · rw [if_neg d] at h; exact ws_pass (un_id h)
  rw [if_neg c] at h
  exact ws_over (un_id h)
