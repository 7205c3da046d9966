/-- kinds of bytes -/
def iLet (x : Int32) : Bool := decide ((65 ≤ x ∧ x ≤ 90) ∨ (97 ≤ x ∧ x ≤ 122))
def iDig (x : Int32) : Bool := decide (48 ≤ x ∧ x ≤ 57)
theorem c_letter (x : Int32) (s : uS) : fn_X9_isLetter x s = some (iLet x) := by
  unfold fn_X9_isLetter fb_X9_isLetter_12 iLet
  by_cases a : x < 65
  · rw [if_pos a]
    by_cases b : x < 97
    · rw [if_pos b, decide_eq_false (fun e => e.elim (fun e => absurd a (Int32.not_lt.mpr e.1)) (fun e => absurd b (Int32.not_lt.mpr e.1)))]
    · rw [if_neg b]
      by_cases c : (122 : Int32) < x
      · rw [if_pos c, decide_eq_false (fun e => e.elim (fun e => absurd a (Int32.not_lt.mpr e.1)) (fun e => absurd c (Int32.not_lt.mpr e.2)))]
      · rw [if_neg c, decide_eq_true (Or.inr ⟨Int32.not_lt.mp b, Int32.not_lt.mp c⟩)]
  · rw [if_neg a]
    by_cases d : x ≤ 90
    · rw [if_pos d, decide_eq_true (Or.inl ⟨Int32.not_lt.mp a, d⟩)]
    · rw [if_neg d]
      by_cases b : x < 97
      · rw [if_pos b, decide_eq_false (fun e => e.elim (fun e => d e.2) (fun e => absurd b (Int32.not_lt.mpr e.1)))]
      · rw [if_neg b]
        by_cases c : (122 : Int32) < x
        · rw [if_pos c, decide_eq_false (fun e => e.elim (fun e => d e.2) (fun e => absurd c (Int32.not_lt.mpr e.2)))]
        · rw [if_neg c, decide_eq_true (Or.inr ⟨Int32.not_lt.mp b, Int32.not_lt.mp c⟩)]
theorem r_letter (x : Int32) (s : uS) : fn_X12_isLetter x s = some (iLet x) := by
  unfold fn_X12_isLetter fb_X12_isLetter_12 iLet
  by_cases a : x < 97
  · rw [if_pos a]
    by_cases b : x < 65
    · rw [if_pos b, decide_eq_false (fun e => e.elim (fun e => absurd b (Int32.not_lt.mpr e.1)) (fun e => absurd a (Int32.not_lt.mpr e.1)))]
    · rw [if_neg b]
      by_cases c : (90 : Int32) < x
      · rw [if_pos c, decide_eq_false (fun e => e.elim (fun e => absurd c (Int32.not_lt.mpr e.2)) (fun e => absurd a (Int32.not_lt.mpr e.1)))]
      · rw [if_neg c, decide_eq_true (Or.inl ⟨Int32.not_lt.mp b, Int32.not_lt.mp c⟩)]
  · rw [if_neg a]
    by_cases d : x ≤ 122
    · rw [if_pos d, decide_eq_true (Or.inr ⟨Int32.not_lt.mp a, d⟩)]
    · rw [if_neg d]
      by_cases b : x < 65
      · rw [if_pos b, decide_eq_false (fun e => e.elim (fun e => absurd b (Int32.not_lt.mpr e.1)) (fun e => d e.2))]
      · rw [if_neg b]
        by_cases c : (90 : Int32) < x
        · rw [if_pos c, decide_eq_false (fun e => e.elim (fun e => absurd c (Int32.not_lt.mpr e.2)) (fun e => d e.2))]
        · rw [if_neg c, decide_eq_true (Or.inl ⟨Int32.not_lt.mp b, Int32.not_lt.mp c⟩)]
theorem c_digit (x : Int32) (s : uS) : fn_X9_isDigit x s = some (iDig x) := by
  unfold fn_X9_isDigit iDig
  by_cases a : x < 48
  · rw [if_pos a, decide_eq_false (fun e => absurd a (Int32.not_lt.mpr e.1))]
  · rw [if_neg a]
    by_cases b : (57 : Int32) < x
    · rw [if_pos b, decide_eq_false (fun e => absurd b (Int32.not_lt.mpr e.2))]
    · rw [if_neg b, decide_eq_true ⟨Int32.not_lt.mp a, Int32.not_lt.mp b⟩]
theorem r_digit (x : Int32) (s : uS) : fn_X12_isDigit x s = some (iDig x) := by
  unfold fn_X12_isDigit iDig
  by_cases a : x < 48
  · rw [if_pos a, decide_eq_false (fun e => absurd a (Int32.not_lt.mpr e.1))]
  · rw [if_neg a]
    by_cases b : (57 : Int32) < x
    · rw [if_pos b, decide_eq_false (fun e => absurd b (Int32.not_lt.mpr e.2))]
    · rw [if_neg b, decide_eq_true ⟨Int32.not_lt.mp a, Int32.not_lt.mp b⟩]
/-- the reference's steps of a session that only set its mode -/
theorem r_go {s : uS} {u : Nat} (hu : u < 4) (x : Int32) : fn_X12_go (nI u) x s = some (wF s 1156 u x, true) := by
  unfold fn_X12_go
  rw [iput_c (N := 4) (by decide) (by decide) hu (by decide)]
  rfl
theorem nar_b (b : Bool) : unar 22 (bI b) = bI b := by cases b <;> rfl
theorem r_pass {s : uS} {u : Nat} (hu : u < 4) (x : Int32) : fn_X12_pass (nI u) x s = some (wF (wF s 1156 u 12) 1163 u (bI (decide (x = 13))), true) := by
  unfold fn_X12_pass
  rw [iput_c (N := 4) (by decide) (by decide) hu (by decide), Option.bind_some, unar_20]
  by_cases c : x = 13
  · rw [if_pos c, iput_c (N := 4) (by decide) (by decide) hu (by decide), decide_eq_true c]; rfl
  · rw [if_neg c, iput_c (N := 4) (by decide) (by decide) hu (by decide), decide_eq_false c]; rfl
/-- the class's -/
theorem c_go (k : Nat) (x : Int32) (s : uS) : fn_X8_go k x s = some (wI s k 5 x, 0) := rfl
theorem c_pass (k : Nat) (x : Int32) (s : uS) : fn_X8_passOver k x s = some (wI (wI s k 7 (bI (decide (x = 13)))) k 5 12, 0) := by
  unfold fn_X8_passOver fb_X8_passOver_12
  by_cases c : x = 13
  · rw [if_pos c, decide_eq_true c]; rfl
  · rw [if_neg c, decide_eq_false c]; rfl
