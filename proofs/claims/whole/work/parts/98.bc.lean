/-! answers: bytes, numbers, quoted names -/
theorem c_putO {s : uS} {u : Nat} {xs : List Int32} (hu : u < 5) (h : cQ s u xs) (x : Int32) : ∃ s1 : uS, fn_X5_put (qk u) x s = some s1 ∧ cQ s1 u (q_add xs x) ∧ out (qC u) (qC u) s s1 := by
  obtain ⟨s1, a1, a2⟩ := c_put hu h x
  refine ⟨s1, a1, a2, ?_⟩
  unfold fn_X5_put at a1
  split at a1
  · cases a1; exact out_r
  · obtain ⟨s2, e1, e2⟩ := uu_ob a1
    cases e2
    unfold iput at e1
    split at e1
    · cases e1
      exact out_I (out_F out_r (Or.inr rfl)) (Or.inl rfl)
    · cases e1
theorem r_sayO {t : uS} {u : Nat} {xs : List Int32} (hu : u < 5) (h : rQ t u xs) (y : Int32) : ∃ t1 : uS, fn_X12_say (nI u) y t = some t1 ∧ rQ t1 u (q_add xs y) ∧ out rNo (qR u) t t1 := by
  obtain ⟨t1, b1, b2, -⟩ := r_say hu h y
  refine ⟨t1, b1, b2, ?_⟩
  by_cases c : xs.length < 10000
  · rw [r_sayx hu c h.2.1] at b1
    cases b1
    exact out_F (out_F out_r (Or.inl ⟨rfl, rfl⟩)) (Or.inr rfl)
  · have hl := h.1
    unfold fn_X12_say at b1
    rw [g_1086 hu, Option.bind_some, h.2.1, if_pos (by rw [show xs.length = 10000 by omega]; rfl)] at b1
    cases b1
    exact out_r
theorem q_add_sb {xs : List Int32} {b : Nat} (h : b < 256) : q_add xs (sb b) = q_add xs (nI b) := by
  unfold q_add
  rw [sb_i8e h]
theorem q_tell_c (xs : List Int32) (b : Nat) (w : List Nat) : q_tell xs (b :: w) = q_tell (q_add xs (nI b)) w := rfl
theorem q_tell_n (xs : List Int32) : q_tell xs [] = xs := rfl
theorem i8_tell : ∀ (w : List Nat) {xs : List Int32}, i8L xs → i8L (q_tell xs w) := by
  intro w
  induction w with
  | nil => intro xs h; exact h
  | cons b w ih => intro xs h; rw [q_tell_c]; exact ih (i8_add h)
theorem rdC.fr {s s1 : uS} {k fr : Nat} {x : List Nat} (h : rdC s k fr x) (hc : s1.c = s.c) (hn : s1.n = s.n) (hF : s1.F k = s.F k) : rdC s1 k fr x := by
  refine ⟨h.1, h.2.1, fun j hj => ?_⟩
  have := h.2.2 j hj
  unfold iget uIs uOk uIn uCl at *
  rw [hc, hn, hF]
  exact this
/-- a range of bytes -/
theorem c_rangeL {u k : Nat} {x : List Nat} (hu : u < 5) (hk : k ≠ qk u ∧ k ≠ qk u + 1) : ∀ (n i : Nat) (s : uS) (xs : List Int32), x.length < i + n → i ≤ x.length → cQ s u xs → rdC s k 0 x → ∃ s1 : uS, fn_X5_range_3 n (qk u) k (nI x.length) (nI i) s = some s1 ∧ cQ s1 u (q_tell xs (x.drop i)) ∧ out (qC u) (qC u) s s1 := by
  intro n
  induction n with
  | zero => intro i s xs a b; omega
  | succ n ih =>
    intro i s xs a b h hr
    have h1 := hr.1
    unfold fn_X5_range_3 fb_X5_range_3
    by_cases c : x.length ≤ i
    · rw [if_pos (nI_le c (by omega)), List.drop_eq_nil_of_le c]
      exact ⟨s, rfl, h, out_r⟩
    · have hg := hr.2.2 i (by omega)
      rw [Nat.zero_add] at hg
      obtain ⟨s1, a1, a2, a3⟩ := c_putO hu h (sb (x.getD i 0))
      rw [q_add_sb (hr.2.1 i)] at a2
      obtain ⟨s2, b1, b2, b3⟩ := ih (i + 1) s1 _ (by omega) (by omega) a2 (hr.fr a3.1.1 a3.1.2.2.2.2.1 (funext fun f => a3.2.2 k f (by unfold qC; omega)))
      refine ⟨s2, ?_, by rw [dropN (by omega), q_tell_c]; exact b2, out_t a3 b3⟩
      rw [if_neg (nI_ge (by omega) (by omega)), hg, Option.bind_some, a1, Option.bind_some, nI_1]
      exact b1
/-- numbers: from the highest place j down -/
def dl (n : Nat) : Nat → List Nat
  | 0 => [48 + n % 10]
  | j + 1 => (48 + n / 10 ^ (j + 1) % 10) :: dl n j
def cd (n : Nat) : Nat → List Nat
  | 0 => [48 + n % 10]
  | j + 1 => if 10 ^ (j + 1) ≤ n then dl n (j + 1) else cd n j
def hp (n : Nat) : Nat := if n < 10 then 0 else if n < 100 then 1 else if n < 1000 then 2 else if n < 10000 then 3 else 4
theorem cd_hp {n : Nat} (h : n < 100000) : cd n 4 = dl n (hp n) := by
  unfold hp cd cd cd cd cd
  by_cases c1 : n < 10
  · simp only [if_pos c1, show ¬ 10 ^ (3 + 1) ≤ n by omega, show ¬ 10 ^ (2 + 1) ≤ n by omega, show ¬ 10 ^ (1 + 1) ≤ n by omega, show ¬ 10 ^ (0 + 1) ≤ n by omega, if_false]; rfl
  · rw [if_neg c1]
    by_cases c2 : n < 100
    · simp only [if_pos c2, show ¬ 10 ^ (3 + 1) ≤ n by omega, show ¬ 10 ^ (2 + 1) ≤ n by omega, show ¬ 10 ^ (1 + 1) ≤ n by omega, show 10 ^ (0 + 1) ≤ n by omega, if_false, if_true]
    · rw [if_neg c2]
      by_cases c3 : n < 1000
      · simp only [if_pos c3, show ¬ 10 ^ (3 + 1) ≤ n by omega, show ¬ 10 ^ (2 + 1) ≤ n by omega, show 10 ^ (1 + 1) ≤ n by omega, if_false, if_true]
      · rw [if_neg c3]
        by_cases c4 : n < 10000
        · simp only [if_pos c4, show ¬ 10 ^ (3 + 1) ≤ n by omega, show 10 ^ (2 + 1) ≤ n by omega, if_false, if_true]
        · simp only [if_neg c4, show 10 ^ (3 + 1) ≤ n by omega, if_true]
theorem p10_lt {j : Nat} (h : j ≤ 4) : 0 < 10 ^ j ∧ 10 ^ j ≤ 10000 := ⟨Nat.pow_pos (by decide), Nat.pow_le_pow_right (n := 10) (by decide) h⟩
theorem c_dig1 {n u j : Nat} {s : uS} {xs : List Int32} (hu : u < 5) (hn : n < 100000) (hj : j ≤ 4) (h : cQ s u xs) (K : Nat → Int32 → Int32 → uS → Option uS) : ∃ s1 : uS, fb_X5_digits_18 K (qk u) (nI n) (nI (10 ^ j)) s = K (qk u) (nI n) (nI (10 ^ j / 10)) s1 ∧ cQ s1 u (q_add xs (nI (48 + n / 10 ^ j % 10))) ∧ out (qC u) (qC u) s s1 := by
  obtain ⟨p1, p2⟩ := p10_lt hj
  have hd : n / 10 ^ j < 2 ^ 31 := Nat.lt_of_le_of_lt (Nat.div_le_self _ _) (by omega)
  obtain ⟨s1, a1, a2, a3⟩ := c_putO hu h (nI (48 + n / 10 ^ j % 10))
  refine ⟨s1, ?_, a2, a3⟩
  unfold fb_X5_digits_18
  rw [if_pos (nI_ne0 p1 (by omega)), pk_div (by omega) p1 (by omega), show nI (n / 10 ^ j) - nI (n / 10 ^ j) / 10 * 10 = nI (n / 10 ^ j % 10) from pk_rem (d := 10) hd (by decide) (by decide), show (48 : Int32) + nI (n / 10 ^ j % 10) = nI (48 + n / 10 ^ j % 10) from nI_add 48 _, a1, Option.bind_some, show nI (10 ^ j) / 10 = nI (10 ^ j / 10) from pk_div (d := 10) (by omega) (by decide) (by decide)]
theorem c_dig0 {n u m : Nat} {s : uS} : fn_X5_digits_4 (m + 1) (qk u) (nI n) (nI 0) s = some s := by
  unfold fn_X5_digits_4 fb_X5_digits_4
  exact if_pos (by decide)
theorem c_digD {n u : Nat} (hu : u < 5) (hn : n < 100000) : ∀ (j m : Nat) (s : uS) (xs : List Int32), j ≤ 4 → (10 ^ j ≤ n ∨ j = 0) → cQ s u xs → ∃ s1 : uS, fn_X5_digits_4 (m + 2 + j) (qk u) (nI n) (nI (10 ^ j)) s = some s1 ∧ cQ s1 u (q_tell xs (dl n j)) ∧ out (qC u) (qC u) s s1 := by
  intro j
  induction j with
  | zero =>
    intro m s xs hj hc h
    obtain ⟨s1, a1, a2, a3⟩ := c_dig1 (j := 0) hu hn (by omega) h (fn_X5_digits_4 (m + 1))
    refine ⟨s1, ?_, ?_, a3⟩
    · show fb_X5_digits_4 (fn_X5_digits_4 (m + 1)) _ _ _ _ = _
      unfold fb_X5_digits_4
      rw [if_neg (show ¬ nI (10 ^ 0) ≤ 0 by decide)]
      by_cases c : nI (10 ^ 0) ≤ nI n
      · rw [if_pos c, a1]; exact c_dig0
      · rw [if_neg c, if_pos (show nI (10 ^ 0) = 1 from rfl), a1]; exact c_dig0
    · rw [Nat.pow_zero, Nat.div_one] at a2
      exact a2
  | succ j ih =>
    intro m s xs hj hc h
    obtain ⟨p1, p2⟩ := p10_lt hj
    have hle : 10 ^ (j + 1) ≤ n := hc.elim id (fun e => by omega)
    obtain ⟨s1, a1, a2, a3⟩ := c_dig1 (j := j + 1) hu hn hj h (fn_X5_digits_4 (m + 2 + j))
    have hpj : 10 ^ (j + 1) / 10 = 10 ^ j := by rw [Nat.pow_succ, Nat.mul_div_cancel _ (by decide)]
    have hpl : 10 ^ j ≤ 10 ^ (j + 1) := Nat.pow_le_pow_right (by decide) (by omega)
    obtain ⟨s2, b1, b2, b3⟩ := ih m s1 _ (by omega) (Or.inl (by omega)) a2
    refine ⟨s2, ?_, b2, out_t a3 b3⟩
    show fb_X5_digits_4 (fn_X5_digits_4 (m + 2 + j)) _ _ _ _ = _
    unfold fb_X5_digits_4
    rw [if_neg (nI_nle p1 (by omega)), if_pos (nI_le hle (by omega)), a1, hpj]
    exact b1
theorem c_digC {n u : Nat} (hu : u < 5) (hn : n < 100000) : ∀ (j m : Nat) (s : uS) (xs : List Int32), j ≤ 4 → cQ s u xs → ∃ s1 : uS, fn_X5_digits_4 (m + 2 + j) (qk u) (nI n) (nI (10 ^ j)) s = some s1 ∧ cQ s1 u (q_tell xs (cd n j)) ∧ out (qC u) (qC u) s s1 := by
  intro j
  induction j with
  | zero => intro m s xs hj h; exact c_digD hu hn 0 m s xs hj (Or.inr rfl) h
  | succ j ih =>
    intro m s xs hj h
    unfold cd
    by_cases c : 10 ^ (j + 1) ≤ n
    · rw [if_pos c]; exact c_digD hu hn (j + 1) m s xs hj (Or.inl c) h
    · rw [if_neg c]
      obtain ⟨p1, p2⟩ := p10_lt hj
      obtain ⟨q1, q2⟩ := p10_lt (show j ≤ 4 by omega)
      have hpj : 10 ^ (j + 1) / 10 = 10 ^ j := by rw [Nat.pow_succ, Nat.mul_div_cancel _ (by decide)]
      obtain ⟨s1, a1, a2⟩ := ih m s xs (by omega) h
      refine ⟨s1, ?_, a2⟩
      show fb_X5_digits_4 (fn_X5_digits_4 (m + 2 + j)) _ _ _ _ = _
      unfold fb_X5_digits_4
      rw [if_neg (nI_nle p1 (by omega)), if_neg (nI_ge (by omega) (by omega)), if_neg (show ¬ nI (10 ^ (j + 1)) = 1 by
        show ¬ nI (10 ^ (j + 1)) = nI 1
        rw [nI_eq (by omega) (by omega), Nat.pow_succ]; omega), show nI (10 ^ (j + 1)) / 10 = nI (10 ^ (j + 1) / 10) from pk_div (d := 10) (by omega) (by decide) (by decide), hpj]
      exact a1
theorem c_digits {n u : Nat} {s : uS} {xs : List Int32} (hu : u < 5) (hn : n < 100000) (h : cQ s u xs) : ∃ s1 : uS, fn_X5_digits (qk u) (nI n) s = some s1 ∧ cQ s1 u (q_tell xs (dl n (hp n))) ∧ out (qC u) (qC u) s s1 := by
  rw [← cd_hp hn]
  exact c_digC hu hn 4 999994 s xs (by omega) h
