/-! the lexers: numbers -/
def l6 (n : Nat) : Int64 := Int64.ofNat n
theorem l6_toInt {n : Nat} (h : n < 2 ^ 63) : (l6 n).toInt = n := Int64.toInt_ofNat_of_lt h
theorem l6_lt {a b : Nat} (ha : a < 2 ^ 63) (hb : b < 2 ^ 63) : l6 a < l6 b ↔ a < b := by
  rw [Int64.lt_iff_toInt_lt, l6_toInt ha, l6_toInt hb]; omega
theorem l6_eq {a b : Nat} (ha : a < 2 ^ 63) (hb : b < 2 ^ 63) : l6 a = l6 b ↔ a = b := by
  rw [← Int64.toInt_inj, l6_toInt ha, l6_toInt hb]; omega
theorem l6_add (a b : Nat) : l6 a + l6 b = l6 (a + b) := (Int64.ofNat_add a b).symm
theorem l6_mul (a b : Nat) : l6 a * l6 b = l6 (a * b) := (Int64.ofNat_mul a b).symm
theorem l6_sub {a b : Nat} (h : b ≤ a) : l6 a - l6 b = l6 (a - b) := by
  have : l6 a = l6 (a - b) + l6 b := by rw [l6_add, Nat.sub_add_cancel h]
  rw [this, Int64.add_sub_cancel]
theorem nI_6 {b : Nat} (h : b < 256) : (nI b).toInt64 = l6 b := by
  have : ∀ b, b < 256 → (nI b).toInt64 = l6 b := by decide +kernel
  exact this b h
theorem l6_i {n : Nat} (h : n < 2 ^ 31) : (l6 n).toInt32 = nI n := by
  apply Int32.toBitVec_inj.mp
  rw [Int64.toBitVec_toInt32]
  show BitVec.signExtend 32 (BitVec.ofNat 64 n) = BitVec.ofNat 32 n
  apply BitVec.eq_of_toNat_eq
  rw [BitVec.signExtend_eq_setWidth_of_le _ (by decide), BitVec.toNat_setWidth, BitVec.toNat_ofNat, BitVec.toNat_ofNat]
  omega
theorem l6_cmp {a b : Nat} (ha : a < 2 ^ 63) (hb : b < 2 ^ 63) : lg_cmp (l6 a) (l6 b) = if b < a then 1 else if a = b then 0 else -1 := by
  unfold lg_cmp
  by_cases c : b < a
  · rw [if_pos c, if_pos (show l6 a > l6 b from (l6_lt hb ha).mpr c)]
  · rw [if_neg c, if_neg (show ¬ l6 a > l6 b from fun z => c ((l6_lt hb ha).mp z))]
    by_cases d : a = b
    · rw [if_pos d, if_pos (by rw [d])]
    · rw [if_neg d, if_neg (fun z => d ((l6_eq ha hb).mp z))]
theorem l6_shl {a : Nat} (ha : a ≤ 2 ^ 32) {sh : Nat} (hs : sh = 10 ∨ sh = 20 ∨ sh = 30) : l6 a <<< ((nI sh).toInt64 &&& 63) = l6 (a * 2 ^ sh) := by
  apply Int64.toBitVec_inj.mp
  have e : (l6 a <<< ((nI sh).toInt64 &&& 63)).toBitVec = BitVec.ofNat 64 a <<< sh := by
    rw [Int64.toBitVec_shiftLeft]
    rcases hs with e | e | e <;> subst e <;> rfl
  rw [e]
  show _ = BitVec.ofNat 64 (a * 2 ^ sh)
  apply BitVec.eq_of_toNat_eq
  rw [BitVec.toNat_shiftLeft, BitVec.toNat_ofNat, BitVec.toNat_ofNat, Nat.shiftLeft_eq, Nat.mod_eq_of_lt (show a < 2 ^ 64 by omega)]
/-- digits: their end, and what they are worth -/
def den (x : List Nat) : Nat → Nat → Nat → Nat × Nat
  | 0, p, v => (p, v)
  | n + 1, p, v => if p < x.length ∧ isDb (x.getD p 0) = true then den x n (p + 1) (10 * v + x.getD p 0 - 48) else (p, v)
theorem isDb_t {b : Nat} (h : isDb b = true) : 48 ≤ b ∧ b ≤ 57 := by
  unfold isDb at h
  rwa [decide_eq_true_eq] at h
theorem den_le {x : List Nat} : ∀ {n p v : Nat}, p ≤ x.length → p ≤ (den x n p v).1 ∧ (den x n p v).1 ≤ x.length := by
  intro n
  induction n with
  | zero => intro p v h; exact ⟨Nat.le_refl _, h⟩
  | succ n ih =>
    intro p v h
    unfold den
    split
    · have := ih (p := p + 1) (v := 10 * v + x.getD p 0 - 48) (by omega); omega
    · exact ⟨Nat.le_refl _, h⟩
theorem den_mono {x : List Nat} : ∀ (n p v : Nat), x.length ≤ p + n → den x (n + 1) p v = den x n p v := by
  intro n
  induction n with
  | zero => intro p v h; unfold den; rw [if_neg (by omega)]
  | succ n ih =>
    intro p v h
    show (if p < x.length ∧ isDb (x.getD p 0) = true then den x (n + 1) (p + 1) _ else (p, v)) = (if p < x.length ∧ isDb (x.getD p 0) = true then den x n (p + 1) _ else (p, v))
    rw [ih (p + 1) _ (by omega)]
theorem den_add {x : List Nat} {p v : Nat} : ∀ d : Nat, den x (x.length + d) p v = den x x.length p v := by
  intro d
  induction d with
  | zero => rfl
  | succ d ih => rw [← ih, show x.length + (d + 1) = (x.length + d) + 1 by omega]; exact den_mono _ _ _ (by omega)
def de (x : List Nat) (p : Nat) : Nat × Nat := den x x.length p 0
/-- the class counts no higher than 2^31 -/
theorem c_numL {k fr : Nat} {x : List Nat} : ∀ (n p v : Nat) (s : uS), lxC s k fr x p → x.length < p + n → fn_X2_readNumber_2 n (l6 (min v 2147483648)) s = fb_X2_readNumber_68 (l6 (min (den x n p v).2 2147483648)) (wI s 7 8 (nI (fr + (den x n p v).1))) := by
  intro n
  induction n with
  | zero => intro p v s h a; have := h.2.2.2.2.2.2.2; omega
  | succ n ih =>
    intro p v s h a
    have h1 := h.2.2.1
    have h2 := h.2.2.2.1
    have hp := h.2.2.2.2.2.2.2
    have h7 := h.2.2.2.2.2.2.1
    have h6 := h.2.2.2.2.2.1
    unfold fn_X2_readNumber_2 fb_X2_readNumber_2 den
    rw [h6, h7]
    by_cases c : p < x.length
    · have b1 := h.by p
      rw [if_neg (nI_ge (by omega) (by omega)), h.1, Option.bind_some, h.at c, Option.bind_some, c_digit, Option.bind_some, iDig_s b1, Option.bind_some, h.at c, Option.bind_some, nI_1, show fr + p + 1 = fr + (p + 1) by omega]
      by_cases d : isDb (x.getD p 0) = true
      · have hd := isDb_t d
        rw [if_pos d, if_pos (show p < x.length ∧ isDb (x.getD p 0) = true from ⟨c, d⟩)]
        have hv : (((l6 (min v 2147483648) * 10) + (sb (x.getD p 0)).toInt64) - 48) = l6 (min v 2147483648 * 10 + x.getD p 0 - 48) := by
          rw [sb_nI (by omega), nI_6 b1, show (10 : Int64) = l6 10 from rfl, show (48 : Int64) = l6 48 from rfl, l6_mul, l6_add, l6_sub (by omega)]
        have hmin : (if (2147483648 : Int64) < (((l6 (min v 2147483648) * 10) + (sb (x.getD p 0)).toInt64) - 48) then (2147483648 : Int64) else (((l6 (min v 2147483648) * 10) + (sb (x.getD p 0)).toInt64) - 48)) = l6 (min (10 * v + x.getD p 0 - 48) 2147483648) := by
          rw [hv, show (2147483648 : Int64) = l6 2147483648 from rfl]
          by_cases e : 2147483648 < min v 2147483648 * 10 + x.getD p 0 - 48
          · rw [if_pos ((l6_lt (by omega) (by omega)).mpr e)]
            congr 1
            omega
          · rw [if_neg (fun z => e ((l6_lt (by omega) (by omega)).mp z))]
            congr 1
            omega
        rw [hmin, ih (p + 1) _ _ (h.to (by omega)) (by omega), wI_wI]
      · rw [if_neg d, if_neg (fun z => d z.2), wI_self h7]
    · rw [if_pos (nI_le (by omega) (by omega)), if_neg (fun z => c z.1), wI_self h7]
/-- the reference counts exactly as long as it matters -/
theorem r_numL {x : List Nat} : ∀ (n p v w : Nat) (t : uS), lxR t x p → x.length < p + n → (w = v ∨ 10000000000 ≤ w ∧ 10000000000 ≤ v) → w < 100000000000 → ∃ w1 : Nat, (w1 = (den x n p v).2 ∨ 10000000000 ≤ w1 ∧ 10000000000 ≤ (den x n p v).2) ∧ w1 < 100000000000 ∧ fn_X12_digits_2 n (l6 w) t = ((fn_X12_peek 0 (wI t 1079 30 (nI (den x n p v).1))).bind fun v6 => (fn_X12_low v6 (wI t 1079 30 (nI (den x n p v).1))).bind fun v8 => if v8 = 107 then (fb_X12_digits_82 (l6 w1) v8 (wI t 1079 30 (nI (den x n p v).1))) else (if v8 = 109 then (fb_X12_digits_82 (l6 w1) v8 (wI t 1079 30 (nI (den x n p v).1))) else (if v8 = 103 then (fb_X12_digits_82 (l6 w1) v8 (wI t 1079 30 (nI (den x n p v).1))) else (fb_X12_digits_133 (l6 w1) (wI t 1079 30 (nI (den x n p v).1)))))) := by
  intro n
  induction n with
  | zero => intro p v w t h b; have := h.2.2.2.2.2; omega
  | succ n ih =>
    intro p v w t h hb hw hw2
    have hp := h.2.2.2.2.2
    have h4 := h.2.2.2.1
    have h5 := h.2.2.2.2.1
    unfold fn_X12_digits_2 fb_X12_digits_2 fb_X12_digits_41 den
    have stop : ∃ w1 : Nat, (w1 = v ∨ 10000000000 ≤ w1 ∧ 10000000000 ≤ v) ∧ w1 < 100000000000 ∧ ((fn_X12_peek 0 t).bind fun v6 => (fn_X12_low v6 t).bind fun v8 => if v8 = 107 then (fb_X12_digits_82 (l6 w) v8 t) else (if v8 = 109 then (fb_X12_digits_82 (l6 w) v8 t) else (if v8 = 103 then (fb_X12_digits_82 (l6 w) v8 t) else (fb_X12_digits_133 (l6 w) t)))) = ((fn_X12_peek 0 (wI t 1079 30 (nI p))).bind fun v6 => (fn_X12_low v6 (wI t 1079 30 (nI p))).bind fun v8 => if v8 = 107 then (fb_X12_digits_82 (l6 w1) v8 (wI t 1079 30 (nI p))) else (if v8 = 109 then (fb_X12_digits_82 (l6 w1) v8 (wI t 1079 30 (nI p))) else (if v8 = 103 then (fb_X12_digits_82 (l6 w1) v8 (wI t 1079 30 (nI p))) else (fb_X12_digits_133 (l6 w1) (wI t 1079 30 (nI p)))))) := ⟨w, hw, hw2, by rw [wI_self h5]⟩
    by_cases c : p < x.length
    · have b1 := h.2.2.1 p
      have hpk : fn_X12_peek 0 t = some (nI (x.getD p 0)) := by rw [h.peek0, if_pos c]
      by_cases d : isDb (x.getD p 0) = true
      · have hd := isDb_t d
        rw [if_pos ⟨c, d⟩, hpk, Option.bind_some, r_digit, Option.bind_some, iDig_N b1, if_pos d, show (10000000000 : Int64) = l6 10000000000 from rfl, l6_cmp (by omega) (by omega), Option.bind_some, h5, nI_1]
        by_cases e : 10000000000 ≤ w
        · have hz : (0 : Int32) ≤ (if 10000000000 < w then 1 else if w = 10000000000 then 0 else -1) := by
            by_cases z : 10000000000 < w
            · rw [if_pos z]; decide
            · rw [if_neg z, if_pos (by omega)]; decide
          rw [if_pos hz]
          have := ih (p + 1) (10 * v + x.getD p 0 - 48) w _ (h.to (show p + 1 ≤ x.length by omega)) (by omega) (Or.inr ⟨e, by omega⟩) hw2
          simpa only [wI_wI] using this
        · have hz : ¬ (0 : Int32) ≤ (if 10000000000 < w then 1 else if w = 10000000000 then 0 else -1) := by
            rw [if_neg (by omega), if_neg (by omega)]; decide
          rw [if_neg hz, nI_6 b1, show (10 : Int64) = l6 10 from rfl, show (48 : Int64) = l6 48 from rfl, l6_mul, l6_add, l6_sub (by omega)]
          have := ih (p + 1) (10 * v + x.getD p 0 - 48) (10 * w + x.getD p 0 - 48) _ (h.to (show p + 1 ≤ x.length by omega)) (by omega) (Or.inl (by omega)) (by omega)
          simpa only [wI_wI] using this
      · rw [if_neg (fun z => d z.2), hpk, Option.bind_some, r_digit, Option.bind_some, iDig_N b1, if_neg d, ← hpk]
        exact stop
    · have hpk : fn_X12_peek 0 t = some (-1) := by rw [h.peek0, if_neg c]
      rw [if_neg (fun z => c z.1), hpk, Option.bind_some, r_digit, Option.bind_some, if_neg (by decide), ← hpk]
      exact stop
