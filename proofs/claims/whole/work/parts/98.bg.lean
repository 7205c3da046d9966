/-! bytes packed in longs -/
def S8 (r : Nat) : Int64 := Int64.ofNat (56 - 8 * r)
theorem shr_bv (x : Int64) {r : Nat} (h : r < 8) : (x >>> S8 r).toBitVec = x.toBitVec.sshiftRight (56 - 8 * r) := by
  have h2 : r = 0 ∨ r = 1 ∨ r = 2 ∨ r = 3 ∨ r = 4 ∨ r = 5 ∨ r = 6 ∨ r = 7 := by omega
  rw [Int64.toBitVec_shiftRight]
  rcases h2 with e | e | e | e | e | e | e | e <;> subst e <;> rfl
theorem shl_bv (x : Int64) {r : Nat} (h : r < 8) : (x <<< S8 r).toBitVec = x.toBitVec <<< (56 - 8 * r) := by
  have h2 : r = 0 ∨ r = 1 ∨ r = 2 ∨ r = 3 ∨ r = 4 ∨ r = 5 ∨ r = 6 ∨ r = 7 := by omega
  rw [Int64.toBitVec_shiftLeft]
  rcases h2 with e | e | e | e | e | e | e | e <;> subst e <;> rfl
theorem m255 (i : Nat) : (255#32).getLsbD i = decide (i < 8) := by
  rw [show (255#32) = BitVec.ofNat 32 (2 ^ 8 - 1) from rfl, BitVec.getLsbD_ofNat, Nat.testBit_two_pow_sub_one]
  by_cases c : i < 8
  · simp [c]; omega
  · simp [c]
theorem m255L (i : Nat) : (255#64).getLsbD i = decide (i < 8) := by
  rw [show (255#64) = BitVec.ofNat 64 (2 ^ 8 - 1) from rfl, BitVec.getLsbD_ofNat, Nat.testBit_two_pow_sub_one]
  by_cases c : i < 8
  · simp [c]; omega
  · simp [c]
theorem rd8 (x : Int64) {r : Nat} (h : r < 8) (i : Nat) : ((x >>> S8 r).toInt32 &&& 255).toBitVec.getLsbD i = (decide (i < 8) && x.toBitVec.getLsbD (56 - 8 * r + i)) := by
  rw [Int32.toBitVec_and, BitVec.getLsbD_and, show (255 : Int32).toBitVec = 255#32 from rfl, m255, Int64.toBitVec_toInt32, shr_bv x h, BitVec.getLsbD_signExtend, BitVec.getLsbD_sshiftRight]
  by_cases c : i < 8
  · rw [decide_eq_true c, Bool.and_true, Bool.true_and, decide_eq_true (show i < 32 by omega), Bool.true_and, if_pos (show i < 64 by omega), if_pos (show 56 - 8 * r + i < 64 by omega), show (decide (64 ≤ i)) = false from decide_eq_false (by omega)]
    rfl
  · rw [decide_eq_false c, Bool.and_false, Bool.false_and]
theorem nI_bit {b : Nat} (h : b < 256) (i : Nat) : (nI b).toBitVec.getLsbD i = (decide (i < 8) && Nat.testBit b i) := by
  show (BitVec.ofNat 32 b).getLsbD i = _
  rw [BitVec.getLsbD_ofNat]
  by_cases c : i < 8
  · rw [decide_eq_true c, decide_eq_true (show i < 32 by omega)]
  · rw [decide_eq_false c, Bool.false_and, Nat.testBit_lt_two_pow (Nat.lt_of_lt_of_le (show b < 2 ^ 8 by omega) (Nat.pow_le_pow_right (by decide) (by omega))), Bool.and_false]
/-- one byte of a long written -/
def pk8 (v : Int64) (r b : Nat) : Int64 := (v &&& (((255 : Int64) <<< S8 r) ^^^ (-1))) ||| (((nI b &&& 255).toInt64) <<< S8 r)
theorem nI_255 {b : Nat} (h : b < 256) : nI b &&& 255 = nI b := by
  have : ∀ b, b < 256 → nI b &&& 255 = nI b := by decide +kernel
  exact this b h
theorem nI_L {b : Nat} (h : b < 256) : (nI b).toInt64.toBitVec = BitVec.ofNat 64 b := by
  have : ∀ b, b < 256 → (nI b).toInt64.toBitVec = BitVec.ofNat 64 b := by decide +kernel
  exact this b h
theorem pk8_bit {v : Int64} {r b : Nat} (hr : r < 8) (hb : b < 256) {i : Nat} (hi : i < 64) : (pk8 v r b).toBitVec.getLsbD i = if 56 - 8 * r ≤ i ∧ i < 56 - 8 * r + 8 then Nat.testBit b (i - (56 - 8 * r)) else v.toBitVec.getLsbD i := by
  unfold pk8
  rw [nI_255 hb, Int64.toBitVec_or, Int64.toBitVec_and, Int64.toBitVec_xor, shl_bv _ hr, shl_bv _ hr, nI_L hb, show (-1 : Int64).toBitVec = BitVec.allOnes 64 from by decide, show (255 : Int64).toBitVec = 255#64 from rfl]
  rw [BitVec.getLsbD_or, BitVec.getLsbD_and, BitVec.getLsbD_xor, BitVec.getLsbD_shiftLeft, BitVec.getLsbD_shiftLeft, BitVec.getLsbD_allOnes, m255L, BitVec.getLsbD_ofNat, decide_eq_true hi]
  by_cases c : 56 - 8 * r ≤ i
  · rw [show (decide (i < 56 - 8 * r)) = false from decide_eq_false (by omega)]
    by_cases d : i < 56 - 8 * r + 8
    · rw [if_pos ⟨c, d⟩, decide_eq_true (show i - (56 - 8 * r) < 8 by omega), decide_eq_true (show i - (56 - 8 * r) < 64 by omega)]
      simp
    · rw [if_neg (fun e => d e.2), decide_eq_false (show ¬ i - (56 - 8 * r) < 8 by omega), Nat.testBit_lt_two_pow (Nat.lt_of_lt_of_le (show b < 2 ^ 8 by omega) (Nat.pow_le_pow_right (by decide) (show 8 ≤ i - (56 - 8 * r) by omega)))]
      simp
  · rw [show (decide (i < 56 - 8 * r)) = true from decide_eq_true (by omega), if_neg (fun e => c e.1)]
    simp
/-- reading it back, and the others -/
theorem pk8_rd {v : Int64} {r r' b : Nat} (hr : r < 8) (hr' : r' < 8) (hb : b < 256) : (pk8 v r b >>> S8 r').toInt32 &&& 255 = if r' = r then nI b else (v >>> S8 r').toInt32 &&& 255 := by
  apply Int32.toBitVec_inj.mp
  apply BitVec.eq_of_getLsbD_eq
  intro i hi
  rw [rd8 _ hr']
  by_cases e : r' = r
  · subst e
    rw [if_pos rfl, nI_bit hb]
    by_cases c : i < 8
    · rw [decide_eq_true c, pk8_bit hr hb (by omega), if_pos ⟨by omega, by omega⟩, Nat.add_sub_cancel_left]
    · rw [decide_eq_false c, Bool.false_and, Bool.false_and]
  · rw [if_neg e, rd8 _ hr']
    by_cases c : i < 8
    · rw [decide_eq_true c, pk8_bit hr hb (by omega), if_neg (by omega)]
    · rw [decide_eq_false c, Bool.false_and, Bool.false_and]
