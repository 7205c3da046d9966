/-! the lexers: a number's end -/
def unit8 (b : Nat) : Nat := if b = 75 ∨ b = 107 then 10 else if b = 77 ∨ b = 109 then 20 else if b = 71 ∨ b = 103 then 30 else 0
def nsh (x : List Nat) (e : Nat) : Nat := if e < x.length then unit8 (x.getD e 0) else 0
def nen (x : List Nat) (e : Nat) : Nat := if nsh x e = 0 then e else e + 1
def nok (x : List Nat) (e v : Nat) : Bool := !(decide (nen x e < x.length) && isWb (x.getD (nen x e) 0)) && decide (v * 2 ^ nsh x e ≤ 2147483647)
theorem nsh_v (x : List Nat) (e : Nat) : nsh x e = 0 ∨ nsh x e = 10 ∨ nsh x e = 20 ∨ nsh x e = 30 := by
  unfold nsh unit8
  split
  · split
    · omega
    · split
      · omega
      · split <;> omega
  · omega
theorem nen_le {x : List Nat} {e : Nat} (h : e ≤ x.length) : e ≤ nen x e ∧ nen x e ≤ x.length := by
  unfold nen
  split
  · omega
  · rename_i c
    unfold nsh at c
    split at c
    · omega
    · exact absurd rfl c
theorem pw_le {sh : Nat} (h : sh = 0 ∨ sh = 10 ∨ sh = 20 ∨ sh = 30) : 1 ≤ 2 ^ sh ∧ 2 ^ sh ≤ 1073741824 := by
  rcases h with e | e | e | e <;> rw [e] <;> decide
theorem c_num136 {k fr p v : Nat} {x : List Nat} {s : uS} (h : lxC s k fr x p) (hv : v < 2 ^ 62) : ∃ y : Int32, fb_X2_readNumber_136 (l6 v) s = some (wI (wI s 7 2 (if (!(decide (p < x.length) && isWb (x.getD p 0)) && decide (v ≤ 2147483647)) = true then 2 else 6)) 7 3 y) ∧ (v ≤ 2147483647 → y = nI v) := by
  have h1 := h.2.2.1
  have h2 := h.2.2.2.1
  have hp := h.2.2.2.2.2.2.2
  have h7 := h.2.2.2.2.2.2.1
  have hb := h.byteAt (q := p) (by omega)
  refine ⟨(l6 v).toInt32, ?_, fun z => l6_i (by omega)⟩
  have key : ∀ bs : Bool, fb_X2_readNumber_166 (l6 v) bs s = some (wI (wI s 7 2 (if (bs && decide (v ≤ 2147483647)) = true then 2 else 6)) 7 3 (l6 v).toInt32) := by
    intro bs
    unfold fb_X2_readNumber_166 fb_X2_readNumber_186
    cases bs with
    | false => rw [if_neg (by decide), Bool.false_and, if_neg (by decide)]
    | true =>
      rw [if_pos rfl, Bool.true_and, show (2147483647 : Int64) = l6 2147483647 from rfl, l6_cmp (by omega) (by omega)]
      by_cases c : v ≤ 2147483647
      · rw [decide_eq_true c, if_pos (show true = true from rfl), if_neg (show ¬ 2147483647 < v by omega)]
        have : ¬ (0 : Int32) < (if v = 2147483647 then 0 else -1) := by split <;> decide
        rw [if_neg this]
      · rw [decide_eq_false c, if_neg (show ¬ (false = true) by decide), if_pos (show 2147483647 < v by omega), if_pos (show (0 : Int32) < 1 by decide)]
  unfold fb_X2_readNumber_136
  rw [h7, h.start (by omega), Option.bind_some, hb, Option.bind_some, c_digit, Option.bind_some, key, key]
  unfold isWb
  by_cases c : p < x.length
  · have b1 := h.by p
    rw [decide_eq_true c, if_pos c, iDig_s b1]
    cases isWs (x.getD p 0) <;> cases isDb (x.getD p 0) <;> rfl
  · rw [decide_eq_false c, if_neg c]
    rfl
theorem c_num {k fr p v : Nat} {x : List Nat} {s : uS} (h : lxC s k fr x p) : ∃ y : Int32, fb_X2_readNumber_68 (l6 (min v 2147483648)) s = some (wI (wI (wI s 7 8 (nI (fr + nen x p))) 7 2 (if nok x p v = true then 2 else 6)) 7 3 y) ∧ (nok x p v = true → y = nI (v * 2 ^ nsh x p)) := by
  have h1 := h.2.2.1
  have h2 := h.2.2.2.1
  have hp := h.2.2.2.2.2.2.2
  have h7 := h.2.2.2.2.2.2.1
  have hb := h.byteAt (q := p) (by omega)
  have hpl := pw_le (nsh_v x p)
  have hmm : min v 2147483648 * 2 ^ nsh x p ≤ 2147483647 ↔ v * 2 ^ nsh x p ≤ 2147483647 := by
    by_cases c : v ≤ 2147483648
    · rw [Nat.min_eq_left c]
    · rw [Nat.min_eq_right (by omega)]
      constructor
      · intro z; have := Nat.mul_le_mul_left 2147483648 hpl.1; omega
      · intro z; have := Nat.mul_le_mul_left v hpl.1; omega
  have fin : ∀ sh : Nat, nsh x p = sh → (sh = 0 ∨ sh = 10 ∨ sh = 20 ∨ sh = 30) → ∃ y : Int32, fb_X2_readNumber_114 (l6 (min v 2147483648)) (nI sh) s = some (wI (wI (wI s 7 8 (nI (fr + nen x p))) 7 2 (if nok x p v = true then 2 else 6)) 7 3 y) ∧ (nok x p v = true → y = nI (v * 2 ^ nsh x p)) := by
    intro sh he hs
    unfold fb_X2_readNumber_114 nok
    by_cases c : sh = 0
    · have hn : nen x p = p := by unfold nen; rw [if_pos (by omega)]
      obtain ⟨y, a1, a2⟩ := c_num136 (v := min v 2147483648) h (by omega)
      have e1 : min v 2147483648 ≤ 2147483647 ↔ v * 2 ^ nsh x p ≤ 2147483647 := by rw [he, c, Nat.pow_zero, Nat.mul_one]; omega
      refine ⟨y, ?_, ?_⟩
      · rw [c, if_pos (show nI 0 ≤ 0 by decide), a1, hn, wI_self h7, decide_eq_decide.mpr e1]
      · intro z
        rw [Bool.and_eq_true, decide_eq_true_eq] at z
        rw [a2 (e1.mpr z.2), he, c, Nat.pow_zero, Nat.mul_one]
        congr 1
        have := e1.mpr z.2
        omega
    · have hn : nen x p = p + 1 := by unfold nen; rw [if_neg (by omega)]
      have hpx : p < x.length := by
        have : ¬ nsh x p = 0 := by omega
        unfold nsh at this
        by_cases z : p < x.length
        · exact z
        · rw [if_neg z] at this; exact absurd rfl this
      have hb62 : min v 2147483648 * 2 ^ sh < 2 ^ 62 := by
        rw [he] at hpl
        have : min v 2147483648 * 2 ^ sh ≤ 2147483648 * 1073741824 := Nat.mul_le_mul (by omega) hpl.2
        omega
      obtain ⟨y, a1, a2⟩ := c_num136 (v := min v 2147483648 * 2 ^ sh) (h.to (q := p + 1) (by omega)) hb62
      have e1 : min v 2147483648 * 2 ^ sh ≤ 2147483647 ↔ v * 2 ^ nsh x p ≤ 2147483647 := by rw [← he]; exact hmm
      refine ⟨y, ?_, ?_⟩
      · rw [if_neg (nI_nle (by omega) (by omega)), l6_shl (by omega) (by omega), h7, nI_1, show fr + p + 1 = fr + (p + 1) by omega, a1, hn, decide_eq_decide.mpr e1]
      · intro z
        rw [Bool.and_eq_true, decide_eq_true_eq] at z
        rw [a2 (e1.mpr z.2), he]
        congr 1
        have h3 := e1.mpr z.2
        by_cases q : v ≤ 2147483648
        · rw [Nat.min_eq_left q]
        · rw [Nat.min_eq_right (by omega)] at h3
          rw [he] at hpl
          have := Nat.mul_le_mul_left 2147483648 hpl.1
          omega
  unfold fb_X2_readNumber_68
  rw [h7, hb, Option.bind_some]
  by_cases c : p < x.length
  · have b1 := h.by p
    rw [if_pos c, c_upS b1, Option.bind_some]
    have hu := up_lt b1
    have e : ∀ c : Nat, c < 128 → (sb (up (x.getD p 0)) = nI c ↔ up (x.getD p 0) = c) := fun c hc => sb_e hu hc
    have e75 : sb (up (x.getD p 0)) = (75 : Int32) ↔ (x.getD p 0 = 75 ∨ x.getD p 0 = 107) := (e 75 (by decide)).trans (by unfold up; split <;> omega)
    have e77 : sb (up (x.getD p 0)) = (77 : Int32) ↔ (x.getD p 0 = 77 ∨ x.getD p 0 = 109) := (e 77 (by decide)).trans (by unfold up; split <;> omega)
    have e71 : sb (up (x.getD p 0)) = (71 : Int32) ↔ (x.getD p 0 = 71 ∨ x.getD p 0 = 103) := (e 71 (by decide)).trans (by unfold up; split <;> omega)
    have hns : nsh x p = unit8 (x.getD p 0) := by unfold nsh; rw [if_pos c]
    unfold unit8 at hns
    by_cases d1 : x.getD p 0 = 75 ∨ x.getD p 0 = 107
    · rw [if_pos (e75.mpr d1)]; rw [if_pos d1] at hns; exact fin 10 hns (by omega)
    · rw [if_neg (fun z => d1 (e75.mp z))]; rw [if_neg d1] at hns
      by_cases d2 : x.getD p 0 = 77 ∨ x.getD p 0 = 109
      · rw [if_pos (e77.mpr d2)]; rw [if_pos d2] at hns; exact fin 20 hns (by omega)
      · rw [if_neg (fun z => d2 (e77.mp z))]; rw [if_neg d2] at hns
        by_cases d3 : x.getD p 0 = 71 ∨ x.getD p 0 = 103
        · rw [if_pos (e71.mpr d3)]; rw [if_pos d3] at hns; exact fin 30 hns (by omega)
        · rw [if_neg (fun z => d3 (e71.mp z))]; rw [if_neg d3] at hns; exact fin 0 hns (by omega)
  · have hns : nsh x p = 0 := by unfold nsh; rw [if_neg c]
    rw [if_neg c]
    exact fin 0 hns (by omega)
/-- the reference -/
theorem r_num133 {p w v : Nat} {x : List Nat} {t : uS} (h : lxR t x p) (hw : w < 2 ^ 63) (hv : w ≤ 2147483647 ↔ v ≤ 2147483647) (hwv : v ≤ 2147483647 → w = v) : fb_X12_digits_133 (l6 w) t = some (if (!(decide (p < x.length) && isWb (x.getD p 0)) && decide (v ≤ 2147483647)) = true then (wI t 1079 35 (nI v), 3) else (t, 5)) := by
  unfold fb_X12_digits_133
  rw [h.peek0, Option.bind_some, show (2147483647 : Int64) = l6 2147483647 from rfl, l6_cmp hw (by omega)]
  have hc : ((if 2147483647 < w then (1 : Int32) else if w = 2147483647 then 0 else -1) ≤ 0) ↔ w ≤ 2147483647 := by
    by_cases c : 2147483647 < w
    · rw [if_pos c]; constructor
      · intro z; exact absurd z (by decide)
      · intro z; omega
    · rw [if_neg c]; constructor
      · intro _; omega
      · intro _; split <;> decide
  have tail : ∀ bb : Bool, (if bb = true then some (t, (5 : Int32)) else (if (if 2147483647 < w then (1 : Int32) else if w = 2147483647 then 0 else -1) ≤ 0 then some (wI t 1079 35 (l6 w).toInt32, 3) else some (t, 5))) = some (if (!bb && decide (v ≤ 2147483647)) = true then (wI t 1079 35 (nI v), 3) else (t, 5)) := by
    intro bb
    cases bb with
    | true => rfl
    | false =>
      rw [if_neg (by decide)]
      by_cases c : v ≤ 2147483647
      · rw [if_pos (hc.mpr (hv.mpr c)), decide_eq_true c, hwv c, l6_i (by omega)]; rfl
      · rw [if_neg (fun z => c (hv.mp (hc.mp z))), decide_eq_false c]; rfl
  by_cases c : p < x.length
  · rw [if_pos c, r_wb (h.2.2.1 p), Option.bind_some, decide_eq_true c, Bool.true_and]
    exact tail _
  · rw [if_neg c, r_wbm, Option.bind_some, decide_eq_false c, Bool.false_and]
    exact tail false
theorem r_num {p w v : Nat} {x : List Nat} {t : uS} (h : lxR t x p) (hw : w < 100000000000) (hwv : w = v ∨ 10000000000 ≤ w ∧ 10000000000 ≤ v) : ((fn_X12_peek 0 t).bind fun v6 => (fn_X12_low v6 t).bind fun v8 => if v8 = 107 then (fb_X12_digits_82 (l6 w) v8 t) else (if v8 = 109 then (fb_X12_digits_82 (l6 w) v8 t) else (if v8 = 103 then (fb_X12_digits_82 (l6 w) v8 t) else (fb_X12_digits_133 (l6 w) t)))) = some (if nok x p v = true then (wI (wI t 1079 30 (nI (nen x p))) 1079 35 (nI (v * 2 ^ nsh x p)), 3) else (wI t 1079 30 (nI (nen x p)), 5)) := by
  have hp := h.2.2.2.2.2
  have h4 := h.2.2.2.1
  have h5 := h.2.2.2.2.1
  have hpl := pw_le (nsh_v x p)
  rw [h.peek0, Option.bind_some]
  have f0 : nsh x p = 0 → fb_X12_digits_133 (l6 w) t = some (if nok x p v = true then (wI (wI t 1079 30 (nI (nen x p))) 1079 35 (nI (v * 2 ^ nsh x p)), 3) else (wI t 1079 30 (nI (nen x p)), 5)) := by
    intro hn
    have hn2 : nen x p = p := by unfold nen; rw [if_pos hn]
    have := r_num133 (v := v) h (show w < 2 ^ 63 by omega) (by omega) (by omega)
    unfold nok
    rw [hn2, hn, Nat.pow_zero, Nat.mul_one, wI_self h5]
    exact this
  have f1 : ∀ (sh : Nat) (l : Int32), nsh x p = sh → (sh = 10 ∨ sh = 20 ∨ sh = 30) → (∀ (y : Nat) (t' : uS), fb_X12_digits_107 l (l6 y) t' = fb_X12_digits_133 (l6 y <<< ((nI sh).toInt64 &&& 63)) t') → fb_X12_digits_82 (l6 w) l t = some (if nok x p v = true then (wI (wI t 1079 30 (nI (nen x p))) 1079 35 (nI (v * 2 ^ nsh x p)), 3) else (wI t 1079 30 (nI (nen x p)), 5)) := by
    intro sh l hn hs hl
    have hn2 : nen x p = p + 1 := by unfold nen; rw [if_neg (by omega)]
    have hpx : p < x.length := by
      have : ¬ nsh x p = 0 := by omega
      unfold nsh at this
      by_cases z : p < x.length
      · exact z
      · rw [if_neg z] at this; exact absurd rfl this
    rw [hn] at hpl
    have h1024 : 1024 ≤ 2 ^ sh := by rcases hs with e | e | e <;> rw [e] <;> decide
    unfold fb_X12_digits_82
    rw [show (4294967296 : Int64) = l6 4294967296 from rfl, l6_cmp (by omega) (by omega), h5, nI_1]
    have go : ∀ y : Nat, y = min w 4294967296 → fb_X12_digits_107 l (l6 y) (wI t 1079 30 (nI (p + 1))) = some (if nok x p v = true then (wI (wI t 1079 30 (nI (nen x p))) 1079 35 (nI (v * 2 ^ nsh x p)), 3) else (wI t 1079 30 (nI (nen x p)), 5)) := by
      intro y hy
      rw [hl, l6_shl (by omega) hs]
      have e1 : y * 2 ^ sh ≤ 2147483647 ↔ v * 2 ^ sh ≤ 2147483647 := by
        rcases hwv with z | ⟨z1, z2⟩
        · subst z
          by_cases q : w ≤ 4294967296
          · rw [hy, Nat.min_eq_left q]
          · have q1 := Nat.mul_le_mul_left w hpl.1
            have q2 := Nat.mul_le_mul_left y hpl.1
            omega
        · have q1 := Nat.mul_le_mul_left v hpl.1
          have q2 := Nat.mul_le_mul_left y hpl.1
          omega
      have hyb : y * 2 ^ sh < 2 ^ 63 := by
        have : y * 2 ^ sh ≤ 4294967296 * 1073741824 := Nat.mul_le_mul (by omega) hpl.2
        omega
      have := r_num133 (w := y * 2 ^ sh) (v := v * 2 ^ sh) (h.to (q := p + 1) (by omega)) hyb e1 (by
        intro z
        rcases hwv with q | ⟨q1, q2⟩
        · subst q
          by_cases q : w ≤ 4294967296
          · rw [hy, Nat.min_eq_left q]
          · have q1 := Nat.mul_le_mul_left w hpl.1
            omega
        · have q3 := Nat.mul_le_mul_left v hpl.1
          omega)
      unfold nok
      rw [hn2, hn]
      exact this
    by_cases c : 4294967296 ≤ w
    · have : (0 : Int32) ≤ (if 4294967296 < w then 1 else if w = 4294967296 then 0 else -1) := by
        by_cases z : 4294967296 < w
        · rw [if_pos z]; decide
        · rw [if_neg z, if_pos (by omega)]; decide
      rw [if_pos this]
      exact go _ (by omega)
    · have : ¬ (0 : Int32) ≤ (if 4294967296 < w then 1 else if w = 4294967296 then 0 else -1) := by
        rw [if_neg (by omega), if_neg (by omega)]; decide
      rw [if_neg this]
      exact go _ (by omega)
  by_cases c : p < x.length
  · have b1 := h.2.2.1 p
    have hlo := lo_lt b1
    rw [if_pos c, r_lowN (by omega), Option.bind_some]
    have e : ∀ c : Nat, c < 128 → (nI (lo (x.getD p 0)) = nI c ↔ lo (x.getD p 0) = c) := fun c hc => nI_eq (by omega) (by omega)
    have e75 : nI (lo (x.getD p 0)) = (107 : Int32) ↔ (x.getD p 0 = 75 ∨ x.getD p 0 = 107) := (e 107 (by decide)).trans (by unfold lo; split <;> omega)
    have e77 : nI (lo (x.getD p 0)) = (109 : Int32) ↔ (x.getD p 0 = 77 ∨ x.getD p 0 = 109) := (e 109 (by decide)).trans (by unfold lo; split <;> omega)
    have e71 : nI (lo (x.getD p 0)) = (103 : Int32) ↔ (x.getD p 0 = 71 ∨ x.getD p 0 = 103) := (e 103 (by decide)).trans (by unfold lo; split <;> omega)
    have hns : nsh x p = unit8 (x.getD p 0) := by unfold nsh; rw [if_pos c]
    unfold unit8 at hns
    by_cases d1 : x.getD p 0 = 75 ∨ x.getD p 0 = 107
    · rw [if_pos (e75.mpr d1)]; rw [if_pos d1] at hns
      refine f1 10 _ hns (by omega) ?_
      intro y t'
      unfold fb_X12_digits_107
      rw [if_pos (e75.mpr d1)]; rfl
    · rw [if_neg (fun z => d1 (e75.mp z))]; rw [if_neg d1] at hns
      by_cases d2 : x.getD p 0 = 77 ∨ x.getD p 0 = 109
      · rw [if_pos (e77.mpr d2)]; rw [if_pos d2] at hns
        refine f1 20 _ hns (by omega) ?_
        intro y t'
        unfold fb_X12_digits_107
        rw [if_neg (fun z => d1 (e75.mp z)), if_pos (e77.mpr d2)]; rfl
      · rw [if_neg (fun z => d2 (e77.mp z))]; rw [if_neg d2] at hns
        by_cases d3 : x.getD p 0 = 71 ∨ x.getD p 0 = 103
        · rw [if_pos (e71.mpr d3)]; rw [if_pos d3] at hns
          refine f1 30 _ hns (by omega) ?_
          intro y t'
          unfold fb_X12_digits_107
          rw [if_neg (fun z => d1 (e75.mp z)), if_neg (fun z => d2 (e77.mp z))]; rfl
        · rw [if_neg (fun z => d3 (e71.mp z))]; rw [if_neg d3] at hns; exact f0 hns
  · have hns : nsh x p = 0 := by unfold nsh; rw [if_neg c]
    rw [if_neg c]
    have hm : fn_X12_low (-1) t = some (-1) := rfl
    rw [hm, Option.bind_some, if_neg (show ¬ (-1 : Int32) = 107 by decide), if_neg (show ¬ (-1 : Int32) = 109 by decide), if_neg (show ¬ (-1 : Int32) = 103 by decide)]
    exact f0 hns
