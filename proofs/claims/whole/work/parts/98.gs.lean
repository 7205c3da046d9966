/-! one recipient: whether it fits -/
def fitB (ms : List aM) (p0 nF nD tl : Nat) (an : Option (List Nat)) : Bool := decide ((ms.length - oN ms) + nF ≤ 300 ∧ oN ms + (nD + (if an.isSome = true then 1 else 0)) ≤ 100 ∧ p0 + ((nF + nD) * tl + lS an) ≤ 150000)
theorem bI_if (b : Bool) : bI b = nI (if b = true then 1 else 0) := by cases b <;> rfl
theorem mul_b {a b c d : Nat} (h1 : a ≤ b) (h2 : c ≤ d) : a * c ≤ b * d := Nat.mul_le_mul h1 h2
theorem c_fits {s : uS} {ms : List aM} {p0 nF nD : Nat} {tx : List Nat} {an : Option (List Nat)} (hM : cMl s ms p0) (hp : p0 ≤ 150000) (hF : s.I 1070 5 = nI nF) (hF6 : nF ≤ 6) (hD : s.I 1070 7 = nI nD) (hD4 : nD ≤ 4) (h3 : s.I 1042 3 = nI tx.length) (hT : tx.length ≤ 4000) (h8 : s.I 1070 8 = bI an.isSome) (hA : ∀ x : List Nat, an = some x → s.I 1075 5 = nI x.length ∧ x.length ≤ 5200) : fn_X11_fits s = some (fitB ms p0 nF nD tx.length an) := by
  obtain ⟨m1, m2, m3, m4, m5⟩ := hM
  have hon := oN_le ms
  have hmul : (nF + nD) * tx.length ≤ 10 * 4000 := mul_b (by omega) hT
  have hls : lS an ≤ 5200 := by
    cases an with
    | none => exact Nat.zero_le _
    | some x => exact (hA x rfl).2
  have key : ∀ (xs0 : Int32), xs0 = nI (lS an) → fb_X11_fits_91 ((s.I 0 10 - s.I 0 11) + s.I 1070 5) (s.I 1070 7 + bI an.isSome) xs0 ((s.I 1070 5 + s.I 1070 7) * s.I 1042 3) s = some (fitB ms p0 nF nD tx.length an) := by
    intro xs0 hx
    unfold fb_X11_fits_91 fitB
    rw [hx, m2, m3, m4, hF, hD, h3, nI_sub hon, bI_if]
    simp only [nI_add, nI_mul]
    have hb : (if an.isSome = true then 1 else 0) ≤ 1 := by split <;> omega
    by_cases c1 : 300 < (ms.length - oN ms) + nF
    · rw [if_pos (show (300 : Int32) < nI (ms.length - oN ms + nF) from nI_lt (a := 300) c1 (by omega)), decide_eq_false (fun z => by omega)]
    · rw [if_neg (show ¬ (300 : Int32) < nI (ms.length - oN ms + nF) from nI_nlt (a := 300) (by omega) (by decide))]
      by_cases c2 : 100 < oN ms + (nD + (if an.isSome = true then 1 else 0))
      · rw [if_pos (show (100 : Int32) < nI (oN ms + (nD + (if an.isSome = true then 1 else 0))) from nI_lt (a := 100) c2 (by omega)), decide_eq_false (fun z => by omega)]
      · rw [if_neg (show ¬ (100 : Int32) < nI (oN ms + (nD + (if an.isSome = true then 1 else 0))) from nI_nlt (a := 100) (by omega) (by decide))]
        by_cases c3 : 150000 < p0 + ((nF + nD) * tx.length + lS an)
        · rw [if_pos (show (150000 : Int32) < nI (p0 + ((nF + nD) * tx.length + lS an)) from nI_lt (a := 150000) c3 (by omega)), decide_eq_false (fun z => by omega)]
        · rw [if_neg (show ¬ (150000 : Int32) < nI (p0 + ((nF + nD) * tx.length + lS an)) from nI_nlt (a := 150000) (by omega) (by decide)), decide_eq_true ⟨by omega, by omega, by omega⟩]
  unfold fn_X11_fits
  cases an with
  | none =>
    have e8 : s.I 1070 8 = 0 := h8
    rw [if_pos e8]
    unfold fb_X11_fits_40
    rw [if_pos e8]
    exact key 0 rfl
  | some x =>
    have e8 : ¬ s.I 1070 8 = 0 := by rw [h8]; show ¬ bI true = 0; decide
    rw [if_neg e8]
    unfold fb_X11_fits_40
    rw [if_neg e8]
    exact key (s.I 1075 5) (hA x rfl).1
theorem r_fits {t : uS} {ms : List aM} {p0 nF nD : Nat} {tx : List Nat} {an : Option (List Nat)} {aw : Bool} (hM : rMl t ms p0) (hp : p0 ≤ 150000) (hF : t.I 1079 97 = nI nF) (hF6 : nF ≤ 6) (hD : t.I 1079 100 = nI nD) (hD4 : nD ≤ 4) (h3 : t.I 1079 13 = nI tx.length) (hT : tx.length ≤ 4000) (hA : ∀ x : List Nat, an = some x → t.I 1079 112 = nI x.length ∧ x.length ≤ 5200) : fb_X12_deliver_146 aw an.isSome t = if fitB ms p0 nF nD tx.length an = true then ((fn_X12_commit t).bind fun r4 => if r4.2 = true then (fn_X12_deliver_255 uFu aw an.isSome 0 r4.1) else (some (r4.1, false))) else fb_X12_deliver_233 t := by
  obtain ⟨m1, m2, m3, m4, m5, m6, m7, m8⟩ := hM
  have hon := oN_le ms
  have hmul : (nF + nD) * tx.length ≤ 10 * 4000 := mul_b (by omega) hT
  have hls : lS an ≤ 5200 := by
    cases an with
    | none => exact Nat.zero_le _
    | some x => exact (hA x rfl).2
  have key : ∀ (xs0 : Int32), xs0 = nI (lS an) → fb_X12_deliver_190 aw an.isSome (t.I 1079 100 + bI an.isSome) xs0 (t.I 1079 13 * (t.I 1079 97 + t.I 1079 100)) t = if fitB ms p0 nF nD tx.length an = true then ((fn_X12_commit t).bind fun r4 => if r4.2 = true then (fn_X12_deliver_255 uFu aw an.isSome 0 r4.1) else (some (r4.1, false))) else fb_X12_deliver_233 t := by
    intro xs0 hx
    unfold fb_X12_deliver_190 fitB
    rw [hx, m4, m5, m6, hF, hD, h3, bI_if]
    simp only [nI_add, nI_mul, Nat.mul_comm tx.length]
    have hb : (if an.isSome = true then 1 else 0) ≤ 1 := by split <;> omega
    by_cases c1 : 300 < (ms.length - oN ms) + nF
    · rw [if_pos (show (300 : Int32) < nI (ms.length - oN ms + nF) from nI_lt (a := 300) c1 (by omega)), decide_eq_false (fun z => by omega), if_neg (by decide)]
    · rw [if_neg (show ¬ (300 : Int32) < nI (ms.length - oN ms + nF) from nI_nlt (a := 300) (by omega) (by decide))]
      by_cases c2 : 100 < oN ms + (nD + (if an.isSome = true then 1 else 0))
      · rw [if_pos (show (100 : Int32) < nI (oN ms + (nD + (if an.isSome = true then 1 else 0))) from nI_lt (a := 100) c2 (by omega)), decide_eq_false (fun z => by omega), if_neg (by decide)]
      · rw [if_neg (show ¬ (100 : Int32) < nI (oN ms + (nD + (if an.isSome = true then 1 else 0))) from nI_nlt (a := 100) (by omega) (by decide))]
        by_cases c3 : p0 + ((nF + nD) * tx.length + lS an) ≤ 150000
        · rw [if_pos (show nI (p0 + ((nF + nD) * tx.length + lS an)) ≤ (150000 : Int32) from nI_le (b := 150000) c3 (by decide)), decide_eq_true ⟨by omega, by omega, c3⟩, if_pos rfl]
        · rw [if_neg (show ¬ nI (p0 + ((nF + nD) * tx.length + lS an)) ≤ (150000 : Int32) from nI_ge (a := 150000) (by omega) (by omega)), decide_eq_false (fun z => by omega), if_neg (by decide)]
  cases an with
  | none =>
    have e : (none : Option (List Nat)).isSome = false := rfl
    have k0 := key 0 rfl
    rw [e] at k0 ⊢
    rw [← k0]
    unfold fb_X12_deliver_146 fb_X12_deliver_160
    rw [if_neg (by decide), if_neg (by decide)]
  | some x =>
    have e : (some x).isSome = true := rfl
    have k0 := key (t.I 1079 112) (hA x rfl).1
    rw [e] at k0 ⊢
    rw [← k0]
    unfold fb_X12_deliver_146 fb_X12_deliver_160
    rw [if_pos rfl, if_pos rfl]
