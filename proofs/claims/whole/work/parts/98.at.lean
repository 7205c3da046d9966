/-! sessions: the command on both sides -/
theorem oI_s (c : Nat) : oI (some c) = nI c := rfl
theorem oI_n : oI none = -1 := rfl
def k4 (c : Nat) : Nat := [1, 2, 1, 4, 1, 0, 1, 1, 0].getD c 0
def k5 (c : Nat) : Nat := [2, 0, 3, 0, 0, 0, 0, 1, 0].getD c 0
def pOf (c : Nat) : Nat := [2, 1, 2, 1, 1, 0, 1, 2, 0].getD c 0
def okc (c : Nat) (ps : List (Nat × List Nat)) : Bool := ipt ps 0 (k4 c) && ipt ps 1 (k5 c) && decide (ps.length < 3)
def okf (c : Nat) (ps : List (Nat × List Nat)) : Bool := decide (ps.length = pOf c) && decide (nums ps = if c = 2 then 2 else 0)
def okn (c : Nat) (ps : List (Nat × List Nat)) : Bool := decide (c = 1 ∨ c = 5 ∨ c = 8 ∨ (c = 3 ∧ (ps.getD 0 pk0).2.length = 0)) || (isNm (ps.getD 0 pk0).2 && (decide (c ≠ 7) || isNm (ps.getD 1 pk0).2))
theorem ok_eq {c : Nat} (hc : c < 9) {ps : List (Nat × List Nat)} (hl : ps.length ≤ 3) (hk : ∀ i : Nat, i < ps.length → (ps.getD i pk0).1 = 2 ∨ (ps.getD i pk0).1 = 3) : okc c ps = (okf c ps && okn c ps) := by
  have hcs : c = 0 ∨ c = 1 ∨ c = 2 ∨ c = 3 ∨ c = 4 ∨ c = 5 ∨ c = 6 ∨ c = 7 ∨ c = 8 := by omega
  match ps, hl, hk with
  | [], _, _ =>
    rcases hcs with e | e | e | e | e | e | e | e | e <;> subst e <;> rfl
  | [(a, x)], _, hk =>
    have h0 : a = 2 ∨ a = 3 := hk 0 (by simp)
    rcases hcs with e | e | e | e | e | e | e | e | e <;> subst e <;> rcases h0 with e | e <;> subst e <;> simp [okc, okf, okn, ipt, k4, k5, pOf, nums, pk0, isNm]
  | [(a, x), (b, y)], _, hk =>
    have h0 : a = 2 ∨ a = 3 := hk 0 (by simp)
    have h1 : b = 2 ∨ b = 3 := hk 1 (by simp)
    rcases hcs with e | e | e | e | e | e | e | e | e <;> subst e <;> rcases h0 with e | e <;> subst e <;> rcases h1 with e | e <;> subst e <;> simp [okc, okf, okn, ipt, k4, k5, pOf, nums, pk0]
  | [(a, x), (b, y), (d, z)], _, hk =>
    rcases hcs with e | e | e | e | e | e | e | e | e <;> subst e <;> simp [okc, okf, okn, pOf]
  | a :: b :: d :: e :: l, hl, _ => exact absurd hl (by simp)
def okW (w : List Nat) (ps : List (Nat × List Nat)) : Bool := match wix w ordW 0 with | none => false | some c => okc c ps
theorem wix_9 {w : List Nat} {c : Nat} (h : wix w ordW 0 = some c) : c < 9 := by
  have := wix_lt h
  have e : ordW.length = 9 := rfl
  omega
theorem wix_13 {w : List Nat} : wix (w.take 13) ordW 0 = wix w ordW 0 := by
  by_cases c : w.length ≤ 13
  · rw [List.take_of_length_le c]
  · rw [wix_long (by rw [List.length_take]; omega), wix_long (by omega)]
theorem getD_take {w : List Nat} {n j : Nat} (h : j < n) : (w.take n).getD j 0 = w.getD j 0 := by
  rw [List.getD_eq_getElem?_getD, List.getD_eq_getElem?_getD, List.getElem?_take_of_lt h]
theorem c_command {u : Nat} (hu : u < 4) {s t : uS} {w : List Nat} {ps : List (Nat × List Nat)} {bg : Nat} {cur : List Nat} (hw : pW (978 + 16 * u) u s t w) (hd : pD (978 + 16 * u) u s t ps bg cur) : fn_X8_command (978 + 16 * u) s = some (if okW w ps = true then oI (wix w ordW 0) else -1) := by
  obtain ⟨k1, k2, k3, k4'⟩ := kOk_u hu
  obtain ⟨w1, w2, w3, w4, w5, w6⟩ := hw
  have hlen : (w.take 13).length = min 13 w.length := List.length_take
  have hrd : rdC s (978 + 16 * u + 6) 0 (w.take 13) := by
    refine ⟨by omega, ?_, ?_⟩
    · intro j
      by_cases c : j < 13
      · rw [getD_take c]; exact w2 j
      · rw [getDn_out (by omega)]; decide
    · intro j hj
      rw [Nat.zero_add, iget_c (by omega) k3 (by omega) (by decide), w4 j (by omega) (by omega), getD_take (by omega)]
  have hp := c_place hrd (W := kW_67) (by decide) (by decide)
  rw [c_ordW, wix_13, Nat.zero_add, hlen] at hp
  unfold fn_X8_command fb_X8_command_71 okW
  have hp' : fn_X9_place kW_67 (978 + 16 * u + 6) 0 (nI (min 13 w.length)) s = some (oI (wix w ordW 0)) := hp
  rw [w3, hp', Option.bind_some]
  have hl3 := hd.1.2.1
  have hl := hd.1.1
  rw [List.length_map] at hl hl3
  cases h : wix w ordW 0 with
  | none => rw [if_pos (by decide)]; rfl
  | some c =>
    have hc := wix_9 h
    have t4 : tget kS_4 (nI c) = some (nI (k4 c)) := by
      have : ∀ c, c < 9 → tget kS_4 (nI c) = some (nI (k4 c)) := by decide +kernel
      exact this c hc
    have t5 : tget kS_5 (nI c) = some (nI (k5 c)) := by
      have : ∀ c, c < 9 → tget kS_5 (nI c) = some (nI (k5 c)) := by decide +kernel
      exact this c hc
    have l4 : k4 c < 5 := by
      have : ∀ c, c < 9 → k4 c < 5 := by decide
      exact this c hc
    have l5 : k5 c < 5 := by
      have : ∀ c, c < 9 → k5 c < 5 := by decide
      exact this c hc
    simp only [oI_s]
    have p0 : fn_X8_isPart (978 + 16 * u) 0 (nI (k4 c)) s = some (ipt ps 0 (k4 c)) := c_isPart hu hd (by decide) l4
    have p1 : fn_X8_isPart (978 + 16 * u) 1 (nI (k5 c)) s = some (ipt ps 1 (k5 c)) := c_isPart hu hd (by decide) l5
    rw [if_neg (nI_pos (by omega)), if_pos (show nI c < nI kS_4.length from nI_lt (show c < 9 from hc) (by decide)), t4, Option.bind_some, p0, Option.bind_some, t5, Option.bind_some, p1, Option.bind_some, hl]
    unfold okc
    by_cases e : 3 ≤ ps.length
    · rw [if_pos (show (3 : Int32) ≤ nI ps.length from nI_le e (by omega)), decide_eq_false (show ¬ ps.length < 3 by omega)]
      by_cases q0 : ipt ps 0 (k4 c) = true <;> by_cases q1 : ipt ps 1 (k5 c) = true <;> simp [q0, q1]
    · rw [if_neg (show ¬ (3 : Int32) ≤ nI ps.length from nI_ge (show ps.length < 3 by omega) (by decide)), decide_eq_true (show ps.length < 3 by omega)]
      by_cases q0 : ipt ps 0 (k4 c) = true <;> by_cases q1 : ipt ps 1 (k5 c) = true <;> simp [q0, q1]
theorem r_fit {u c : Nat} (hu : u < 4) (hc : c < 9) {t : uS} {ps : List (Nat × List Nat)} (hl : ps.length ≤ 3) (h1 : t.F 1159 u = nI c) (h2 : t.F 1160 u = nI ps.length) (h3 : t.F 1166 u = nI (nums ps)) : fn_X12_fit (nI u) t = some (okf c ps) := by
  have hn := nums_lt ps
  have hp : 2 ^ ps.length ≤ 2 ^ 3 := Nat.pow_le_pow_right (by decide) hl
  have hpo : fn_X12_partsOf (nI c) t = some (nI (pOf c)) := by
    have hcs : c = 0 ∨ c = 1 ∨ c = 2 ∨ c = 3 ∨ c = 4 ∨ c = 5 ∨ c = 6 ∨ c = 7 ∨ c = 8 := by omega
    rcases hcs with e | e | e | e | e | e | e | e | e <;> subst e <;> rfl
  have hpl : pOf c < 3 := by
    have : ∀ c, c < 9 → pOf c < 3 := by decide
    exact this c hc
  unfold fn_X12_fit fb_X12_fit_48 okf
  rw [g_1159 hu, Option.bind_some, h1, if_neg (nI_pos (by omega)), g_1160 hu, Option.bind_some, h2, Option.bind_some, hpo, Option.bind_some, g_1166 hu, Option.bind_some, h3, Option.bind_some]
  simp (disch := omega) only [lit, nI_eq]
  by_cases a : ps.length = pOf c
  · rw [if_pos a, decide_eq_true a, Bool.true_and]
    by_cases b : c = 2
    · rw [if_pos b, if_pos b]
      by_cases d : nums ps = 2
      · rw [if_pos d, decide_eq_true d]
      · rw [if_neg d, decide_eq_false d]
    · rw [if_neg b, if_neg b]
      by_cases d : nums ps = 0
      · rw [if_pos d, decide_eq_true d]
      · rw [if_neg d, decide_eq_false d]
  · rw [if_neg a, decide_eq_false a, Bool.false_and]
theorem frs_F {t : uS} {u k : Nat} (h1 : k ≠ 1156) (h2 : k ≠ 1157) (h3 : k ≠ 1160) (h4 : k ≠ 1166) : (r_frs t u).F k = t.F k := by
  unfold r_frs
  rw [wF_r h4, wF_r h3, wF_r h2, wF_r h1]
theorem pD.rPt {K u p : Nat} {s t : uS} {ps : List (Nat × List Nat)} {bg : Nat} {cur : List Nat} (hd : pD K u s t ps bg cur) (hp : p < 2) (hl : p < ps.length) : rPt u p t (ps.getD p pk0).2 := by
  obtain ⟨a, b⟩ := hd.2.2.2.2.2 p hp hl
  refine ⟨(hd.2.2.1 p hl).2.2, ?_, a, b⟩
  obtain ⟨fr, -, h⟩ := hd.1.2.2.2.2.2.2.2
  have := (h p (by rw [List.length_map]; exact hl)).1
  rw [getD_map_snd] at this
  exact this
theorem rPt.frs {u p : Nat} (hu : u < 4) {t : uS} {x : List Nat} (h : rPt u p t x) (v : Nat) : rPt u p (r_frs t v) x := by
  unfold rPt
  rw [frs_F (by decide) (by decide) (by decide) (by decide), frs_F (by omega) (by omega) (by omega) (by omega)]
  exact h
theorem r_ordered {u : Nat} (hu : u < 4) {s t : uS} {w : List Nat} {ps : List (Nat × List Nat)} {bg : Nat} {cur : List Nat} (hd : pD (978 + 16 * u) u s t ps bg cur) (ho : t.F 1159 u = oI (wix w ordW 0)) : fn_X12_ordered (nI u) t = fb_X12_ordered_83 (nI u) (oI (wix w ordW 0)) (okW w ps) (r_frs t u) := by
  have hl3 := hd.1.2.1
  rw [List.length_map] at hl3
  unfold fn_X12_ordered okW
  rw [g_1159 hu, Option.bind_some, ho]
  cases h : wix w ordW 0 with
  | none =>
    rw [h] at ho
    have : fn_X12_fit (nI u) t = some false := by
      unfold fn_X12_fit
      rw [g_1159 hu, Option.bind_some, ho, if_pos (by decide)]
    rw [this, Option.bind_some, r_fresh hu, Option.bind_some, if_neg (by decide)]
  | some c =>
    have hc := wix_9 h
    rw [h, oI_s] at ho
    simp only [oI_s]
    rw [r_fit hu hc hl3 ho hd.2.2.2.1 hd.2.2.2.2.1, Option.bind_some, r_fresh hu, Option.bind_some]
    have hk : ∀ i : Nat, i < ps.length → (ps.getD i pk0).1 = 2 ∨ (ps.getD i pk0).1 = 3 := fun j hj => ((hd.2.2.1 j hj).2.1).elim Or.inl (fun e => Or.inr e.1)
    rw [ok_eq hc hl3 hk]
    cases hf : okf c ps with
    | false => rw [if_neg (by decide), Bool.false_and]
    | true =>
      have hpl : ps.length = pOf c := by
        unfold okf at hf
        rw [Bool.and_eq_true, decide_eq_true_eq] at hf
        exact hf.1
      rw [if_pos rfl, Bool.true_and]
      simp (disch := omega) only [lit, nI_eq, nI_mul]
      unfold okn
      by_cases c1 : c = 1
      · rw [if_pos c1, decide_eq_true (Or.inl c1)]; rfl
      · rw [if_neg c1]
        by_cases c5 : c = 5
        · rw [if_pos c5, decide_eq_true (Or.inr (Or.inl c5))]; rfl
        · rw [if_neg c5]
          by_cases c8 : c = 8
          · rw [if_pos c8, decide_eq_true (Or.inr (Or.inr (Or.inl c8)))]; rfl
          · rw [if_neg c8]
            have hp0 : 0 < ps.length := by
              have : ∀ c, c < 9 → c ≠ 5 → c ≠ 8 → 0 < pOf c := by decide
              have := this c hc c5 c8
              omega
            have n0 := r_isName hu (show 0 < 2 by decide) ((hd.rPt (show 0 < 2 by decide) hp0).frs hu u)
            have h54 : ∀ b : Bool, (b = false) → fb_X12_ordered_54 (nI u) (nI c) (r_frs t u) = fb_X12_ordered_83 (nI u) (nI c) (b || (isNm (ps.getD 0 pk0).2 && (decide (c ≠ 7) || isNm (ps.getD 1 pk0).2))) (r_frs t u) := by
              intro b hb
              subst hb
              unfold fb_X12_ordered_54
              rw [show (0 : Int32) = nI 0 from rfl, n0, Option.bind_some]
              cases isNm (ps.getD 0 pk0).2 with
              | false => rfl
              | true =>
                rw [if_pos rfl, Bool.true_and, Bool.false_or]
                by_cases c7 : c = 7
                · have n1 := r_isName hu (show 1 < 2 by decide) ((hd.rPt (show 1 < 2 by decide) (by rw [hpl, c7]; decide)).frs hu u)
                  rw [if_pos (by rw [c7]; rfl), show (1 : Int32) = nI 1 from rfl, n1, Option.bind_some, decide_eq_false (fun e => e c7), Bool.false_or]
                  cases isNm (ps.getD 1 pk0).2 <;> rfl
                · rw [if_neg (by show ¬ nI c = nI 7; rw [nI_eq (by omega) (by omega)]; exact c7), decide_eq_true c7]; rfl
            by_cases c3 : c = 3
            · rw [if_pos c3]
              have hr := (hd.rPt (show 0 < 2 by decide) hp0)
              rw [g_1164 (by omega), Option.bind_some, frs_F (by decide) (by decide) (by decide) (by decide), show 2 * u = 2 * u + 0 from rfl, hr.2.2.1]
              have h20 := hr.1
              simp (disch := omega) only [nI_eq]
              by_cases z : (ps.getD 0 pk0).2.length = 0
              · rw [if_pos z, decide_eq_true (Or.inr (Or.inr (Or.inr ⟨c3, z⟩)))]; rfl
              · rw [if_neg z, decide_eq_false (show ¬ (c = 1 ∨ c = 5 ∨ c = 8 ∨ c = 3 ∧ (ps.getD 0 pk0).2.length = 0) by omega)]
                exact h54 false rfl
            · rw [if_neg c3, decide_eq_false (show ¬ (c = 1 ∨ c = 5 ∨ c = 8 ∨ c = 3 ∧ (ps.getD 0 pk0).2.length = 0) by omega)]
              exact h54 false rfl
