/-! the parameters of MAIL: the class -/
def spE (bs : List Nat) (p : Nat) : Nat := (fnb bs 32 p (bs.length - p)).getD bs.length
theorem spE_b {bs : List Nat} {p : Nat} (hp : p ≤ bs.length) : p ≤ spE bs p ∧ spE bs p ≤ bs.length ∧ (∀ j : Nat, p ≤ j → j < spE bs p → bs.getD j 0 ≠ 32) ∧ (spE bs p < bs.length → bs.getD (spE bs p) 0 = 32) := by
  unfold spE
  cases h : fnb bs 32 p (bs.length - p) with
  | none => exact ⟨hp, Nat.le_refl _, fun j y1 y2 => fnb_none h j y1 (by have : j < bs.length := y2; omega), fun z => absurd z (Nat.lt_irrefl _)⟩
  | some e =>
    obtain ⟨f1, f2, f3, f4⟩ := fnb_some h
    exact ⟨f1, by show e ≤ bs.length; omega, fun j y1 y2 => f4 j y1 y2, fun _ => f3⟩
def dgt (bs : List Nat) (j : Nat) : Bool := decide (48 ≤ bs.getD j 0 ∧ bs.getD j 0 ≤ 57)
def dgV (bs : List Nat) : Nat → Nat → Nat → Nat
  | 0, _, v => v
  | m + 1, a, v => dgV bs m (a + 1) (v * 10 + (bs.getD a 0 - 48))
def isz (bs : List Nat) (q e : Nat) : Bool := decide (q + 5 < e) && decide (e - (q + 5) ≤ 9) && stB bs q kW_183 && allB (dgt bs) (e - (q + 5)) (q + 5)
def prm (bs : List Nat) : Nat → Nat → Bool → Option Bool
  | 0, _, _ => none
  | k + 1, p, big => if bs.length ≤ p then some big else if bs.getD p 0 = 32 then (if eqW (sub bs (p + 1) (spE bs (p + 1))) kW_182 = true then prm bs k (spE bs (p + 1)) big else if isz bs (p + 1) (spE bs (p + 1)) = true then prm bs k (spE bs (p + 1)) (big || decide (4000 < dgV bs (spE bs (p + 1) - (p + 1 + 5)) (p + 1 + 5) 0)) else none) else none
theorem c_dgt {s : uS} {c : Nat} (hc : c < 256) : fn_X9_isDigit (sb c) s = some (decide (48 ≤ c ∧ c ≤ 57)) := by
  have : ∀ x : Fin 256, (if sb x.1 < 48 then (some false) else (if (57 : Int32) < sb x.1 then (some false) else (some true))) = some (decide (48 ≤ x.1 ∧ x.1 ≤ 57)) := by decide +kernel
  exact this ⟨c, hc⟩
theorem sb_dg2 {c : Nat} (h : 48 ≤ c ∧ c ≤ 57) : sb c = nI c := by
  have : ∀ x : Fin 58, sb x.1 = nI x.1 := by decide +kernel
  exact this ⟨c, by omega⟩
theorem nI_dg {v c : Nat} (h : 48 ≤ c) : nI v * 10 + nI c - 48 = nI (v * 10 + (c - 48)) := by
  rw [show (10 : Int32) = nI 10 from rfl, nI_mul, nI_add, show (48 : Int32) = nI 48 from rfl, nI_sub (by omega), show v * 10 + c - 48 = v * 10 + (c - 48) by omega]
theorem c_sz {s : uS} {bs : List Nat} {big : Bool} (h : rdC s 1052 0 bs) (hb : s.I 1042 11 = bI big) {e : Nat} (he : e ≤ bs.length) (hl : bs.length ≤ 500) : ∀ (m N d v j : Nat), j + m = e → m < N → d + m ≤ 9 → v < 10 ^ d → fn_X0_isSize_39 N (nI e) (nI v) (nI j) s = some (if allB (dgt bs) m j = true then wI s 1042 11 (bI (big || decide (4000 < dgV bs m j v))) else s, allB (dgt bs) m j)
  | 0, N + 1, d, v, j, h1, h2, h3, h4 => by
    show fb_X0_isSize_39 _ (nI e) (nI v) (nI j) s = _
    unfold fb_X0_isSize_39
    have hv : v < 1000000001 := Nat.lt_of_lt_of_le h4 (Nat.le_trans (Nat.pow_le_pow_right (by decide) (show d ≤ 9 by omega)) (by decide))
    rw [if_pos (nI_le (by omega) (by omega)), hb]
    show _ = some (if true = true then wI s 1042 11 (bI (big || decide (4000 < v))) else s, true)
    rw [if_pos rfl]
    cases big with
    | true => rw [if_neg (show ¬ bI true = 0 by decide)]; rfl
    | false =>
      rw [if_pos (show bI false = 0 by decide)]
      by_cases c : v ≤ 4000
      · rw [if_pos (show nI v ≤ 4000 from nI_le (b := 4000) c (by decide)), decide_eq_false (by omega)]; rfl
      · rw [if_neg (show ¬ nI v ≤ 4000 from nI_ge (a := 4000) (by omega) (by omega)), decide_eq_true (by omega)]; rfl
  | m + 1, N + 1, d, v, j, h1, h2, h3, h4 => by
    show fb_X0_isSize_39 (fn_X0_isSize_39 N) (nI e) (nI v) (nI j) s = _
    unfold fb_X0_isSize_39
    have hg := h.2.2 j (by omega)
    rw [Nat.zero_add] at hg
    have h8 := h.2.1 j
    rw [if_neg (nI_ge (by omega) (by omega)), hg, Option.bind_some, c_dgt h8, Option.bind_some]
    show (if dgt bs j = true then _ else _) = some (if (dgt bs j && allB (dgt bs) m (j + 1)) = true then wI s 1042 11 (bI (big || decide (4000 < dgV bs m (j + 1) (v * 10 + (bs.getD j 0 - 48))))) else s, dgt bs j && allB (dgt bs) m (j + 1))
    by_cases c : dgt bs j = true
    · have cc : 48 ≤ bs.getD j 0 ∧ bs.getD j 0 ≤ 57 := of_decide_eq_true c
      have hp : 10 ^ (d + 1) = 10 ^ d * 10 := Nat.pow_succ ..
      rw [if_pos c, Option.bind_some, sb_dg2 cc, nI_dg cc.1, nI_1, c_sz h hb he hl m N (d + 1) (v * 10 + (bs.getD j 0 - 48)) (j + 1) (by omega) (by omega) (by omega) (by omega), c, Bool.true_and]
    · have cf : dgt bs j = false := Bool.eq_false_iff.mpr c
      rw [if_neg c, cf, Bool.false_and, if_neg (by decide)]
theorem c_isSz {s : uS} {bs : List Nat} {big : Bool} (h : rdC s 1052 0 bs) (hb : s.I 1042 11 = bI big) {q e : Nat} (hq : q ≤ e) (he : e ≤ bs.length) (hl : bs.length ≤ 500) : fn_X0_isSize (nI q) (nI e) s = some (if isz bs q e = true then wI s 1042 11 (bI (big || decide (4000 < dgV bs (e - (q + 5)) (q + 5) 0))) else s, isz bs q e) := by
  have no : isz bs q e = false → some (s, false) = some (if isz bs q e = true then wI s 1042 11 (bI (big || decide (4000 < dgV bs (e - (q + 5)) (q + 5) 0))) else s, isz bs q e) := fun z => by rw [z, if_neg (by decide)]
  unfold fn_X0_isSize
  rw [show nI q + 5 = nI (q + 5) from nI_add q 5]
  by_cases c1 : e ≤ q + 5
  · rw [if_pos (nI_le c1 (by omega))]
    exact no (by unfold isz; rw [decide_eq_false (by omega)]; rfl)
  · rw [if_neg (nI_ge (by omega) (by omega)), nI_sub (by omega)]
    by_cases c2 : 9 < e - (q + 5)
    · rw [if_pos (show (9 : Int32) < nI (e - (q + 5)) from nI_lt (a := 9) c2 (by omega))]
      exact no (by unfold isz; rw [decide_eq_true (show q + 5 < e by omega), decide_eq_false (by omega)]; rfl)
    · rw [if_neg (show ¬ (9 : Int32) < nI (e - (q + 5)) from nI_nlt (b := e - (q + 5)) (a := 9) (by omega) (by decide))]
      have hs := h.sub (a := q) (b := q + 5) (by omega) (by omega)
      have hsl := sub_len (x := bs) (a := q) (b := q + 5) (by omega) (by omega)
      have cp := c_place (W := kW_33) hs (by decide) (by decide)
      rw [Nat.zero_add, show q + (sub bs q (q + 5)).length = q + 5 by omega, plc_1 (W := kW_33) (by decide)] at cp
      rw [cp, Option.bind_some]
      have ee : eqW (sub bs q (q + 5)) kW_33 = stB bs q kW_183 := by
        rw [← eqW_lo, show kW_33.map lo = kW_183 by decide]
        rw [show q + 5 = q + kW_183.length from rfl, eqW_sub (by unfold lwc; decide) (by show q + 5 ≤ _; omega)]
        unfold stB
        rw [decide_eq_true (show q + kW_183.length ≤ bs.length by show q + 5 ≤ _; omega)]
        rfl
      rw [ee]
      have iz : isz bs q e = (stB bs q kW_183 && allB (dgt bs) (e - (q + 5)) (q + 5)) := by
        unfold isz
        rw [decide_eq_true (show q + 5 < e by omega), decide_eq_true (show e - (q + 5) ≤ 9 by omega)]
        rfl
      cases st : stB bs q kW_183 with
      | false =>
        rw [if_neg (by decide)]
        exact no (by rw [iz, st]; rfl)
      | true =>
        rw [if_pos rfl, if_pos (show oI (some 0) = 0 by decide)]
        rw [show (0 : Int32) = nI 0 from rfl, c_sz h hb he hl (e - (q + 5)) uFu 0 0 (q + 5) (by omega) (by show _ < 1000000; omega) (by omega) (by decide), iz, st, Bool.true_and]
def opI (k f : Nat) : Prop := k = 1042 ∧ f = 11
theorem c_opts {bs : List Nat} (hl : bs.length ≤ 500) : ∀ (K p : Nat) (big : Bool) (s : uS), bs.length < p + K → p ≤ bs.length → rdC s 1052 0 bs → s.I 1042 11 = bI big → ∃ s1 : uS, fn_X0_areOptions_7 K (nI bs.length) (nI p) s = some (s1, (prm bs K p big).isSome) ∧ out opI rNo s s1 ∧ ∀ b : Bool, prm bs K p big = some b → s1.I 1042 11 = bI b
  | 0, p, big, s, h1, h2, h3, h4 => by omega
  | K + 1, p, big, s, h1, h2, h3, h4 => by
    show ∃ s1 : uS, fb_X0_areOptions_7 (fn_X0_areOptions_7 K) (nI bs.length) (nI p) s = _ ∧ _
    unfold fb_X0_areOptions_7 prm
    by_cases c : bs.length ≤ p
    · rw [if_pos (nI_le c (by omega)), if_pos c]
      exact ⟨s, rfl, out_r, fun b hb => by cases hb; exact h4⟩
    · rw [if_neg (nI_ge (by omega) (by omega)), if_neg c, nI_1]
      obtain ⟨e1, e2, e3, e4⟩ := spE_b (bs := bs) (p := p + 1) (by omega)
      have fd := c_findA (b := 32) (i := p + 1) h3 (by decide) (by omega) (by omega)
      rw [Nat.zero_add, Nat.zero_add] at fd
      have eE : ∀ X : Option (uS × Bool), X = ((fn_X9_find 1052 (nI (p + 1)) (nI bs.length) 32 s).bind fun v2 => if 0 ≤ v2 then (fb_X0_areOptions_38 (fn_X0_areOptions_7 K) (nI bs.length) (nI p) v2 s) else (fb_X0_areOptions_38 (fn_X0_areOptions_7 K) (nI bs.length) (nI p) (nI bs.length) s)) → X = fb_X0_areOptions_38 (fn_X0_areOptions_7 K) (nI bs.length) (nI p) (nI (spE bs (p + 1))) s := by
        intro X hX
        rw [hX, show fn_X9_find 1052 (nI (p + 1)) (nI bs.length) 32 s = _ from fd, Option.bind_some]
        unfold spE
        cases f : fnb bs 32 (p + 1) (bs.length - (p + 1)) with
        | none => rw [if_neg (show ¬ (0 : Int32) ≤ -1 by decide)]; rfl
        | some x =>
          obtain ⟨f1, f2, f3, f4⟩ := fnb_some f
          dsimp only
          rw [if_pos (show (0 : Int32) ≤ nI (0 + x) from nI_pos' (by omega)), Nat.zero_add]; rfl
      rw [eE _ rfl]
      generalize hEE : spE bs (p + 1) = e at *
      unfold fb_X0_areOptions_38 fb_X0_areOptions_62
      have hs := h3.sub (a := p + 1) (b := e) e1 e2
      have hsl := sub_len (x := bs) (a := p + 1) (b := e) e2 e1
      have cp := c_place (W := kW_32) hs (by decide) (by decide)
      rw [Nat.zero_add, show p + 1 + (sub bs (p + 1) e).length = e by omega, plc_1 (W := kW_32) (by decide)] at cp
      have hg := h3.2.2 p (by omega)
      rw [Nat.zero_add] at hg
      have h8 := h3.2.1 p
      rw [nI_1, cp, Option.bind_some, hg, Option.bind_some, Option.bind_some]
      rw [← eqW_lo, show kW_32.map lo = kW_182 by decide]
      have e32 : sb (bs.getD p 0) = 32 ↔ bs.getD p 0 = 32 := sb_e (c := 32) h8 (by decide)
      by_cases d : bs.getD p 0 = 32
      · rw [if_pos d, if_pos (e32.mpr d), if_pos (e32.mpr d)]
        cases w : eqW (sub bs (p + 1) e) kW_182 with
        | true =>
          rw [if_pos rfl, if_pos (show oI (some 0) = 0 by decide), if_pos rfl, if_pos rfl]
          exact c_opts hl K e big s (by omega) e2 h3 h4
        | false =>
          rw [if_neg (by decide), if_neg (by decide), if_neg (by decide), c_isSz h3 h4 e1 e2 hl, Option.bind_some]
          cases z : isz bs (p + 1) e with
          | true =>
            rw [if_pos rfl, if_pos rfl, if_pos rfl]
            have h3' : rdC (wI s 1042 11 (bI (big || decide (4000 < dgV bs (e - (p + 1 + 5)) (p + 1 + 5) 0)))) 1052 0 bs := h3.fr rfl rfl rfl
            obtain ⟨s1, b1, b2, b3⟩ := c_opts hl K e (big || decide (4000 < dgV bs (e - (p + 1 + 5)) (p + 1 + 5) 0)) _ (by omega) e2 h3' (wI_e _ _ _ _)
            exact ⟨s1, b1, out_t (out_I out_r ⟨rfl, rfl⟩) b2, b3⟩
          | false =>
            dsimp only
            rw [if_neg (by decide), if_neg (by decide), if_neg (by decide)]
            exact ⟨s, rfl, out_r, fun b hb => by cases hb⟩
      · rw [if_neg d, if_neg (fun z => d (e32.mp z)), if_neg (fun z => d (e32.mp z))]
        refine ⟨s, ?_, out_r, fun b hb => by cases hb⟩
        split <;> rfl
