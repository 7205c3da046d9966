/-! one value against one key on both sides -/
def mOr (nm : Bool) (v k : List Nat) : Nat := if nm = true then nmC v k else cmpB v k
def mKy (m r : Nat) (nm : Bool) (v k : List Nat) : Prop := (m = 1 ∧ nm = false ∧ wth v k = true) ∨ (m = 2 ∧ nm = false ∧ gA k v 0 0) ∨ (m = 0 ∧ mOr nm v k = 1) ∨ (3 ≤ m ∧ stN r (mOr nm v k) = true)
theorem c_isPat {s : uS} {k0 k2 i j : Nat} {a b : List Nat} (h1 : rx s k0 i a) (h2 : rx s k2 j b) (ha : a.length ≤ 4400) (hb : b.length ≤ 1000) : ∃ v : Bool, fn_X3_isPattern k0 (nI i) k2 (nI j) s = some v ∧ (v = true ↔ gA b a 0 0) := by
  obtain ⟨f1, a1, a2, a3, a4, a5⟩ := h1
  obtain ⟨f2, b1, b2, b3, b4, b5⟩ := h2
  unfold fn_X3_isPattern
  rw [b2, Option.bind_some, a1, Option.bind_some, b1, Option.bind_some, a4, Option.bind_some, b4, Option.bind_some, show nI a.length + 2 = nI (a.length + 2) from nI_add _ 2, show nI b.length + 2 = nI (b.length + 2) from nI_add _ 2, nI_mul]
  have hX : (a.length + 2) * (b.length + 2) ≤ 4402 * 1002 := Nat.mul_le_mul (by omega) (by omega)
  have hi : gI b a 0 0 none 0 := ⟨Nat.zero_le _, Nat.zero_le _, Nat.le_refl _, Iff.rfl⟩
  have := c_pat (k0 := k0) (ix := i) (k4 := k2 + 1) a3 b3 a2 (by omega) (by omega) (X := (a.length + 2) * (b.length + 2)) rfl (by omega) 5000000 0 0 0 0 none hi (Nat.zero_le _) (by omega)
  rw [Nat.add_zero, Nat.add_zero] at this
  exact this
theorem c_isMatch {s : uS} {nd k1 k3 x y m r c : Nat} {a b : List Nat} (hm : s.I nd 6 = nI m) (hm5 : m < 5) (hr : 3 ≤ m → s.I nd 7 = nI r ∧ r < 6) (hc : s.I nd 8 = nI c) (hc3 : c < 3) (h1 : rx s k1 x a) (h2 : rx s k3 y b) (ha : a.length ≤ 4400) (hb : b.length ≤ 1000) : ∃ v : Bool, fn_X3_isMatch nd k1 (nI x) k3 (nI y) s = some v ∧ (v = true ↔ mKy m r (decide (c = 2)) a b) := by
  have tf : ∀ v : Bool, (if v = true then some true else some false : Option Bool) = some v := by intro v; cases v <;> rfl
  have hc2 : (nI c = 2) ↔ c = 2 := nI_eq (b := 2) (by omega) (by decide)
  unfold fn_X3_isMatch
  rw [hm, hc]
  by_cases z1 : m = 1
  · subst z1
    rw [if_pos (show nI 1 = 1 from rfl)]
    by_cases y2 : c = 2
    · rw [if_pos (hc2.mpr y2)]
      refine ⟨false, rfl, ?_⟩
      rw [decide_eq_true y2]
      unfold mKy
      simp
    · rw [if_neg (fun w => y2 (hc2.mp w)), c_wth h1 h2, Option.bind_some, tf]
      refine ⟨_, rfl, ?_⟩
      rw [decide_eq_false y2]
      unfold mKy
      simp
  rw [if_neg (show ¬ nI m = 1 from nI_ne (b := 1) (by omega) (by decide) z1)]
  by_cases z2 : m = 2
  · subst z2
    rw [if_pos (show nI 2 = 2 from rfl)]
    by_cases y2 : c = 2
    · rw [if_pos (hc2.mpr y2)]
      refine ⟨false, rfl, ?_⟩
      rw [decide_eq_true y2]
      unfold mKy
      simp
    · obtain ⟨v, e1, e2⟩ := c_isPat h1 h2 ha hb
      rw [if_neg (fun w => y2 (hc2.mp w)), e1, Option.bind_some, tf]
      refine ⟨_, rfl, ?_⟩
      rw [decide_eq_false y2, e2]
      unfold mKy
      simp
  rw [if_neg (show ¬ nI m = 2 from nI_ne (b := 2) (by omega) (by decide) z2)]
  have e93 : ∀ (w : Int32), cI w (mOr (decide (c = 2)) a b) → ∃ v : Bool, fb_X3_isMatch_93 nd w s = some v ∧ (v = true ↔ mKy m r (decide (c = 2)) a b) := by
    intro w hw
    unfold fb_X3_isMatch_93
    rw [hm]
    by_cases z0 : m = 0
    · subst z0
      rw [if_pos (show nI 0 = 0 from rfl)]
      by_cases u : w = 0
      · rw [if_pos u]
        refine ⟨true, rfl, ?_⟩
        have := (cI_z hw).1.mp u
        unfold mKy
        simp [this]
      · rw [if_neg u]
        refine ⟨false, rfl, ?_⟩
        have : ¬ mOr (decide (c = 2)) a b = 1 := fun q => u ((cI_z hw).1.mpr q)
        unfold mKy
        simp [this]
    · obtain ⟨hr1, hr2⟩ := hr (by omega)
      rw [if_neg (show ¬ nI m = 0 from nI_ne (b := 0) (by omega) (by decide) z0), c_stands hr1 hr2 hw, Option.bind_some]
      refine ⟨_, rfl, ?_⟩
      unfold mKy
      have h3 : 3 ≤ m := by omega
      simp [z0, z1, z2, h3]
  by_cases y2 : c = 2
  · rw [if_pos (hc2.mpr y2)]
    obtain ⟨w, q1, q2⟩ := c_ordN h1 h2
    rw [q1, Option.bind_some]
    exact e93 w (by unfold mOr; rw [decide_eq_true y2, if_pos rfl]; exact q2)
  · rw [if_neg (fun w => y2 (hc2.mp w))]
    obtain ⟨w, q1, q2⟩ := c_ordB h1 h2
    rw [q1, Option.bind_some]
    exact e93 w (by unfold mOr; rw [decide_eq_false y2, if_neg (by decide)]; exact q2)
theorem r_76 {t : uS} {n m r c : Nat} {a b : List Nat} (hn : n < 520) (hm : t.F 1109 n = nI m) (hm5 : m < 5) (hr : 3 ≤ m → t.F 1110 n = nI r ∧ r < 6) (hc3 : c < 3) (h1 : r1 t a) (h2 : r2 t b) : ∃ (t1 : uS) (v : Bool), fb_X12_matchesKey_76 (nI n) (decide (c = 1)) (decide (c = 2)) t = some (t1, v) ∧ (v = true ↔ mKy m r (decide (c = 2)) (fl (decide (c = 1)) a) (fl (decide (c = 1)) b)) ∧ out rNo ptW t t1 := by
  have n3 : fl (decide (c = 1)) a = a ∧ fl (decide (c = 1)) b = b ∨ c ≠ 2 := by
    by_cases y : c = 2
    · left; rw [decide_eq_false (by omega)]; exact ⟨rfl, rfl⟩
    · exact Or.inr y
  unfold fb_X12_matchesKey_76
  rw [g_1109 hn, Option.bind_some, hm]
  have ord : ∃ w : Int32, (if decide (c = 2) = true then fn_X12_numeric t else fn_X12_bytewise (decide (c = 1)) t) = some w ∧ cI w (mOr (decide (c = 2)) (fl (decide (c = 1)) a) (fl (decide (c = 1)) b)) := by
    unfold mOr
    by_cases y : c = 2
    · rw [decide_eq_true y, if_pos rfl, if_pos rfl]
      rcases n3 with ⟨q1, q2⟩ | q
      · rw [q1, q2]; exact r_ordN h1 h2
      · exact absurd y q
    · rw [decide_eq_false y, if_neg (by decide), if_neg (by decide)]
      exact r_cmpB h1 h2
  obtain ⟨w, w1, w2⟩ := ord
  have split2 : ∀ (f : Int32 → Option (uS × Bool)), (if decide (c = 2) = true then ((fn_X12_numeric t).bind f) else ((fn_X12_bytewise (decide (c = 1)) t).bind f)) = f w := by
    intro f
    by_cases y : c = 2
    · rw [decide_eq_true y, if_pos rfl] at w1 ⊢; rw [w1, Option.bind_some]
    · rw [decide_eq_false y, if_neg (by decide)] at w1 ⊢; rw [w1, Option.bind_some]
  by_cases z0 : m = 0
  · subst z0
    rw [if_pos (show nI 0 = 0 from rfl), split2 (fun v => if v = 0 then some (t, true) else some (t, false))]
    by_cases u : w = 0
    · rw [if_pos u]
      refine ⟨t, true, rfl, ?_, out_r⟩
      have := (cI_z w2).1.mp u
      unfold mKy
      simp [this]
    · rw [if_neg u]
      refine ⟨t, false, rfl, ?_, out_r⟩
      have : ¬ mOr (decide (c = 2)) (fl (decide (c = 1)) a) (fl (decide (c = 1)) b) = 1 := fun q => u ((cI_z w2).1.mpr q)
      unfold mKy
      simp [this]
  rw [if_neg (show ¬ nI m = 0 from nI_ne (b := 0) (by omega) (by decide) z0)]
  by_cases z1 : m = 1
  · subst z1
    rw [if_pos (show nI 1 = 1 from rfl)]
    by_cases y : c = 2
    · rw [decide_eq_true y, if_pos rfl]
      refine ⟨t, false, rfl, ?_, out_r⟩
      unfold mKy
      simp
    · rw [decide_eq_false y, if_neg (by decide), r_wth h1 h2, Option.bind_some]
      refine ⟨t, wth (fl (decide (c = 1)) a) (fl (decide (c = 1)) b), ?_, ?_, out_r⟩
      · cases wth (fl (decide (c = 1)) a) (fl (decide (c = 1)) b) <;> rfl
      · unfold mKy
        simp
  rw [if_neg (show ¬ nI m = 1 from nI_ne (b := 1) (by omega) (by decide) z1)]
  by_cases z2 : m = 2
  · subst z2
    rw [if_pos (show nI 2 = 2 from rfl)]
    by_cases y : c = 2
    · rw [decide_eq_true y, if_pos rfl]
      refine ⟨t, false, rfl, ?_, out_r⟩
      unfold mKy
      simp
    · obtain ⟨t1, v, e1, e2, e3⟩ := r_pat (f := decide (c = 1)) h1 h2
      rw [decide_eq_false y, if_neg (by decide), e1, Option.bind_some]
      refine ⟨t1, v, ?_, ?_, e3⟩
      · cases v <;> rfl
      · rw [e2]
        unfold mKy
        simp
  rw [if_neg (show ¬ nI m = 2 from nI_ne (b := 2) (by omega) (by decide) z2)]
  have h3 : 3 ≤ m := by omega
  obtain ⟨hr1, hr2⟩ := hr h3
  rw [split2 (fun v => fb_X12_matchesKey_201 (nI n) v t)]
  unfold fb_X12_matchesKey_201
  rw [g_1110 hn, Option.bind_some, hr1, r_related hr2 w2, Option.bind_some]
  refine ⟨t, _, rfl, ?_, out_r⟩
  unfold mKy
  simp [z0, z1, z2, h3]
