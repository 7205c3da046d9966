/-! the class: values found against keys; counts -/
theorem tz_rx {s : uS} {k cap mo bg i : Nat} {ts : List (List Nat)} {cur : List Nat} (hk : uTx k cap mo) (h : cTz s k cap mo ts bg cur) (hi : i < ts.length) : rx s k i (ts.getD i []) := by
  obtain ⟨fr, a1, a2, a3, a4⟩ := tz_rd hk h hi
  have := hk.2.2.2.2.1
  exact ⟨fr, a1, a2, a3, tz_len hk h hi, by omega⟩
theorem tz_le {s : uS} {k cap mo bg i : Nat} {ts : List (List Nat)} {cur : List Nat} (hk : uTx k cap mo) (h : cTz s k cap mo ts bg cur) (hi : i < ts.length) : (ts.getD i []).length ≤ cap := by
  obtain ⟨fr, a1, a2, a3, a4⟩ := tz_rd hk h hi
  omega
def tI (k a _f : Nat) : Prop := a = k
def tF (k a _f : Nat) : Prop := a = k + 1 ∨ a = k + 2 ∨ a = k + 3
noncomputable def mB (m r : Nat) (nm : Bool) (v k : List Nat) : Bool := @decide (mKy m r nm v k) (Classical.propDecidable _)
theorem mB_iff {m r : Nat} {nm : Bool} {v k : List Nat} : mB m r nm v k = true ↔ mKy m r nm v k := @decide_eq_true_iff _ (Classical.propDecidable _)
theorem c_isM {s : uS} {nd k1 k3 x y m r c : Nat} {a b : List Nat} (hm : s.I nd 6 = nI m) (hm5 : m < 5) (hr : 3 ≤ m → s.I nd 7 = nI r ∧ r < 6) (hc : s.I nd 8 = nI c) (hc3 : c < 3) (h1 : rx s k1 x a) (h2 : rx s k3 y b) (ha : a.length ≤ 4400) (hb : b.length ≤ 1000) : fn_X3_isMatch nd k1 (nI x) k3 (nI y) s = some (mB m r (decide (c = 2)) a b) := by
  obtain ⟨v, e1, e2⟩ := c_isMatch hm hm5 hr hc hc3 h1 h2 ha hb
  rw [e1]
  congr 1
  rw [Bool.eq_iff_iff, e2, mB_iff]
/-- every value against every key -/
noncomputable def hdB (m r : Nat) (nm : Bool) (vs ks : List (List Nat)) (f a : Nat) : Bool := anyB (fun v => anyB (fun k => mB m r nm (vs.getD v []) (ks.getD (f + k) [])) a 0) vs.length 0
theorem c_hold {s : uS} {nd m r c f a bg bg2 : Nat} {vs ts : List (List Nat)} (hm : s.I nd 6 = nI m) (hm5 : m < 5) (hr : 3 ≤ m → s.I nd 7 = nI r ∧ r < 6) (hc : s.I nd 8 = nI c) (hc3 : c < 3) (hv : cTz s 1062 4400 1001 vs bg []) (hs : cTz s 8 2000 301 ts bg2 []) (h1 : iget 20 s (nd + 1) 1 = some (nI f)) (h2 : iget 20 s (nd + 2) 1 = some (nI a)) (hf : f + a ≤ ts.length) (hl : ∀ j : Nat, j < ts.length → (ts.getD j []).length ≤ 1000) : fn_X6_holds_123 uFu nd 0 s = some (s, hdB m r (decide (c = 2)) vs ts f a) := by
  have q1 := hv.2.1
  have q2 := hs.2.1
  unfold hdB
  refine any0 (F := fun n x => fn_X6_holds_123 n nd x s) (p := fun v => anyB (fun k => mB m r (decide (c = 2)) (vs.getD v []) (ts.getD (f + k) [])) a 0) (fin := fun b => some (s, b)) (L := vs.length) (fun n v hv2 => ?_) (by show _ < 1000000; omega)
  show fb_X6_holds_123 (fn_X6_holds_123 n) nd (nI v) s = _
  unfold fb_X6_holds_123
  rw [hv.1]
  by_cases z : vs.length ≤ v
  · rw [if_pos (nI_le z (by omega)), if_pos z]
  · rw [if_neg (nI_ge (by omega) (by omega)), if_neg z]
    refine any0 (F := fun n2 x => fn_X6_holds_136 (fn_X6_holds_123 n) n2 nd (nI v) x s) (p := fun k => mB m r (decide (c = 2)) (vs.getD v []) (ts.getD (f + k) [])) (fin := fun b => if b = true then some (s, true) else fn_X6_holds_123 n nd (nI (v + 1)) s) (L := a) (fun n2 k hk => ?_) (by show _ < 1000000; omega)
    show fb_X6_holds_136 (fn_X6_holds_123 n) (fn_X6_holds_136 (fn_X6_holds_123 n) n2) nd (nI v) (nI k) s = _
    unfold fb_X6_holds_136
    rw [h2, Option.bind_some]
    by_cases y : a ≤ k
    · rw [if_pos (nI_le y (by omega)), if_pos y, nI_1]; rfl
    · rw [if_neg (nI_ge (by omega) (by omega)), if_neg y, h1, Option.bind_some, nI_add, c_isM hm hm5 hr hc hc3 (tz_rx uTx_fd hv (by omega)) (tz_rx uTx_str hs (by omega)) (tz_le uTx_fd hv (by omega)) (hl _ (by omega)), Option.bind_some, nI_1]
      rfl
theorem tz_putO {s : uS} {k cap mo bg : Nat} {ts : List (List Nat)} {cur : List Nat} {x : Int32} {b : Nat} (hk : uTx k cap mo) (h : cTz s k cap mo ts bg cur) (hc : bg + cur.length < cap) (hb : b < 256) (hx : x.toInt8.toInt32 = sb b) : ∃ s1 : uS, fn_X9_put k x s = some s1 ∧ cTz s1 k cap mo ts bg (cur ++ [b]) ∧ out (tI k) (tF k) s s1 := by
  obtain ⟨s1, a1, a2, a3⟩ := tz_put hk h hc hb hx
  exact ⟨s1, a1, a3, by rw [a2]; exact out_I (out_F out_r (Or.inl rfl)) rfl⟩
theorem tz_closeO {s : uS} {k cap mo bg : Nat} {ts : List (List Nat)} {cur : List Nat} (hk : uTx k cap mo) (h : cTz s k cap mo ts bg cur) (hc : ts.length < mo) : ∃ s1 : uS, fn_X9_close k s = some s1 ∧ cTz s1 k cap mo (ts ++ [cur]) (bg + cur.length) [] ∧ out (tI k) (tF k) s s1 := by
  obtain ⟨s1, a1, a2, a3⟩ := tz_close hk h hc
  exact ⟨s1, a1, a3, by rw [a2]; exact out_I (out_I (out_F (out_F out_r (Or.inr (Or.inl rfl))) (Or.inr (Or.inr rfl))) rfl) rfl⟩
theorem tz_clearO (k cap mo : Nat) (s : uS) : ∃ s1 : uS, fn_X9_clear k s = some s1 ∧ cTz s1 k cap mo [] 0 [] ∧ out (tI k) (tF k) s s1 := ⟨_, rfl, tz_clear, out_I (out_I (out_I out_r rfl) rfl) rfl⟩
theorem tz_dropO {s : uS} {k cap mo bg : Nat} {ts : List (List Nat)} {cur : List Nat} (h : cTz s k cap mo ts bg cur) : ∃ s1 : uS, fn_X9_drop k s = some s1 ∧ cTz s1 k cap mo ts bg [] ∧ out (tI k) (tF k) s s1 := by
  obtain ⟨h1, h2, h3, h4, h5, h6, h7, fr, h8, h9⟩ := h
  refine ⟨wI s k 5 (s.I k 4), rfl, ⟨(wI_o (by omega)).trans h1, h2, (wI_o (by omega)).trans h3, ?_, by simp; omega, bys_nil, fun j hj => absurd hj (by simp), fr, h8, h9⟩, out_I out_r rfl⟩
  rw [wI_e, h3]; rfl
theorem p10_l9 {j : Nat} (h : j ≤ 9) : 0 < 10 ^ j ∧ 10 ^ j ≤ 1000000000 := ⟨Nat.pow_pos (by decide), Nat.pow_le_pow_right (n := 10) (by decide) h⟩
theorem tz_dig1 {n k cap mo bg j : Nat} {ts : List (List Nat)} {cur : List Nat} {s : uS} (hk : uTx k cap mo) (hn : n < 100000) (hj : j ≤ 9) (h : cTz s k cap mo ts bg cur) (hc : bg + cur.length < cap) (K : Nat → Int32 → Int32 → uS → Option uS) : ∃ s1 : uS, fb_X9_putNumber_17 K k (nI n) (nI (10 ^ j)) s = K k (nI n) (nI (10 ^ j / 10)) s1 ∧ cTz s1 k cap mo ts bg (cur ++ [48 + n / 10 ^ j % 10]) ∧ out (tI k) (tF k) s s1 := by
  obtain ⟨p1, p2⟩ := p10_l9 hj
  have hd : n / 10 ^ j < 2 ^ 31 := Nat.lt_of_le_of_lt (Nat.div_le_self _ _) (by omega)
  obtain ⟨s1, a1, a2, a3⟩ := tz_putO hk h hc (b := 48 + n / 10 ^ j % 10) (x := nI (48 + n / 10 ^ j % 10)) (by omega) rfl
  refine ⟨s1, ?_, a2, a3⟩
  unfold fb_X9_putNumber_17
  rw [if_pos (nI_ne0 p1 (by omega)), pk_div (by omega) p1 (by omega), show nI (n / 10 ^ j) - nI (n / 10 ^ j) / 10 * 10 = nI (n / 10 ^ j % 10) from pk_rem (d := 10) hd (by decide) (by decide), show (48 : Int32) + nI (n / 10 ^ j % 10) = nI (48 + n / 10 ^ j % 10) from nI_add 48 _, a1, Option.bind_some, show nI (10 ^ j) / 10 = nI (10 ^ j / 10) from pk_div (d := 10) (by omega) (by decide) (by decide)]
theorem tz_digD {n k cap mo bg : Nat} {ts : List (List Nat)} (hk : uTx k cap mo) (hn : n < 100000) : ∀ (j m : Nat) (s : uS) (cur : List Nat), j ≤ 9 → (10 ^ j ≤ n ∨ j = 0) → cTz s k cap mo ts bg cur → bg + cur.length + j < cap → ∃ s1 : uS, fn_X9_putNumber_3 (m + 2 + j) k (nI n) (nI (10 ^ j)) s = some s1 ∧ cTz s1 k cap mo ts bg (cur ++ dl n j) ∧ out (tI k) (tF k) s s1 := by
  intro j
  induction j with
  | zero =>
    intro m s cur hj hc h hb
    obtain ⟨s1, a1, a2, a3⟩ := tz_dig1 (j := 0) hk hn (by omega) h (by omega) (fn_X9_putNumber_3 (m + 1))
    have e0 : fn_X9_putNumber_3 (m + 1) k (nI n) (nI (10 ^ 0 / 10)) s1 = some s1 := by
      unfold fn_X9_putNumber_3 fb_X9_putNumber_3
      exact if_pos (by decide)
    refine ⟨s1, ?_, ?_, a3⟩
    · show fb_X9_putNumber_3 (fn_X9_putNumber_3 (m + 1)) _ _ _ _ = _
      unfold fb_X9_putNumber_3
      rw [if_neg (show ¬ nI (10 ^ 0) ≤ 0 by decide)]
      by_cases c : nI (10 ^ 0) ≤ nI n
      · rw [if_pos c, a1]; exact e0
      · rw [if_neg c, if_pos (show nI (10 ^ 0) = 1 from rfl), a1]; exact e0
    · rw [Nat.pow_zero, Nat.div_one] at a2
      exact a2
  | succ j ih =>
    intro m s cur hj hc h hb
    obtain ⟨p1, p2⟩ := p10_l9 hj
    have hle : 10 ^ (j + 1) ≤ n := hc.elim id (fun e => by omega)
    obtain ⟨s1, a1, a2, a3⟩ := tz_dig1 (j := j + 1) hk hn hj h (by omega) (fn_X9_putNumber_3 (m + 2 + j))
    have hpj : 10 ^ (j + 1) / 10 = 10 ^ j := by rw [Nat.pow_succ, Nat.mul_div_cancel _ (by decide)]
    have hpl : 10 ^ j ≤ 10 ^ (j + 1) := Nat.pow_le_pow_right (by decide) (by omega)
    obtain ⟨s2, b1, b2, b3⟩ := ih m s1 _ (by omega) (Or.inl (by omega)) a2 (by rw [List.length_append]; simp; omega)
    refine ⟨s2, ?_, ?_, out_t a3 b3⟩
    · show fb_X9_putNumber_3 (fn_X9_putNumber_3 (m + 2 + j)) _ _ _ _ = _
      unfold fb_X9_putNumber_3
      rw [if_neg (nI_nle p1 (by omega)), if_pos (nI_le hle (by omega)), a1, hpj]
      exact b1
    · rw [List.append_assoc] at b2; exact b2
theorem tz_digC {n k cap mo bg : Nat} {ts : List (List Nat)} (hk : uTx k cap mo) (hn : n < 100000) : ∀ (j m : Nat) (s : uS) (cur : List Nat), j ≤ 9 → cTz s k cap mo ts bg cur → bg + cur.length + j < cap → ∃ s1 : uS, fn_X9_putNumber_3 (m + 2 + j) k (nI n) (nI (10 ^ j)) s = some s1 ∧ cTz s1 k cap mo ts bg (cur ++ cd n j) ∧ out (tI k) (tF k) s s1 := by
  intro j
  induction j with
  | zero => intro m s cur hj h hb; exact tz_digD hk hn 0 m s cur hj (Or.inr rfl) h hb
  | succ j ih =>
    intro m s cur hj h hb
    unfold cd
    by_cases c : 10 ^ (j + 1) ≤ n
    · rw [if_pos c]; exact tz_digD hk hn (j + 1) m s cur hj (Or.inl c) h hb
    · rw [if_neg c]
      obtain ⟨p1, p2⟩ := p10_l9 hj
      obtain ⟨q1, q2⟩ := p10_l9 (show j ≤ 9 by omega)
      have hpj : 10 ^ (j + 1) / 10 = 10 ^ j := by rw [Nat.pow_succ, Nat.mul_div_cancel _ (by decide)]
      have hps : 10 ^ (j + 1) = 10 * 10 ^ j := by rw [Nat.pow_succ, Nat.mul_comm]
      obtain ⟨s1, a1, a2⟩ := ih m s cur (by omega) h (by omega)
      refine ⟨s1, ?_, a2⟩
      show fb_X9_putNumber_3 (fn_X9_putNumber_3 (m + 2 + j)) _ _ _ _ = _
      unfold fb_X9_putNumber_3
      rw [if_neg (nI_nle p1 (by omega)), if_neg (nI_ge (by omega) (by omega)), if_neg (show ¬ nI (10 ^ (j + 1)) = 1 from nI_ne (b := 1) (by omega) (by decide) (by omega)), show nI (10 ^ (j + 1)) / 10 = nI (10 ^ (j + 1) / 10) from pk_div (d := 10) (by omega) (by decide) (by decide), hpj]
      exact a1
theorem cd9 {n : Nat} (h : n < 100000) : cd n 9 = dl n (hp n) := by
  rw [← cd_hp h]
  have st : ∀ j : Nat, 4 ≤ j → cd n (j + 1) = cd n j := by
    intro j hj
    have : 10 ^ 5 ≤ 10 ^ (j + 1) := Nat.pow_le_pow_right (by decide) (by omega)
    show (if 10 ^ (j + 1) ≤ n then _ else _) = _
    rw [if_neg (by omega)]
  rw [st 8 (by omega), st 7 (by omega), st 6 (by omega), st 5 (by omega), st 4 (by omega)]
theorem tz_putNumber {n k cap mo bg : Nat} {ts : List (List Nat)} {cur : List Nat} {s : uS} (hk : uTx k cap mo) (hn : n < 100000) (h : cTz s k cap mo ts bg cur) (hb : bg + cur.length + 9 < cap) : ∃ s1 : uS, fn_X9_putNumber k (nI n) s = some s1 ∧ cTz s1 k cap mo ts bg (cur ++ dl n (hp n)) ∧ out (tI k) (tF k) s s1 := by
  rw [← cd9 hn]
  exact tz_digC hk hn 9 999989 s cur (Nat.le_refl _) h hb
/-- a count against the keys -/
def ctB (r n : Nat) (ks : List (List Nat)) (f a : Nat) : Bool := anyB (fun k => stN r (nmC (dl n (hp n)) (ks.getD (f + k) []))) a 0
theorem c_isCnt {s : uS} {nd r f a bg bg2 : Nat} {vs ts : List (List Nat)} (hr : s.I nd 7 = nI r) (hr6 : r < 6) (hnd : nd ≠ 1066 ∧ nd + 2 < 1060) (hv : cTz s 1062 4400 1001 vs bg []) (hs : cTz s 8 2000 301 ts bg2 []) (h1 : iget 20 s (nd + 1) 1 = some (nI f)) (h2 : iget 20 s (nd + 2) 1 = some (nI a)) (hf : f + a ≤ ts.length) : ∃ s1 : uS, fn_X6_isCount nd s = some (s1, ctB r vs.length ts f a) ∧ out (tI 1066) (tF 1066) s s1 := by
  have q1 := hv.2.1
  have q2 := hs.2.1
  unfold fn_X6_isCount
  obtain ⟨s1, a1, a2, a3⟩ := tz_clearO 1066 10 1 s
  obtain ⟨s2, b1, b2, b3⟩ := tz_putNumber (n := vs.length) uTx_fc (by omega) a2 (by simp)
  obtain ⟨s3, c1, c2, c3⟩ := tz_closeO uTx_fc b2 (by simp)
  have o := out_t a3 (out_t b3 c3)
  have e1 : s1.I 1062 3 = nI vs.length := (a3.2.1 _ _ (by unfold tI; omega)).trans hv.1
  rw [a1, Option.bind_some, e1, b1, Option.bind_some, c1, Option.bind_some]
  refine ⟨s3, ?_, o⟩
  have fr : ∀ (k : Nat) (x v : Int32), k < 1060 → iget 20 s k x = some v → iget 20 s3 k x = some v := by
    intro k x v hk h
    unfold iget uIs uOk uIn uCl at *
    rw [o.1.1, o.1.2.2.2.2.1, show s3.F k = s.F k from funext fun f => o.2.2 k f (by unfold tF; omega)]
    exact h
  have hs3 : cTz s3 8 2000 301 ts bg2 [] := hs.fr (o.2.1 _ _ (by unfold tI; omega)) (o.2.1 _ _ (by unfold tI; omega)) (o.2.1 _ _ (by unfold tI; omega)) (funext fun f => o.2.2 _ _ (by unfold tF; omega)) (funext fun f => o.2.2 _ _ (by unfold tF; omega)) (funext fun f => o.2.2 _ _ (by unfold tF; omega))
  unfold ctB
  refine any0 (F := fun n x => fn_X6_isCount_30 n nd x s3) (p := fun k => stN r (nmC (dl vs.length (hp vs.length)) (ts.getD (f + k) []))) (fin := fun b => some (s3, b)) (L := a) (fun n k hk => ?_) (by show _ < 1000000; omega)
  show fb_X6_isCount_30 (fn_X6_isCount_30 n) nd (nI k) s3 = _
  unfold fb_X6_isCount_30
  rw [fr _ _ _ (by omega) h2, Option.bind_some]
  by_cases y : a ≤ k
  · rw [if_pos (nI_le y (by omega)), if_pos y]
  · rw [if_neg (nI_ge (by omega) (by omega)), if_neg y, fr _ _ _ (by omega) h1, Option.bind_some, nI_add]
    obtain ⟨v, v1, v2⟩ := c_ordN (tz_rx uTx_fc c2 (i := 0) (by simp)) (tz_rx uTx_str hs3 (i := f + k) (by omega))
    rw [show fn_X3_orderOfNumbers 1066 0 8 (nI (f + k)) s3 = some v from v1, Option.bind_some, c_stands (r := r) ((o.2.1 _ _ (by unfold tI; omega)).trans hr) hr6 v2, Option.bind_some, nI_1]
    rfl
