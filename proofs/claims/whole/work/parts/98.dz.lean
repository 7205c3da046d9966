/-! comparing numbers on both sides -/
def dgn : List Nat → Nat
  | [] => 0
  | c :: cs => if 48 ≤ c ∧ c ≤ 57 then dgn cs + 1 else 0
def zrn : Nat → List Nat → Nat
  | 0, _ => 0
  | _ + 1, [] => 0
  | n + 1, c :: cs => if c = 48 then zrn n cs + 1 else 0
def cmpZ (x y : List Nat) : Nat := if x.length = y.length then cmpB x y else if x.length < y.length then 0 else 2
def nmC (a b : List Nat) : Nat := if dgn a = 0 ∨ dgn b = 0 then (if dgn a = 0 then (if dgn b = 0 then 1 else 2) else 0) else cmpZ ((a.take (dgn a)).drop (zrn (dgn a) a)) ((b.take (dgn b)).drop (zrn (dgn b) b))
theorem dgn_le : ∀ a : List Nat, dgn a ≤ a.length
  | [] => Nat.le_refl _
  | c :: cs => by
    unfold dgn
    have := dgn_le cs
    split <;> simp only [List.length_cons] <;> omega
theorem zrn_le : ∀ (n : Nat) (a : List Nat), zrn n a ≤ n
  | 0, _ => Nat.le_refl _
  | _ + 1, [] => Nat.zero_le _
  | n + 1, c :: cs => by
    unfold zrn
    have := zrn_le n cs
    split <;> omega
theorem dgn_dig : ∀ (a : List Nat) (j : Nat), j < dgn a → 48 ≤ a.getD j 0 ∧ a.getD j 0 ≤ 57
  | [], j, h => by unfold dgn at h; omega
  | c :: cs, j, h => by
    unfold dgn at h
    by_cases z : 48 ≤ c ∧ c ≤ 57
    · rw [if_pos z] at h
      cases j with
      | zero => exact z
      | succ j => exact dgn_dig cs j (by omega)
    · rw [if_neg z] at h; omega
theorem c_dgn {s : uS} {k i : Nat} {a : List Nat} (h1 : rx s k i a) : ∃ fr : Nat, iget 20 s (k + 2) (nI i) = some (nI fr) ∧ fn_X3_digitsEnd k (nI i) s = some (nI (fr + dgn a)) ∧ rdC s (k + 1) fr a ∧ fr + a.length ≤ 10000 := by
  obtain ⟨f1, a1, a2, a3, a4, a5⟩ := h1
  refine ⟨f1, a1, ?_, a3, a5⟩
  have main : ∀ (d n p : Nat), p + d = a.length → d + 1 ≤ n → fn_X3_digitsEnd_7 n k (nI i) (nI (f1 + p)) s = some (nI (f1 + (p + dgn (a.drop p)))) := by
    intro d
    induction d with
    | zero =>
      intro n p hp hn
      obtain ⟨n1, rfl⟩ : ∃ n1, n = n1 + 1 := ⟨n - 1, by omega⟩
      show fb_X3_digitsEnd_7 _ k (nI i) (nI (f1 + p)) s = _
      unfold fb_X3_digitsEnd_7
      rw [a2, Option.bind_some, if_pos (nI_le (by omega) (by omega)), List.drop_of_length_le (by omega)]; rfl
    | succ d ih =>
      intro n p hp hn
      obtain ⟨n1, rfl⟩ : ∃ n1, n = n1 + 1 := ⟨n - 1, by omega⟩
      show fb_X3_digitsEnd_7 (fn_X3_digitsEnd_7 n1) k (nI i) (nI (f1 + p)) s = _
      unfold fb_X3_digitsEnd_7
      have hb := a3.2.1 p
      rw [a2, Option.bind_some, if_neg (nI_ge (by omega) (by omega)), a3.2.2 p (by omega), Option.bind_some, Option.bind_some, drop_c (by omega)]
      unfold dgn
      by_cases z : 48 ≤ a.getD p 0 ∧ a.getD p 0 ≤ 57
      · rw [if_pos z, if_neg (show ¬ sb (a.getD p 0) < 48 from fun y => by have y' : sb (a.getD p 0) < nI 48 := y; rw [sb_lt hb (by decide)] at y'; omega), if_neg (show ¬ 57 < sb (a.getD p 0) from fun y => by have y' : ¬ sb (a.getD p 0) ≤ nI 57 := Int32.not_le.mpr y; rw [sb_le hb (by decide)] at y'; omega), nI_1, show f1 + p + 1 = f1 + (p + 1) by omega, ih n1 (p + 1) (by omega) (by omega)]
        congr 2; omega
      · rw [if_neg z]
        by_cases y : sb (a.getD p 0) < nI 48
        · rw [if_pos (show sb (a.getD p 0) < 48 from y)]; rfl
        · rw [if_neg (show ¬ sb (a.getD p 0) < 48 from y), if_pos (show 57 < sb (a.getD p 0) from Int32.not_le.mp (fun w => by have w' : sb (a.getD p 0) ≤ nI 57 := w; rw [sb_le hb (by decide)] at w'; rw [sb_lt hb (by decide)] at y; omega))]; rfl
  unfold fn_X3_digitsEnd
  rw [a1, Option.bind_some]
  have := main a.length 1000000 0 (by omega) (by omega)
  rw [List.drop_zero, Nat.zero_add, Nat.add_zero] at this
  exact this
theorem zr_at {n p : Nat} {a : List Nat} (hp : p < n) (ha : n ≤ a.length) : zrn (n - p) (a.drop p) = if a.getD p 0 = 48 then zrn (n - (p + 1)) (a.drop (p + 1)) + 1 else 0 := by
  rw [drop_c (by omega), show n - p = (n - (p + 1)) + 1 by omega]; rfl
theorem cmpB_q {x y : List Nat} {p q : Nat} (hx : p < x.length) (hy : q < y.length) : cmpB (x.drop p) (y.drop q) = if x.getD p 0 = y.getD q 0 then cmpB (x.drop (p + 1)) (y.drop (q + 1)) else if x.getD p 0 < y.getD q 0 then 0 else 2 := by
  rw [drop_c hx, drop_c hy]; rfl
theorem tk_g {a : List Nat} {n p : Nat} (h : p < n) : (a.take n).getD p 0 = a.getD p 0 := by
  rw [List.getD_eq_getElem?_getD, List.getD_eq_getElem?_getD, List.getElem?_take, if_pos h]
theorem c_ordN {s : uS} {k0 k2 i j : Nat} {a b : List Nat} (h1 : rx s k0 i a) (h2 : rx s k2 j b) : ∃ v : Int32, fn_X3_orderOfNumbers k0 (nI i) k2 (nI j) s = some v ∧ cI v (nmC a b) := by
  obtain ⟨f1, a1, a2, a3, a5⟩ := c_dgn h1
  obtain ⟨f2, b1, b2, b3, b5⟩ := c_dgn h2
  have la := dgn_le a
  have lb := dgn_le b
  have w178 : ∀ (p q : Nat), p ≤ dgn a → q ≤ dgn b → dgn a - p = dgn b - q → (p < dgn a → a.getD p 0 ≠ b.getD q 0) → ∃ v : Int32, fb_X3_orderOfNumbers_178 k0 k2 (nI (f1 + p)) (nI (f2 + q)) (nI (f1 + dgn a)) (nI (f2 + dgn b)) 0 s = some v ∧ cI v (cmpB ((a.take (dgn a)).drop p) ((b.take (dgn b)).drop q)) := by
    intro p q hp hq he hne
    unfold fb_X3_orderOfNumbers_178
    rw [if_pos rfl]
    by_cases z : p = dgn a
    · rw [if_pos (nI_le (by omega) (by omega)), List.drop_of_length_le (by rw [List.length_take]; omega), List.drop_of_length_le (by rw [List.length_take]; omega)]
      exact ⟨_, rfl, Or.inr (Or.inl ⟨rfl, rfl⟩)⟩
    · have ha := a3.2.1 p
      have hb := b3.2.1 q
      have da := dgn_dig a p (by omega)
      have db := dgn_dig b q (by omega)
      rw [if_neg (nI_ge (by omega) (by omega)), if_pos (nI_lt (by omega) (by omega)), a3.2.2 p (by omega), Option.bind_some, b3.2.2 q (by omega), Option.bind_some, sb_nI (by omega), sb_nI (by omega)]
      refine ⟨_, rfl, ?_⟩
      have hn := hne (by omega)
      rw [cmpB_q (by rw [List.length_take]; omega) (by rw [List.length_take]; omega), tk_g (by omega), tk_g (by omega), if_neg hn]
      have := cI_sub (a := a.getD p 0) (b := b.getD q 0) (by omega) (by omega)
      rw [if_neg hn] at this
      exact this
  have w133 : ∀ (d n p q : Nat), p + d = dgn a → q + d = dgn b → d + 1 ≤ n → ∃ v : Int32, fn_X3_orderOfNumbers_133 n k0 k2 (nI (f1 + p)) (nI (f2 + q)) (nI (f1 + dgn a)) (nI (f2 + dgn b)) 0 s = some v ∧ cI v (cmpB ((a.take (dgn a)).drop p) ((b.take (dgn b)).drop q)) := by
    intro d
    induction d with
    | zero =>
      intro n p q hp hq hn
      obtain ⟨n1, rfl⟩ : ∃ n1, n = n1 + 1 := ⟨n - 1, by omega⟩
      show ∃ v : Int32, fb_X3_orderOfNumbers_133 _ k0 k2 (nI (f1 + p)) (nI (f2 + q)) (nI (f1 + dgn a)) (nI (f2 + dgn b)) 0 s = some v ∧ _
      unfold fb_X3_orderOfNumbers_133
      rw [if_pos rfl, if_pos (nI_le (by omega) (by omega))]
      exact w178 p q (by omega) (by omega) (by omega) (fun z => by omega)
    | succ d ih =>
      intro n p q hp hq hn
      obtain ⟨n1, rfl⟩ : ∃ n1, n = n1 + 1 := ⟨n - 1, by omega⟩
      show ∃ v : Int32, fb_X3_orderOfNumbers_133 (fn_X3_orderOfNumbers_133 n1) k0 k2 (nI (f1 + p)) (nI (f2 + q)) (nI (f1 + dgn a)) (nI (f2 + dgn b)) 0 s = some v ∧ _
      unfold fb_X3_orderOfNumbers_133
      have ha := a3.2.1 p
      have hb := b3.2.1 q
      rw [if_pos rfl, if_neg (nI_ge (by omega) (by omega)), if_neg (nI_ge (by omega) (by omega)), a3.2.2 p (by omega), Option.bind_some, b3.2.2 q (by omega), Option.bind_some]
      by_cases z : a.getD p 0 = b.getD q 0
      · rw [if_pos (by rw [z]), nI_1, nI_1, cmpB_q (by rw [List.length_take]; omega) (by rw [List.length_take]; omega), tk_g (by omega), tk_g (by omega), if_pos z]
        exact ih n1 (p + 1) (q + 1) (by omega) (by omega) (by omega)
      · rw [if_neg (fun y => z ((sb_inj ha hb).mp y))]
        exact w178 p q (by omega) (by omega) (by omega) (fun _ => z)
  have w120 : ∀ (p q : Nat), p ≤ dgn a → q ≤ dgn b → ∃ v : Int32, fb_X3_orderOfNumbers_120 k0 k2 (nI (f1 + p)) (nI (f2 + q)) (nI (f1 + dgn a)) (nI (f2 + dgn b)) s = some v ∧ cI v (cmpZ ((a.take (dgn a)).drop p) ((b.take (dgn b)).drop q)) := by
    intro p q hp hq
    unfold fb_X3_orderOfNumbers_120 cmpZ
    rw [nI_sub (by omega), nI_sub (by omega), List.length_drop, List.length_drop, List.length_take, List.length_take, show min (dgn a) a.length = dgn a by omega, show min (dgn b) b.length = dgn b by omega, show f1 + dgn a - (f1 + p) = dgn a - p by omega, show f2 + dgn b - (f2 + q) = dgn b - q by omega]
    by_cases z : dgn a - p = dgn b - q
    · rw [z, nI_sub (Nat.le_refl _), Nat.sub_self, if_pos rfl]
      exact w133 (dgn a - p) 1000000 p q (by omega) (by omega) (by omega)
    · rw [if_neg z]
      have hc := cI_sub (a := dgn a - p) (b := dgn b - q) (by omega) (by omega)
      rw [if_neg z] at hc
      have hnz : ¬ nI (dgn a - p) - nI (dgn b - q) = 0 := fun y => by have := (cI_z hc).1.mp y; split at this <;> omega
      refine ⟨nI (dgn a - p) - nI (dgn b - q), ?_, hc⟩
      show fb_X3_orderOfNumbers_133 _ k0 k2 _ _ _ _ _ s = _
      unfold fb_X3_orderOfNumbers_133 fb_X3_orderOfNumbers_178
      rw [if_neg hnz, if_neg hnz]
  have w95 : ∀ (d n p q : Nat), p ≤ dgn a → q + d = dgn b → d + 1 ≤ n → ∃ v : Int32, fn_X3_orderOfNumbers_95 n k0 k2 (nI (f1 + p)) (nI (f2 + q)) (nI (f1 + dgn a)) (nI (f2 + dgn b)) s = some v ∧ cI v (cmpZ ((a.take (dgn a)).drop p) ((b.take (dgn b)).drop (q + zrn (dgn b - q) (b.drop q)))) := by
    intro d
    induction d with
    | zero =>
      intro n p q hp hq hn
      obtain ⟨n1, rfl⟩ : ∃ n1, n = n1 + 1 := ⟨n - 1, by omega⟩
      show ∃ v : Int32, fb_X3_orderOfNumbers_95 _ k0 k2 (nI (f1 + p)) (nI (f2 + q)) (nI (f1 + dgn a)) (nI (f2 + dgn b)) s = some v ∧ _
      unfold fb_X3_orderOfNumbers_95
      rw [if_pos (nI_le (by omega) (by omega)), show dgn b - q = 0 by omega]
      exact w120 p q hp (by omega)
    | succ d ih =>
      intro n p q hp hq hn
      obtain ⟨n1, rfl⟩ : ∃ n1, n = n1 + 1 := ⟨n - 1, by omega⟩
      show ∃ v : Int32, fb_X3_orderOfNumbers_95 (fn_X3_orderOfNumbers_95 n1) k0 k2 (nI (f1 + p)) (nI (f2 + q)) (nI (f1 + dgn a)) (nI (f2 + dgn b)) s = some v ∧ _
      unfold fb_X3_orderOfNumbers_95
      have hb := b3.2.1 q
      rw [if_neg (nI_ge (by omega) (by omega)), b3.2.2 q (by omega), Option.bind_some, zr_at (by omega) lb]
      by_cases z : b.getD q 0 = 48
      · rw [if_pos (show sb (b.getD q 0) = 48 from (sb_e hb (by decide)).mpr z), nI_1, if_pos z, show q + (zrn (dgn b - (q + 1)) (b.drop (q + 1)) + 1) = q + 1 + zrn (dgn b - (q + 1)) (b.drop (q + 1)) by omega]
        exact ih n1 p (q + 1) hp (by omega) (by omega)
      · rw [if_neg (show ¬ sb (b.getD q 0) = 48 from fun y => z ((sb_e hb (by decide)).mp y)), if_neg z]
        exact w120 p q hp (by omega)
  have w70 : ∀ (d n p : Nat), p + d = dgn a → d + 1 ≤ n → ∃ v : Int32, fn_X3_orderOfNumbers_70 n k0 k2 (nI (f1 + p)) (nI f2) (nI (f1 + dgn a)) (nI (f2 + dgn b)) s = some v ∧ cI v (cmpZ ((a.take (dgn a)).drop (p + zrn (dgn a - p) (a.drop p))) ((b.take (dgn b)).drop (zrn (dgn b) b))) := by
    intro d
    induction d with
    | zero =>
      intro n p hp hn
      obtain ⟨n1, rfl⟩ : ∃ n1, n = n1 + 1 := ⟨n - 1, by omega⟩
      show ∃ v : Int32, fb_X3_orderOfNumbers_70 _ k0 k2 (nI (f1 + p)) (nI f2) (nI (f1 + dgn a)) (nI (f2 + dgn b)) s = some v ∧ _
      unfold fb_X3_orderOfNumbers_70
      rw [if_pos (nI_le (by omega) (by omega)), show dgn a - p = 0 by omega]
      have := w95 (dgn b) 1000000 p 0 (by omega) (by omega) (by omega)
      rw [Nat.zero_add, Nat.sub_zero, List.drop_zero, Nat.add_zero] at this
      exact this
    | succ d ih =>
      intro n p hp hn
      obtain ⟨n1, rfl⟩ : ∃ n1, n = n1 + 1 := ⟨n - 1, by omega⟩
      show ∃ v : Int32, fb_X3_orderOfNumbers_70 (fn_X3_orderOfNumbers_70 n1) k0 k2 (nI (f1 + p)) (nI f2) (nI (f1 + dgn a)) (nI (f2 + dgn b)) s = some v ∧ _
      unfold fb_X3_orderOfNumbers_70
      have ha := a3.2.1 p
      rw [if_neg (nI_ge (by omega) (by omega)), a3.2.2 p (by omega), Option.bind_some, zr_at (by omega) la]
      by_cases z : a.getD p 0 = 48
      · rw [if_pos (show sb (a.getD p 0) = 48 from (sb_e ha (by decide)).mpr z), nI_1, if_pos z, show p + (zrn (dgn a - (p + 1)) (a.drop (p + 1)) + 1) = p + 1 + zrn (dgn a - (p + 1)) (a.drop (p + 1)) by omega]
        exact ih n1 (p + 1) (by omega) (by omega)
      · rw [if_neg (show ¬ sb (a.getD p 0) = 48 from fun y => z ((sb_e ha (by decide)).mp y)), if_neg z]
        have := w95 (dgn b) 1000000 p 0 (by omega) (by omega) (by omega)
        rw [Nat.zero_add, Nat.sub_zero, List.drop_zero, Nat.add_zero] at this
        exact this
  unfold fn_X3_orderOfNumbers nmC
  rw [a1, Option.bind_some, b1, Option.bind_some, a2, Option.bind_some, b2, Option.bind_some]
  unfold fb_X3_orderOfNumbers_44 fb_X3_orderOfNumbers_56
  by_cases za : dgn a = 0
  · rw [if_pos (by rw [za]; rfl), if_pos (Or.inl za), if_pos za, if_pos (by rw [za]; rfl)]
    by_cases zb : dgn b = 0
    · rw [if_pos (by rw [zb]; rfl), if_pos zb]; exact ⟨_, rfl, Or.inr (Or.inl ⟨rfl, by decide⟩)⟩
    · rw [if_neg (nI_ne (by omega) (by omega) (by omega)), if_neg zb]; exact ⟨_, rfl, Or.inr (Or.inr ⟨rfl, by decide⟩)⟩
  · rw [if_neg (nI_ne (by omega) (by omega) (by omega))]
    by_cases zb : dgn b = 0
    · rw [if_pos (by rw [zb]; rfl), if_pos (Or.inr zb), if_neg za, if_neg (nI_ne (by omega) (by omega) (by omega)), if_pos (by rw [zb]; rfl)]; exact ⟨_, rfl, Or.inl ⟨rfl, by decide⟩⟩
    · rw [if_neg (nI_ne (by omega) (by omega) (by omega)), if_neg (by rintro (y | y); exact za y; exact zb y)]
      have := w70 (dgn a) 1000000 0 (by omega) (by omega)
      rw [Nat.zero_add, Nat.sub_zero, List.drop_zero, Nat.add_zero] at this
      exact this
