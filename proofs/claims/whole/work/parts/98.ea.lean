/-! comparing numbers: the reference -/
theorem r_isDig {t : uS} {c : Nat} (hc : c < 2 ^ 31) : fn_X12_isDigit (nI c) t = some (decide (48 ≤ c ∧ c ≤ 57)) := by
  unfold fn_X12_isDigit
  by_cases z : c < 48
  · rw [if_pos (show nI c < 48 from nI_lt (b := 48) z (by decide)), decide_eq_false (by omega)]
  · rw [if_neg (show ¬ nI c < 48 from nI_nlt (b := 48) (by omega) (by omega))]
    by_cases y : 57 < c
    · rw [if_pos (show 57 < nI c from nI_lt (a := 57) y (by omega)), decide_eq_false (by omega)]
    · rw [if_neg (show ¬ 57 < nI c from nI_nlt (a := 57) (by omega) (by decide)), decide_eq_true (by omega)]
theorem r_dgn {t : uS} {a : List Nat} {b2 : Bool} (hl : a.length ≤ 4100) (h8 : bys a) (hg : ∀ j : Nat, j < a.length → (if b2 = true then iget 20 t 1094 (nI j) else iget 20 t 1093 (nI j)) = some (nI (a.getD j 0))) : fn_X12_digitsOf (nI a.length) b2 t = some (nI (dgn a)) := by
  have main : ∀ (d n p : Nat), p + d = a.length → d + 1 ≤ n → fn_X12_digitsOf_2 n (nI a.length) b2 (nI p) t = some (nI (p + dgn (a.drop p))) := by
    intro d
    induction d with
    | zero =>
      intro n p hp hn
      obtain ⟨n1, rfl⟩ : ∃ n1, n = n1 + 1 := ⟨n - 1, by omega⟩
      show fb_X12_digitsOf_2 _ (nI a.length) b2 (nI p) t = _
      unfold fb_X12_digitsOf_2
      rw [if_pos (nI_le (by omega) (by omega)), List.drop_of_length_le (by omega)]; rfl
    | succ d ih =>
      intro n p hp hn
      obtain ⟨n1, rfl⟩ : ∃ n1, n = n1 + 1 := ⟨n - 1, by omega⟩
      show fb_X12_digitsOf_2 (fn_X12_digitsOf_2 n1) (nI a.length) b2 (nI p) t = _
      have hb := h8 p
      have e : fb_X12_digitsOf_2 (fn_X12_digitsOf_2 n1) (nI a.length) b2 (nI p) t = fb_X12_digitsOf_26 (fn_X12_digitsOf_2 n1) (nI a.length) b2 (nI p) (nI (a.getD p 0)) t := by
        unfold fb_X12_digitsOf_2
        have := hg p (by omega)
        rw [if_neg (nI_ge (by omega) (by omega))]
        cases b2 with
        | true => rw [if_pos rfl] at this ⊢; rw [this, Option.bind_some]
        | false => rw [if_neg (by decide)] at this ⊢; rw [this, Option.bind_some]
      rw [e]
      unfold fb_X12_digitsOf_26
      rw [r_isDig (by omega), Option.bind_some, drop_c (by omega)]
      unfold dgn
      by_cases z : 48 ≤ a.getD p 0 ∧ a.getD p 0 ≤ 57
      · rw [decide_eq_true z, if_pos rfl, if_pos z, nI_1, ih n1 (p + 1) (by omega) (by omega)]
        congr 2; omega
      · rw [decide_eq_false z, if_neg (by decide), if_neg z]; rfl
  have := main a.length 1000000 0 (by omega) (by omega)
  rw [List.drop_zero, Nat.zero_add] at this
  exact this
theorem zrn_get : ∀ (n : Nat) (a : List Nat) (j : Nat), j < zrn n a → a.getD j 0 = 48
  | 0, _, j, h => by unfold zrn at h; omega
  | _ + 1, [], j, h => by unfold zrn at h; omega
  | n + 1, c :: cs, j, h => by
    unfold zrn at h
    by_cases z : c = 48
    · rw [if_pos z] at h
      cases j with
      | zero => exact z
      | succ j => exact zrn_get n cs j (by omega)
    · rw [if_neg z] at h; omega
theorem zrn_stop : ∀ (n : Nat) (a : List Nat), n ≤ a.length → zrn n a < n → a.getD (zrn n a) 0 ≠ 48
  | 0, _, _, h => by omega
  | _ + 1, [], h, _ => by simp at h
  | n + 1, c :: cs, hl, h => by
    unfold zrn at h ⊢
    by_cases z : c = 48
    · rw [if_pos z] at h ⊢
      exact zrn_stop n cs (by simpa using hl) (by omega)
    · rw [if_neg z]; exact z
theorem zrn_1 : ∀ (n : Nat) (a : List Nat), n + 1 ≤ a.length → zrn n a = if zrn (n + 1) a = n + 1 then n else zrn (n + 1) a
  | 0, [], h => by simp at h
  | 0, c :: cs, _ => by
    unfold zrn zrn
    by_cases z : c = 48
    · rw [if_pos z, if_pos rfl]
    · rw [if_neg z, if_neg (by omega)]
  | n + 1, [], h => by simp at h
  | n + 1, c :: cs, h => by
    have ih := zrn_1 n cs (by simpa using h)
    show (if c = 48 then zrn n cs + 1 else 0) = if (if c = 48 then zrn (n + 1) cs + 1 else 0) = n + 1 + 1 then n + 1 else (if c = 48 then zrn (n + 1) cs + 1 else 0)
    by_cases z : c = 48
    · rw [if_pos z, if_pos z, ih]
      by_cases y : zrn (n + 1) cs = n + 1
      · rw [if_pos y, if_pos (by omega)]
      · rw [if_neg y, if_neg (by omega)]
    · rw [if_neg z, if_neg z, if_neg (by omega)]
/-- one zero is kept, or none: it is the same -/
theorem nm_alt {a b : List Nat} (ha : dgn a ≠ 0) (hb : dgn b ≠ 0) : cmpZ ((a.take (dgn a)).drop (zrn (dgn a - 1) a)) ((b.take (dgn b)).drop (zrn (dgn b - 1) b)) = cmpZ ((a.take (dgn a)).drop (zrn (dgn a) a)) ((b.take (dgn b)).drop (zrn (dgn b) b)) := by
  have key : ∀ a : List Nat, dgn a ≠ 0 → ∃ X X' : List Nat, (a.take (dgn a)).drop (zrn (dgn a) a) = X ∧ (a.take (dgn a)).drop (zrn (dgn a - 1) a) = X' ∧ ((X = [] ∧ X' = [48]) ∨ (X' = X ∧ ∃ c cs, X = c :: cs ∧ 48 < c)) := by
    intro a ha
    have la := dgn_le a
    refine ⟨_, _, rfl, rfl, ?_⟩
    have e := zrn_1 (dgn a - 1) a (by omega)
    rw [show dgn a - 1 + 1 = dgn a by omega] at e
    have lz := zrn_le (dgn a) a
    by_cases z : zrn (dgn a) a = dgn a
    · rw [if_pos z] at e
      refine Or.inl ⟨List.drop_of_length_le (by rw [List.length_take]; omega), ?_⟩
      rw [e, drop_c (by rw [List.length_take]; omega), tk_g (by omega), zrn_get (dgn a) a (dgn a - 1) (by omega), List.drop_of_length_le (by rw [List.length_take]; omega)]
    · rw [if_neg z] at e
      refine Or.inr ⟨by rw [e], ?_⟩
      have hd := dgn_dig a (zrn (dgn a) a) (by omega)
      have hs := zrn_stop (dgn a) a la (by omega)
      refine ⟨_, _, drop_c (by rw [List.length_take]; omega), ?_⟩
      rw [tk_g (by omega)]; omega
  obtain ⟨X, X', x1, x2, x3⟩ := key a ha
  obtain ⟨Y, Y', y1, y2, y3⟩ := key b hb
  rw [x1, x2, y1, y2]
  rcases x3 with ⟨x3, x4⟩ | ⟨x3, c, cs, x4, x5⟩
  · rcases y3 with ⟨y3, y4⟩ | ⟨y3, d, ds, y4, y5⟩
    · rw [x3, x4, y3, y4]; rfl
    · rw [x3, x4, y3, y4]
      unfold cmpZ
      simp only [List.length_cons, List.length_nil]
      by_cases z : ds.length = 0
      · rw [if_pos (by omega), if_neg (by omega), if_pos (by omega)]
        unfold cmpB
        rw [if_neg (by omega), if_pos y5]
      · rw [if_neg (by omega), if_pos (by omega), if_neg (by omega), if_pos (by omega)]
  · rcases y3 with ⟨y3, y4⟩ | ⟨y3, d, ds, y4, y5⟩
    · rw [x3, x4, y3, y4]
      unfold cmpZ
      simp only [List.length_cons, List.length_nil]
      by_cases z : cs.length = 0
      · rw [if_pos (by omega), if_neg (by omega), if_neg (by omega)]
        unfold cmpB
        rw [if_neg (by omega), if_neg (by omega)]
      · rw [if_neg (by omega), if_neg (by omega), if_neg (by omega), if_neg (by omega)]
    · rw [x3, y3]
theorem r_ordN {t : uS} {a b : List Nat} (h1 : r1 t a) (h2 : r2 t b) : ∃ v : Int32, fn_X12_numeric t = some v ∧ cI v (nmC a b) := by
  obtain ⟨a1, a2, a3, a4⟩ := h1
  obtain ⟨b1, b2, b3, b4⟩ := h2
  have la := dgn_le a
  have lb := dgn_le b
  have gA : ∀ j : Nat, j < a.length → iget 20 t 1093 (nI j) = some (nI (a.getD j 0)) := fun j hj => by rw [g_1093 (by omega), a4 j hj]
  have gB : ∀ j : Nat, j < b.length → iget 20 t 1094 (nI j) = some (nI (b.getD j 0)) := fun j hj => by rw [g_1094 (by omega), b4 j hj]
  have w138 : ∀ (d n x y k : Nat), x + k + d = dgn a → y + k + d = dgn b → d + 1 ≤ n → ∃ v : Int32, fn_X12_numeric_138 n (nI (dgn a)) (nI x) (nI y) (nI k) t = some v ∧ cI v (cmpB ((a.take (dgn a)).drop (x + k)) ((b.take (dgn b)).drop (y + k))) := by
    intro d
    induction d with
    | zero =>
      intro n x y k hx hy hn
      obtain ⟨n1, rfl⟩ : ∃ n1, n = n1 + 1 := ⟨n - 1, by omega⟩
      show ∃ v : Int32, fb_X12_numeric_138 _ (nI (dgn a)) (nI x) (nI y) (nI k) t = some v ∧ _
      unfold fb_X12_numeric_138
      rw [nI_sub (by omega), if_pos (nI_le (by omega) (by omega)), List.drop_of_length_le (by rw [List.length_take]; omega), List.drop_of_length_le (by rw [List.length_take]; omega)]
      exact ⟨_, rfl, Or.inr (Or.inl ⟨rfl, rfl⟩)⟩
    | succ d ih =>
      intro n x y k hx hy hn
      obtain ⟨n1, rfl⟩ : ∃ n1, n = n1 + 1 := ⟨n - 1, by omega⟩
      show ∃ v : Int32, fb_X12_numeric_138 (fn_X12_numeric_138 n1) (nI (dgn a)) (nI x) (nI y) (nI k) t = some v ∧ _
      unfold fb_X12_numeric_138
      have ha := a3 (x + k)
      have hb := b3 (y + k)
      rw [nI_sub (by omega), if_neg (nI_ge (by omega) (by omega)), nI_add, nI_add, gA _ (by omega), gB _ (by omega), Option.bind_some, Option.bind_some, Option.bind_some, Option.bind_some, cmpB_q (by rw [List.length_take]; omega) (by rw [List.length_take]; omega), tk_g (by omega), tk_g (by omega)]
      by_cases z : a.getD (x + k) 0 = b.getD (y + k) 0
      · rw [if_pos (by rw [z]), if_pos z, nI_1 k]
        exact ih n1 x y (k + 1) (by omega) (by omega) (by omega)
      · rw [if_neg (nI_ne (by omega) (by omega) z), if_neg z]
        by_cases w : a.getD (x + k) 0 < b.getD (y + k) 0
        · rw [if_neg (nI_ge w (by omega)), if_pos w]; exact ⟨_, rfl, Or.inl ⟨rfl, by decide⟩⟩
        · rw [if_pos (nI_le (by omega) (by omega)), if_neg w]; exact ⟨_, rfl, Or.inr (Or.inr ⟨rfl, by decide⟩)⟩
  have w109 : ∀ (x y : Nat), x ≤ dgn a → y ≤ dgn b → ∃ v : Int32, fb_X12_numeric_109 (nI (dgn a)) (nI (dgn b)) (nI x) (nI y) t = some v ∧ cI v (cmpZ ((a.take (dgn a)).drop x) ((b.take (dgn b)).drop y)) := by
    intro x y hx hy
    unfold fb_X12_numeric_109 cmpZ
    rw [nI_sub (by omega), nI_sub (by omega), List.length_drop, List.length_drop, List.length_take, List.length_take, show min (dgn a) a.length = dgn a by omega, show min (dgn b) b.length = dgn b by omega]
    by_cases z : dgn a - x = dgn b - y
    · rw [if_pos (by rw [z]), if_pos z]
      exact w138 (dgn a - x) 1000000 x y 0 (by omega) (by omega) (by omega)
    · rw [if_neg (nI_ne (by omega) (by omega) z), if_neg z]
      by_cases w : dgn a - x < dgn b - y
      · rw [if_neg (nI_ge w (by omega)), if_pos w]; exact ⟨_, rfl, Or.inl ⟨rfl, by decide⟩⟩
      · rw [if_pos (nI_le (by omega) (by omega)), if_neg w]; exact ⟨_, rfl, Or.inr (Or.inr ⟨rfl, by decide⟩)⟩
  unfold fn_X12_numeric nmC
  rw [a1, r_dgn a2 a3 (fun j hj => by rw [if_neg (by decide)]; exact gA j hj), Option.bind_some, b1, r_dgn (by omega) b3 (fun j hj => by rw [if_pos rfl]; exact gB j hj), Option.bind_some]
  unfold fb_X12_numeric_28 fb_X12_numeric_40
  by_cases za : dgn a = 0
  · have ea : nI (dgn a) = 0 := by rw [za]; rfl
    rw [if_pos ea, if_pos (Or.inl za), if_pos za, if_pos ea]
    by_cases zb : dgn b = 0
    · rw [if_pos (show nI (dgn b) = 0 by rw [zb]; rfl), if_pos zb]; exact ⟨_, rfl, Or.inr (Or.inl ⟨rfl, rfl⟩)⟩
    · rw [if_neg (show ¬ nI (dgn b) = 0 from nI_ne (b := 0) (by omega) (by decide) zb), if_neg zb, if_pos ea]; exact ⟨_, rfl, Or.inr (Or.inr ⟨rfl, by decide⟩)⟩
  · have ea : ¬ nI (dgn a) = 0 := nI_ne (b := 0) (by omega) (by decide) za
    rw [if_neg ea]
    by_cases zb : dgn b = 0
    · rw [if_pos (show nI (dgn b) = 0 by rw [zb]; rfl), if_pos (Or.inr zb), if_neg za, if_neg ea, if_neg ea]; exact ⟨_, rfl, Or.inl ⟨rfl, by decide⟩⟩
    · rw [if_neg (show ¬ nI (dgn b) = 0 from nI_ne (b := 0) (by omega) (by decide) zb), if_neg (by rintro (y | y); exact za y; exact zb y), ← nm_alt za zb]
      have w80 : ∀ (d n x y : Nat), x ≤ dgn a → y + d = dgn b - 1 → d + 1 ≤ n → ∃ v : Int32, fn_X12_numeric_80 n (nI (dgn a)) (nI (dgn b)) (nI x) (nI y) t = some v ∧ cI v (cmpZ ((a.take (dgn a)).drop x) ((b.take (dgn b)).drop (y + zrn (dgn b - 1 - y) (b.drop y)))) := by
        intro d
        induction d with
        | zero =>
          intro n x y hx hy hn
          obtain ⟨n1, rfl⟩ : ∃ n1, n = n1 + 1 := ⟨n - 1, by omega⟩
          show ∃ v : Int32, fb_X12_numeric_80 _ (nI (dgn a)) (nI (dgn b)) (nI x) (nI y) t = some v ∧ _
          unfold fb_X12_numeric_80
          rw [show nI (dgn b) - 1 = nI (dgn b - 1) from nI_sub (b := 1) (by omega), if_pos (nI_le (by omega) (by omega)), show dgn b - 1 - y = 0 by omega]
          exact w109 x y hx (by omega)
        | succ d ih =>
          intro n x y hx hy hn
          obtain ⟨n1, rfl⟩ : ∃ n1, n = n1 + 1 := ⟨n - 1, by omega⟩
          show ∃ v : Int32, fb_X12_numeric_80 (fn_X12_numeric_80 n1) (nI (dgn a)) (nI (dgn b)) (nI x) (nI y) t = some v ∧ _
          unfold fb_X12_numeric_80
          have hb := b3 y
          rw [show nI (dgn b) - 1 = nI (dgn b - 1) from nI_sub (b := 1) (by omega), if_neg (nI_ge (by omega) (by omega)), gB _ (by omega), Option.bind_some, zr_at (by omega) (by omega)]
          by_cases z : b.getD y 0 = 48
          · rw [if_pos (show nI (b.getD y 0) = 48 by rw [z]; rfl), nI_1, if_pos z, show y + (zrn (dgn b - 1 - (y + 1)) (b.drop (y + 1)) + 1) = y + 1 + zrn (dgn b - 1 - (y + 1)) (b.drop (y + 1)) by omega]
            exact ih n1 x (y + 1) hx (by omega) (by omega)
          · rw [if_neg (show ¬ nI (b.getD y 0) = 48 from nI_ne (b := 48) (by omega) (by decide) z), if_neg z]
            exact w109 x y hx (by omega)
      have w80' : ∀ x : Nat, x ≤ dgn a → ∃ v : Int32, fn_X12_numeric_80 uFu (nI (dgn a)) (nI (dgn b)) (nI x) (bI false) t = some v ∧ cI v (cmpZ ((a.take (dgn a)).drop x) ((b.take (dgn b)).drop (zrn (dgn b - 1) b))) := by
        intro x hx
        have := w80 (dgn b - 1) 1000000 x 0 hx (by omega) (by omega)
        rw [Nat.zero_add, Nat.sub_zero, List.drop_zero] at this
        exact this
      have w55 : ∀ (d n x : Nat), x + d = dgn a - 1 → d + 1 ≤ n → ∃ v : Int32, fn_X12_numeric_55 n (nI (dgn a)) (nI (dgn b)) (nI x) false t = some v ∧ cI v (cmpZ ((a.take (dgn a)).drop (x + zrn (dgn a - 1 - x) (a.drop x))) ((b.take (dgn b)).drop (zrn (dgn b - 1) b))) := by
        intro d
        induction d with
        | zero =>
          intro n x hx hn
          obtain ⟨n1, rfl⟩ : ∃ n1, n = n1 + 1 := ⟨n - 1, by omega⟩
          show ∃ v : Int32, fb_X12_numeric_55 _ (nI (dgn a)) (nI (dgn b)) (nI x) false t = some v ∧ _
          unfold fb_X12_numeric_55
          rw [show nI (dgn a) - 1 = nI (dgn a - 1) from nI_sub (b := 1) (by omega), if_pos (nI_le (by omega) (by omega)), show dgn a - 1 - x = 0 by omega]
          exact w80' x (by omega)
        | succ d ih =>
          intro n x hx hn
          obtain ⟨n1, rfl⟩ : ∃ n1, n = n1 + 1 := ⟨n - 1, by omega⟩
          show ∃ v : Int32, fb_X12_numeric_55 (fn_X12_numeric_55 n1) (nI (dgn a)) (nI (dgn b)) (nI x) false t = some v ∧ _
          unfold fb_X12_numeric_55
          have ha := a3 x
          rw [show nI (dgn a) - 1 = nI (dgn a - 1) from nI_sub (b := 1) (by omega), if_neg (nI_ge (by omega) (by omega)), gA _ (by omega), Option.bind_some, zr_at (by omega) (by omega)]
          by_cases z : a.getD x 0 = 48
          · rw [if_pos (show nI (a.getD x 0) = 48 by rw [z]; rfl), nI_1, if_pos z, show x + (zrn (dgn a - 1 - (x + 1)) (a.drop (x + 1)) + 1) = x + 1 + zrn (dgn a - 1 - (x + 1)) (a.drop (x + 1)) by omega]
            exact ih n1 (x + 1) (by omega) (by omega)
          · rw [if_neg (show ¬ nI (a.getD x 0) = 48 from nI_ne (b := 48) (by omega) (by decide) z), if_neg z]
            exact w80' x (by omega)
      have := w55 (dgn a - 1) 1000000 0 (by omega) (by omega)
      rw [Nat.zero_add, Nat.sub_zero, List.drop_zero] at this
      exact this
