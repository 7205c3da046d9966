/-! a text within another on both sides -/
def mP (a b : List Nat) (p : Nat) : Prop := ∀ j : Nat, j < b.length → (decide (a.getD (p + j) 0 = b.getD j 0)) = true
def wtF (a b : List Nat) : Nat → Nat → Bool
  | 0, _ => false
  | n + 1, p => if a.length < p + b.length then false else decide (∀ j : Nat, j < b.length → (decide (a.getD (p + j) 0 = b.getD j 0)) = true) || wtF a b n (p + 1)
def wth (a b : List Nat) : Bool := wtF a b (a.length + 2) 0
theorem c_wth {s : uS} {k0 k2 i j : Nat} {a b : List Nat} (h1 : rx s k0 i a) (h2 : rx s k2 j b) : fn_X3_isWithin k0 (nI i) k2 (nI j) s = some (wth a b) := by
  obtain ⟨f1, a1, a2, a3, a4, a5⟩ := h1
  obtain ⟨f2, b1, b2, b3, b4, b5⟩ := h2
  have inner : ∀ (K : Nat → Int32 → Nat → Int32 → Int32 → Int32 → uS → Option Bool) (p : Nat), p + b.length ≤ a.length → ∀ (d n q : Nat), q + d = b.length → d + 1 ≤ n → (∀ l : Nat, l < q → a.getD (p + l) 0 = b.getD l 0) → fn_X3_isWithin_32 K n k0 (nI i) k2 (nI j) (nI b.length) (nI (f1 + p)) (nI q) s = if (∀ l : Nat, l < b.length → (decide (a.getD (p + l) 0 = b.getD l 0)) = true) then some true else K k0 (nI i) k2 (nI j) (nI b.length) (nI (f1 + (p + 1))) s := by
    intro K p hp d
    induction d with
    | zero =>
      intro n q hq hn hl
      obtain ⟨n1, rfl⟩ : ∃ n1, n = n1 + 1 := ⟨n - 1, by omega⟩
      show fb_X3_isWithin_32 K (fn_X3_isWithin_32 K n1) k0 (nI i) k2 (nI j) (nI b.length) (nI (f1 + p)) (nI q) s = _
      unfold fb_X3_isWithin_32 fb_X3_isWithin_72
      rw [if_pos (nI_le (by omega) (by omega)), if_pos (by rw [show q = b.length by omega]), if_pos (fun l hb => decide_eq_true (hl l (by omega)))]
    | succ d ih =>
      intro n q hq hn hl
      obtain ⟨n1, rfl⟩ : ∃ n1, n = n1 + 1 := ⟨n - 1, by omega⟩
      show fb_X3_isWithin_32 K (fn_X3_isWithin_32 K n1) k0 (nI i) k2 (nI j) (nI b.length) (nI (f1 + p)) (nI q) s = _
      unfold fb_X3_isWithin_32 fb_X3_isWithin_72
      have ha := a3.2.1 (p + q)
      have hb := b3.2.1 q
      rw [if_neg (nI_ge (by omega) (by omega)), nI_add, show f1 + p + q = f1 + (p + q) by omega, a3.2.2 (p + q) (by omega), Option.bind_some, b1, Option.bind_some, nI_add, b3.2.2 q (by omega), Option.bind_some]
      by_cases z : a.getD (p + q) 0 = b.getD q 0
      · rw [if_pos (by rw [z]), nI_1 q]
        refine ih n1 (q + 1) (by omega) (by omega) (fun l hl2 => ?_)
        by_cases y : l = q
        · rw [y]; exact z
        · exact hl l (by omega)
      · rw [if_neg (fun y => z ((sb_inj ha hb).mp y)), if_neg (nI_ne (by omega) (by omega) (by omega)), nI_1, if_neg (fun y => z (of_decide_eq_true (y q (by omega)))), show f1 + p + 1 = f1 + (p + 1) by omega]
  have outer : ∀ (d n p : Nat), p + d = a.length + 1 → d + 1 ≤ n → fn_X3_isWithin_15 n k0 (nI i) k2 (nI j) (nI b.length) (nI (f1 + p)) s = some (wtF a b (d + 1) p) := by
    intro d
    induction d with
    | zero =>
      intro n p hp hn
      obtain ⟨n1, rfl⟩ : ∃ n1, n = n1 + 1 := ⟨n - 1, by omega⟩
      show fb_X3_isWithin_15 (fn_X3_isWithin_15 n1) k0 (nI i) k2 (nI j) (nI b.length) (nI (f1 + p)) s = _
      unfold fb_X3_isWithin_15 wtF
      rw [a2, Option.bind_some, nI_add, if_pos (nI_lt (by omega) (by omega)), if_pos (by omega)]
    | succ d ih =>
      intro n p hp hn
      obtain ⟨n1, rfl⟩ : ∃ n1, n = n1 + 1 := ⟨n - 1, by omega⟩
      show fb_X3_isWithin_15 (fn_X3_isWithin_15 n1) k0 (nI i) k2 (nI j) (nI b.length) (nI (f1 + p)) s = _
      unfold fb_X3_isWithin_15
      show _ = some (if a.length < p + b.length then false else decide (∀ l : Nat, l < b.length → (decide (a.getD (p + l) 0 = b.getD l 0)) = true) || wtF a b (d + 1) (p + 1))
      rw [a2, Option.bind_some, nI_add]
      by_cases z : a.length < p + b.length
      · rw [if_pos (nI_lt (by omega) (by omega)), if_pos z]
      · rw [if_neg (nI_nlt (by omega) (by omega)), if_neg z, show (0 : Int32) = nI 0 from rfl, show uFu = 1000000 from rfl, inner (fn_X3_isWithin_15 n1) p (by omega) b.length 1000000 0 (by omega) (by omega) (fun l hl => by omega)]
        by_cases y : ∀ l : Nat, l < b.length → (decide (a.getD (p + l) 0 = b.getD l 0)) = true
        · rw [if_pos y, decide_eq_true y]; rfl
        · rw [if_neg y, decide_eq_false y, ih n1 (p + 1) (by omega) (by omega)]; rfl
  unfold fn_X3_isWithin
  rw [b4, Option.bind_some, a1, Option.bind_some]
  exact outer (a.length + 1) 1000000 0 (by omega) (by omega)
theorem r_same {t : uS} {x y : Nat} {f : Bool} (hx : x < 256) (hy : y < 256) : fn_X12_same (nI x) (nI y) f t = some (decide ((if f = true then up x else x) = (if f = true then up y else y))) := by
  have := up_lt hx
  have := up_lt hy
  unfold fn_X12_same
  cases f with
  | true =>
    rw [if_pos rfl, if_pos rfl, if_pos rfl, r_highN (by omega), Option.bind_some, r_highN (by omega), Option.bind_some]
    by_cases z : up x = up y
    · rw [if_pos (by rw [z]), decide_eq_true z]
    · rw [if_neg (nI_ne (by omega) (by omega) z), decide_eq_false z]
  | false =>
    show (if nI x = nI y then some true else some false) = some (decide (x = y))
    by_cases z : x = y
    · rw [if_pos (by rw [z]), decide_eq_true z]
    · rw [if_neg (nI_ne (by omega) (by omega) z), decide_eq_false z]
theorem r_wth {t : uS} {a b : List Nat} {f : Bool} (h1 : r1 t a) (h2 : r2 t b) : fn_X12_contains f t = some (wth (fl f a) (fl f b)) := by
  obtain ⟨a1, a2, a3, a4⟩ := h1
  obtain ⟨b1, b2, b3, b4⟩ := h2
  have inner : ∀ (K : Bool → Bool → Int32 → uS → Option Bool) (p : Nat), p + b.length ≤ a.length → fn_X12_contains_26 K uFu f true (nI p) 0 t = K f (decide (∀ l : Nat, l < (fl f b).length → (decide ((fl f a).getD (p + l) 0 = (fl f b).getD l 0)) = true)) (nI (p + 1)) t := by
    intro K p hp
    have := cmp0 (F := fun n c x => fn_X12_contains_26 K n f c (nI p) x t) (fin := fun c => K f c (nI (p + 1)) t) (L := b.length) (p := fun l => decide ((fl f a).getD (p + l) 0 = (fl f b).getD l 0)) ?_ (by show _ < 1000000; omega) true
    · rw [Bool.true_and, ← fl_len (f := f) (a := b)] at this
      exact this
    · intro n c q hq
      show fb_X12_contains_26 K (fn_X12_contains_26 K n) f c (nI p) (nI q) t = _
      unfold fb_X12_contains_26
      rw [b1, nI_1 p]
      by_cases z : b.length ≤ q
      · rw [if_pos (nI_le z (by omega)), if_pos z]
      · rw [if_neg (nI_ge (by omega) (by omega)), if_neg z, nI_add]
        cases c with
        | false => rw [if_neg (by decide), if_neg (by decide)]
        | true =>
          rw [if_pos rfl, if_pos rfl, g_1093 (by omega), Option.bind_some, a4 _ (by omega), g_1094 (by omega), Option.bind_some, b4 _ (by omega), r_same (a3 _) (b3 _), Option.bind_some, nI_1 q, fl_get, fl_get]
  have outer : ∀ (d n p : Nat), p + d = a.length + 1 → d + 1 ≤ n → fn_X12_contains_4 n f false (nI p) t = some (wtF (fl f a) (fl f b) (d + 1) p) := by
    intro d
    induction d with
    | zero =>
      intro n p hp hn
      obtain ⟨n1, rfl⟩ : ∃ n1, n = n1 + 1 := ⟨n - 1, by omega⟩
      show fb_X12_contains_4 (fn_X12_contains_4 n1) f false (nI p) t = _
      unfold fb_X12_contains_4 wtF
      rw [a1, b1, nI_add, if_pos (nI_lt (by omega) (by omega)), if_pos (by rw [fl_len, fl_len]; omega)]
    | succ d ih =>
      intro n p hp hn
      obtain ⟨n1, rfl⟩ : ∃ n1, n = n1 + 1 := ⟨n - 1, by omega⟩
      show fb_X12_contains_4 (fn_X12_contains_4 n1) f false (nI p) t = _
      unfold fb_X12_contains_4
      show _ = some (if (fl f a).length < p + (fl f b).length then false else decide (∀ l : Nat, l < (fl f b).length → (decide ((fl f a).getD (p + l) 0 = (fl f b).getD l 0)) = true) || wtF (fl f a) (fl f b) (d + 1) (p + 1))
      rw [a1, b1, nI_add]
      by_cases z : a.length < p + b.length
      · rw [if_pos (nI_lt (by omega) (by omega)), if_pos (by rw [fl_len, fl_len]; omega)]
      · rw [if_neg (nI_nlt (by omega) (by omega)), if_neg (by decide), if_neg (by rw [fl_len, fl_len]; omega), inner (fn_X12_contains_4 n1) p (by omega)]
        by_cases y : ∀ l : Nat, l < (fl f b).length → (decide ((fl f a).getD (p + l) 0 = (fl f b).getD l 0)) = true
        · rw [decide_eq_true y]
          cases n1 with
          | zero => omega
          | succ n2 =>
            show fb_X12_contains_4 (fn_X12_contains_4 n2) f true (nI (p + 1)) t = _
            unfold fb_X12_contains_4
            rw [if_pos rfl, ite_self]; rfl
        · rw [decide_eq_false y, ih n1 (p + 1) (by omega) (by omega)]; rfl
  unfold fn_X12_contains
  have := outer (a.length + 1) 1000000 0 (by omega) (by omega)
  unfold wth
  rw [fl_len]
  exact this
