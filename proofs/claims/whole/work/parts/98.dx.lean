/-! comparing bytes on both sides -/
def rx (s : uS) (k i : Nat) (a : List Nat) : Prop := ∃ fr : Nat, iget 20 s (k + 2) (nI i) = some (nI fr) ∧ iget 20 s (k + 3) (nI i) = some (nI (fr + a.length)) ∧ rdC s (k + 1) fr a ∧ fn_X9_lengthOf k (nI i) s = some (nI a.length) ∧ fr + a.length ≤ 10000
def r1 (t : uS) (a : List Nat) : Prop := t.I 1079 21 = nI a.length ∧ a.length ≤ 4100 ∧ bys a ∧ ∀ j : Nat, j < a.length → t.F 1093 j = nI (a.getD j 0)
def r2 (t : uS) (b : List Nat) : Prop := t.I 1079 23 = nI b.length ∧ b.length ≤ 1000 ∧ bys b ∧ ∀ j : Nat, j < b.length → t.F 1094 j = nI (b.getD j 0)
/-- 0 less, 1 alike, 2 more -/
def cmpB : List Nat → List Nat → Nat
  | [], [] => 1
  | [], _ :: _ => 0
  | _ :: _, [] => 2
  | a :: as, b :: bs => if a = b then cmpB as bs else if a < b then 0 else 2
def cI (v : Int32) (c : Nat) : Prop := (c = 0 ∧ v < 0) ∨ (c = 1 ∧ v = 0) ∨ (c = 2 ∧ 0 < v)
def stN (r c : Nat) : Bool := if r = 0 then decide (c = 2) else if r = 1 then decide (c ≠ 0) else if r = 2 then decide (c = 0) else if r = 3 then decide (c ≠ 2) else if r = 4 then decide (c = 1) else decide (c ≠ 1)
theorem cI_z {v : Int32} {c : Nat} (h : cI v c) : (v = 0 ↔ c = 1) ∧ (v < 0 ↔ c = 0) ∧ (0 < v ↔ c = 2) := by
  rcases h with ⟨h1, h2⟩ | ⟨h1, h2⟩ | ⟨h1, h2⟩
  · subst h1
    exact ⟨⟨fun z => by rw [z] at h2; exact absurd h2 (by decide), fun z => by omega⟩, ⟨fun _ => rfl, fun _ => h2⟩, ⟨fun z => absurd (Int32.lt_trans h2 z) (fun w => Int32.lt_irrefl w), fun z => by omega⟩⟩
  · subst h1; subst h2
    exact ⟨⟨fun _ => rfl, fun _ => rfl⟩, ⟨fun z => absurd z (by decide), fun z => by omega⟩, ⟨fun z => absurd z (by decide), fun z => by omega⟩⟩
  · subst h1
    exact ⟨⟨fun z => by rw [z] at h2; exact absurd h2 (by decide), fun z => by omega⟩, ⟨fun z => absurd (Int32.lt_trans h2 z) (fun w => Int32.lt_irrefl w), fun z => by omega⟩, ⟨fun _ => rfl, fun _ => h2⟩⟩
theorem st_all {v : Int32} {c r : Nat} (hr : r < 6) (h : cI v c) : (if nI r = 0 then (if v ≤ 0 then (some false) else (some true)) else (if nI r = 1 then (if v < 0 then (some false) else (some true)) else (if nI r = 2 then (if 0 ≤ v then (some false) else (some true)) else (if nI r = 3 then (if 0 < v then (some false) else (some true)) else (if nI r = 4 then (if v = 0 then (some true) else (some false)) else (if v = 0 then (some false) else (some true))))))) = some (stN r c) := by
  obtain ⟨h1, h2, h3⟩ := cI_z h
  have hc : c = 0 ∨ c = 1 ∨ c = 2 := by rcases h with ⟨z, -⟩ | ⟨z, -⟩ | ⟨z, -⟩ <;> omega
  have l1 : v ≤ 0 ↔ c ≠ 2 := by rw [← Int32.not_lt, h3]
  have l2 : 0 ≤ v ↔ c ≠ 0 := by rw [← Int32.not_lt, h2]
  have hs : r = 0 ∨ r = 1 ∨ r = 2 ∨ r = 3 ∨ r = 4 ∨ r = 5 := by omega
  rcases hs with z | z | z | z | z | z <;> subst z
  · show (if v ≤ 0 then some false else some true) = some (decide (c = 2))
    by_cases y : c = 2
    · rw [if_neg (fun w => l1.mp w y), decide_eq_true y]
    · rw [if_pos (l1.mpr y), decide_eq_false y]
  · show (if v < 0 then some false else some true) = some (decide (c ≠ 0))
    by_cases y : c = 0
    · rw [if_pos (h2.mpr y), decide_eq_false (fun w => w y)]
    · rw [if_neg (fun w => y (h2.mp w)), decide_eq_true y]
  · show (if 0 ≤ v then some false else some true) = some (decide (c = 0))
    by_cases y : c = 0
    · rw [if_neg (fun w => l2.mp w y), decide_eq_true y]
    · rw [if_pos (l2.mpr y), decide_eq_false y]
  · show (if 0 < v then some false else some true) = some (decide (c ≠ 2))
    by_cases y : c = 2
    · rw [if_pos (h3.mpr y), decide_eq_false (fun w => w y)]
    · rw [if_neg (fun w => y (h3.mp w)), decide_eq_true y]
  · show (if v = 0 then some true else some false) = some (decide (c = 1))
    by_cases y : c = 1
    · rw [if_pos (h1.mpr y), decide_eq_true y]
    · rw [if_neg (fun w => y (h1.mp w)), decide_eq_false y]
  · show (if v = 0 then some false else some true) = some (decide (c ≠ 1))
    by_cases y : c = 1
    · rw [if_pos (h1.mpr y), decide_eq_false (fun w => w y)]
    · rw [if_neg (fun w => y (h1.mp w)), decide_eq_true y]
theorem c_stands {s : uS} {k r c : Nat} {v : Int32} (h7 : s.I k 7 = nI r) (hr : r < 6) (h : cI v c) : fn_X3_stands k v s = some (stN r c) := by
  unfold fn_X3_stands
  rw [h7]
  exact st_all hr h
theorem r_related {t : uS} {r c : Nat} {v : Int32} (hr : r < 6) (h : cI v c) : fn_X12_related v (nI r) t = some (stN r c) := by
  unfold fn_X12_related
  exact st_all hr h
theorem nI_dlt {a b : Nat} (ha : a < 2 ^ 30) (hb : b < 2 ^ 30) (h : a < b) : nI a - nI b < 0 := by
  rw [Int32.lt_iff_toInt_lt, Int32.toInt_sub, nI_toInt (by omega), nI_toInt (by omega), Int.bmod_eq_of_le (by omega) (by omega)]
  show _ < (0 : Int)
  omega
theorem nI_dgt {a b : Nat} (ha : a < 2 ^ 30) (hb : b < 2 ^ 30) (h : b < a) : 0 < nI a - nI b := by
  rw [nI_sub (by omega)]
  exact nI_lt (a := 0) (by omega) (by omega)
theorem cI_sub {a b : Nat} (ha : a < 2 ^ 30) (hb : b < 2 ^ 30) : cI (nI a - nI b) (if a = b then 1 else if a < b then 0 else 2) := by
  by_cases z : a = b
  · rw [if_pos z]; subst z; exact Or.inr (Or.inl ⟨rfl, by rw [nI_sub (Nat.le_refl _), Nat.sub_self]; rfl⟩)
  · rw [if_neg z]
    by_cases y : a < b
    · rw [if_pos y]; exact Or.inl ⟨rfl, nI_dlt ha hb y⟩
    · rw [if_neg y]; exact Or.inr (Or.inr ⟨rfl, nI_dgt ha hb (by omega)⟩)
theorem cmpB_nil {a b : List Nat} : cmpB [] b = (if b.length = 0 then 1 else 0) := by cases b <;> rfl
theorem cmpB_end {a b : List Nat} {p : Nat} (h : p = a.length ∨ p = b.length) (ha : p ≤ a.length) (hb : p ≤ b.length) : cmpB (a.drop p) (b.drop p) = if a.length = b.length then 1 else if a.length < b.length then 0 else 2 := by
  by_cases z1 : p = a.length
  · rw [List.drop_of_length_le (Nat.le_of_eq z1.symm)]
    by_cases z2 : p = b.length
    · rw [List.drop_of_length_le (Nat.le_of_eq z2.symm), if_pos (by omega)]; rfl
    · rw [drop_c (by omega), if_neg (by omega), if_pos (by omega)]; rfl
  · have z2 : p = b.length := by omega
    rw [List.drop_of_length_le (l := b) (Nat.le_of_eq z2.symm), drop_c (by omega), if_neg (by omega), if_neg (by omega)]; rfl
theorem cmpB_at {a b : List Nat} {p : Nat} (ha : p < a.length) (hb : p < b.length) : cmpB (a.drop p) (b.drop p) = if a.getD p 0 = b.getD p 0 then cmpB (a.drop (p + 1)) (b.drop (p + 1)) else if a.getD p 0 < b.getD p 0 then 0 else 2 := by
  rw [drop_c ha, drop_c hb]; rfl
theorem c_ordB {s : uS} {k0 k2 i j : Nat} {a b : List Nat} (h1 : rx s k0 i a) (h2 : rx s k2 j b) : ∃ v : Int32, fn_X3_orderOfBytes k0 (nI i) k2 (nI j) s = some v ∧ cI v (cmpB a b) := by
  obtain ⟨f1, a1, a2, a3, a4, a5⟩ := h1
  obtain ⟨f2, b1, b2, b3, b4, b5⟩ := h2
  have main : ∀ (d n p m : Nat), m = min a.length b.length → p + d = m → d + 1 ≤ n → ∃ v : Int32, fn_X3_orderOfBytes_18 n k0 (nI i) k2 (nI j) (nI m) (nI p) s = some v ∧ cI v (cmpB (a.drop p) (b.drop p)) := by
    intro d
    induction d with
    | zero =>
      intro n p m hm hp hn
      obtain ⟨n1, rfl⟩ : ∃ n1, n = n1 + 1 := ⟨n - 1, by omega⟩
      show ∃ v : Int32, fb_X3_orderOfBytes_18 _ k0 (nI i) k2 (nI j) (nI m) (nI p) s = some v ∧ _
      unfold fb_X3_orderOfBytes_18
      rw [if_pos (nI_le (by omega) (by omega)), a4, Option.bind_some, b4, Option.bind_some]
      refine ⟨_, rfl, ?_⟩
      rw [cmpB_end (by omega) (by omega) (by omega)]
      exact cI_sub (by omega) (by omega)
    | succ d ih =>
      intro n p m hm hp hn
      obtain ⟨n1, rfl⟩ : ∃ n1, n = n1 + 1 := ⟨n - 1, by omega⟩
      show ∃ v : Int32, fb_X3_orderOfBytes_18 (fn_X3_orderOfBytes_18 n1) k0 (nI i) k2 (nI j) (nI m) (nI p) s = some v ∧ _
      unfold fb_X3_orderOfBytes_18
      have ha := a3.2.1 p
      have hb := b3.2.1 p
      rw [if_neg (nI_ge (by omega) (by omega)), a1, Option.bind_some, nI_add, a3.2.2 p (by omega), Option.bind_some, b1, Option.bind_some, nI_add, b3.2.2 p (by omega), Option.bind_some, sb_and ha, sb_and hb, cmpB_at (by omega) (by omega)]
      by_cases z : a.getD p 0 = b.getD p 0
      · rw [if_pos (by rw [z]), if_pos z, nI_1 p]
        exact ih n1 (p + 1) m hm (by omega) (by omega)
      · rw [if_neg (nI_ne (by omega) (by omega) z), if_neg z]
        refine ⟨_, rfl, ?_⟩
        have := cI_sub (a := a.getD p 0) (b := b.getD p 0) (by omega) (by omega)
        rw [if_neg z] at this
        exact this
  unfold fn_X3_orderOfBytes
  rw [a4, Option.bind_some, b4, Option.bind_some]
  have e : (if nI b.length < nI a.length then nI b.length else nI a.length) = nI (min a.length b.length) := by
    by_cases z : b.length < a.length
    · rw [if_pos (nI_lt z (by omega)), show min a.length b.length = b.length by omega]
    · rw [if_neg (nI_nlt (by omega) (by omega)), show min a.length b.length = a.length by omega]
  rw [e]
  have := main (min a.length b.length) 1000000 0 (min a.length b.length) rfl (by omega) (by omega)
  rw [List.drop_zero, List.drop_zero] at this
  exact this
def fl (f : Bool) (a : List Nat) : List Nat := if f = true then a.map up else a
theorem fl_len {f : Bool} {a : List Nat} : (fl f a).length = a.length := by unfold fl; split <;> simp
theorem fl_get {f : Bool} {a : List Nat} {j : Nat} : (fl f a).getD j 0 = if f = true then up (a.getD j 0) else a.getD j 0 := by
  unfold fl
  split
  · by_cases z : j < a.length
    · rw [List.getD_eq_getElem?_getD, List.getD_eq_getElem?_getD, List.getElem?_map, List.getElem?_eq_getElem z]; rfl
    · rw [getDn_out (by rw [List.length_map]; omega), getDn_out (by omega)]; rfl
  · rfl
theorem bys_fl {f : Bool} {a : List Nat} (h : bys a) : bys (fl f a) := fun j => by
  rw [fl_get]
  split
  · exact up_lt (h j)
  · exact h j
theorem r_cmpB {t : uS} {a b : List Nat} {f : Bool} (h1 : r1 t a) (h2 : r2 t b) : ∃ v : Int32, fn_X12_bytewise f t = some v ∧ cI v (cmpB (fl f a) (fl f b)) := by
  obtain ⟨a1, a2, a3, a4⟩ := h1
  obtain ⟨b1, b2, b3, b4⟩ := h2
  have main : ∀ (d n p m : Nat), m = min a.length b.length → p + d = m → d + 1 ≤ n → ∃ v : Int32, fn_X12_bytewise_25 n f (nI m) (nI p) t = some v ∧ cI v (cmpB ((fl f a).drop p) ((fl f b).drop p)) := by
    intro d
    induction d with
    | zero =>
      intro n p m hm hp hn
      obtain ⟨n1, rfl⟩ : ∃ n1, n = n1 + 1 := ⟨n - 1, by omega⟩
      show ∃ v : Int32, fb_X12_bytewise_25 _ f (nI m) (nI p) t = some v ∧ _
      unfold fb_X12_bytewise_25
      rw [if_pos (nI_le (by omega) (by omega)), cmpB_end (by rw [fl_len, fl_len]; omega) (by rw [fl_len]; omega) (by rw [fl_len]; omega), fl_len, fl_len, a1, b1]
      by_cases z : b.length ≤ a.length
      · rw [if_pos (nI_le z (by omega))]
        by_cases y : a.length ≤ b.length
        · rw [if_pos (nI_le y (by omega)), if_pos (by omega)]; exact ⟨_, rfl, Or.inr (Or.inl ⟨rfl, rfl⟩)⟩
        · rw [if_neg (nI_ge (by omega) (by omega)), if_neg (by omega), if_neg (by omega)]; exact ⟨_, rfl, Or.inr (Or.inr ⟨rfl, by decide⟩)⟩
      · rw [if_neg (nI_ge (by omega) (by omega)), if_neg (by omega), if_pos (by omega)]; exact ⟨_, rfl, Or.inl ⟨rfl, by decide⟩⟩
    | succ d ih =>
      intro n p m hm hp hn
      obtain ⟨n1, rfl⟩ : ∃ n1, n = n1 + 1 := ⟨n - 1, by omega⟩
      show ∃ v : Int32, fb_X12_bytewise_25 (fn_X12_bytewise_25 n1) f (nI m) (nI p) t = some v ∧ _
      have ha := a3 p
      have hb := b3 p
      have hua := up_lt ha
      have hub := up_lt hb
      have e : fb_X12_bytewise_25 (fn_X12_bytewise_25 n1) f (nI m) (nI p) t = fb_X12_bytewise_76 (fn_X12_bytewise_25 n1) f (nI m) (nI p) (nI ((fl f a).getD p 0)) (nI ((fl f b).getD p 0)) t := by
        unfold fb_X12_bytewise_25 fb_X12_bytewise_52
        rw [if_neg (nI_ge (by omega) (by omega)), g_1093 (by omega), Option.bind_some, Option.bind_some, a4 p (by omega), g_1094 (by omega), Option.bind_some, Option.bind_some, b4 p (by omega), fl_get, fl_get, r_highN (by omega), Option.bind_some]
        cases f with
        | true => rw [if_pos rfl, if_pos rfl, Option.bind_some, r_highN (by omega), Option.bind_some, if_pos rfl, if_pos rfl]
        | false => rw [if_neg (by decide), if_neg (by decide), if_neg (by decide), if_neg (by decide)]
      have h1f := bys_fl (f := f) a3 p
      have h2f := bys_fl (f := f) b3 p
      rw [e, cmpB_at (by rw [fl_len]; omega) (by rw [fl_len]; omega)]
      unfold fb_X12_bytewise_76
      by_cases z : (fl f a).getD p 0 = (fl f b).getD p 0
      · rw [if_pos (by rw [z]), if_pos z, nI_1 p]
        exact ih n1 (p + 1) m hm (by omega) (by omega)
      · rw [if_neg (nI_ne (by omega) (by omega) z), if_neg z]
        by_cases y : (fl f a).getD p 0 < (fl f b).getD p 0
        · rw [if_neg (nI_ge y (by omega)), if_pos y]; exact ⟨_, rfl, Or.inl ⟨rfl, by decide⟩⟩
        · rw [if_pos (nI_le (by omega) (by omega)), if_neg y]; exact ⟨_, rfl, Or.inr (Or.inr ⟨rfl, by decide⟩)⟩
  unfold fn_X12_bytewise
  have hm := main (min a.length b.length) 1000000 0 (min a.length b.length) rfl (by omega) (by omega)
  rw [List.drop_zero, List.drop_zero] at hm
  rw [a1, b1]
  by_cases z : b.length ≤ a.length
  · rw [if_pos (nI_le z (by omega))]
    rw [show min a.length b.length = b.length by omega] at hm
    exact hm
  · rw [if_neg (nI_ge (by omega) (by omega))]
    rw [show min a.length b.length = a.length by omega] at hm
    exact hm
