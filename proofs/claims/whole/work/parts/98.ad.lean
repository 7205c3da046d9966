/-- a message: user (-1: the outbox), mailbox, flags, address, bytes -/
abbrev aM : Type := Int32 × Int32 × Int32 × List Int32 × List Int32
def aM0 : aM := (0, 0, 0, [], [])
def cE (s : uS) (e : Nat) (m : aM) : Prop := uIs s e 1 ∧ s.I e 2 = m.1 ∧ s.I e 3 = m.2.1 ∧ s.I e 4 = m.2.2.1 ∧ (∃ tx : Nat, s.R e 1 = some tx ∧ cB s tx m.2.2.2.2) ∧ (m.1 = -1 → ∃ lb : Nat, ¬ lb = 0 ∧ s.R e 0 = some lb ∧ cB s lb m.2.2.2.1)
def cM (s : uS) (ms : List aM) : Prop := ms.length ≤ 400 ∧ s.I 0 10 = nI ms.length ∧ ∀ i : Nat, i < ms.length → ∃ e : Nat, s.P 5 i = some e ∧ cE s e (ms.getD i aM0)
/-- a byte of the reference's store -/
def pkb (s : uS) (p : Nat) : Int32 := (s.L 1118 (p / 8) >>> Int64.ofNat (56 - 8 * (p % 8))).toInt32 &&& 255
def rU (x : Int32) : Int32 := if x = -1 then 4 else x
def rM (s : uS) (ms : List aM) : Prop := ms.length ≤ 400 ∧ (∃ a b : Nat, s.I 1079 70 = nI a ∧ s.I 1079 71 = nI b ∧ a + b = ms.length) ∧ ∀ i : Nat, i < ms.length → s.F 1119 i = rU (ms.getD i aM0).1 ∧ s.F 1120 i = (ms.getD i aM0).2.1 ∧ s.F 1123 i = (ms.getD i aM0).2.2.1 ∧ s.F 1122 i = nI (ms.getD i aM0).2.2.2.2.length ∧ (ms.getD i aM0).2.2.2.2.length ≤ 10000 ∧ ∃ at_ : Nat, s.F 1121 i = nI at_ ∧ at_ + (ms.getD i aM0).2.2.2.2.length ≤ 150400 ∧ ∀ j : Nat, j < (ms.getD i aM0).2.2.2.2.length → pkb s (at_ + j) = (ms.getD i aM0).2.2.2.2.getD j 0 &&& 255
theorem rM.sum {s : uS} {ms : List aM} (h : rM s ms) : s.I 1079 70 + s.I 1079 71 = nI ms.length := by
  obtain ⟨-, ⟨a, b, h1, h2, h3⟩, -⟩ := h
  rw [h1, h2, nI_add, h3]
theorem dropM {ms : List aM} {i : Nat} (h : i < ms.length) : ms.drop i = ms.getD i aM0 :: ms.drop (i + 1) := by
  rw [List.drop_eq_getElem_cons h, List.getD_eq_getElem?_getD, List.getElem?_eq_getElem h]
  rfl
theorem cM.at {s : uS} {ms : List aM} {i : Nat} (h : cM s ms) (hi : i < ms.length) : ∃ e : Nat, pgt 27 s 5 (nI i) = some e ∧ cE s e (ms.getD i aM0) := by
  obtain ⟨h1, h2, h3⟩ := h
  obtain ⟨e, h4, h5⟩ := h3 i hi
  refine ⟨e, ?_, h5⟩
  rw [pgt_c (N := 400) (by decide) (by decide) (by omega) (by decide)]
  unfold uP
  rw [if_pos (by rw [uCl_c (by decide)]; decide)]
  exact h4
def inB (x y : Int32) (m : aM) : Bool := decide (m.1 = x ∧ m.2.1 = y)
theorem c_isIn {s : uS} {ms : List aM} {i : Nat} (h : cM s ms) (hi : i < ms.length) (x y : Int32) : fn_X11_isIn (nI i) x y s = some (inB x y (ms.getD i aM0)) := by
  obtain ⟨e, h1, h2, h3, h4, -⟩ := h.at hi
  unfold fn_X11_isIn inB
  rw [h1, Option.bind_some, if_pos h2, h3]
  by_cases c : (ms.getD i aM0).1 = x
  · rw [if_pos c, Option.bind_some, if_pos h2, h4]
    by_cases c2 : (ms.getD i aM0).2.1 = y
    · rw [if_pos c2, decide_eq_true ⟨c, c2⟩]
    · rw [if_neg c2, decide_eq_false (fun e => c2 e.2)]
  · rw [if_neg c, decide_eq_false (fun e => c e.1)]
theorem c_msl {s : uS} {ms : List aM} (h : cM s ms) (x y : Int32) : ∀ (n i c : Nat), ms.length < i + n → i ≤ ms.length → fn_X11_messages_16 n x y (nI c) (nI i) s = some (nI (c + (ms.drop i).countP (inB x y))) := by
  intro n
  induction n with
  | zero => intro i c h1 h2; omega
  | succ n ih =>
    intro i c h1 h2
    show fb_X11_messages_16 (fn_X11_messages_16 n) x y (nI c) (nI i) s = _
    unfold fb_X11_messages_16
    have hm := h.1
    rw [h.2.1]
    by_cases hi : i < ms.length
    · rw [if_neg (nI_ge hi (by omega)), c_isIn h hi, Option.bind_some, nI_1, nI_1, dropM hi, List.countP_cons]
      cases hb : inB x y (ms.getD i aM0) with
      | true => rw [if_pos rfl, ih (i + 1) (c + 1) (by omega) (by omega)]; congr 2; simp; omega
      | false => rw [if_neg (by decide), ih (i + 1) c (by omega) (by omega)]; congr 2
    · rw [if_pos (nI_le (by omega) (by omega)), List.drop_of_length_le (by omega)]
      rfl
def a_msgs (nb : Nat → Nat) (ms : List aM) (x y : Int32) : Int32 := if hasB nb x y = true then nI (ms.countP (inB x y)) else -1
theorem c_messages {s : uS} {ms : List aM} {nb : Nat → Nat} (h : cM s ms) (hb : ∀ u : Nat, u < 4 → s.I (988 + 16 * u) 3 = nI (nb u)) (x y : Int32) : fn_X11_messages x y s = some (a_msgs nb ms x y) := by
  unfold fn_X11_messages a_msgs
  rw [c_has hb, Option.bind_some]
  cases hasB nb x y with
  | false => rw [if_neg (by decide), if_neg (by decide)]
  | true =>
    have hm := h.1
    rw [if_pos rfl, if_pos rfl]
    have e := c_msl h x y uFu 0 0 (by show ms.length < 0 + 1000000; omega) (Nat.zero_le _)
    rw [Nat.zero_add] at e
    exact e
theorem hasB_u {nb : Nat → Nat} {x y : Int32} (h : hasB nb x y = true) (z : Int32) : rU z = x ↔ z = x := by
  have h1 := of_decide_eq_true h
  unfold rU
  by_cases c : z = -1
  · rw [if_pos c, c]
    constructor
    · intro e; rw [← e] at h1; exact absurd h1.2.1 (by decide)
    · intro e; rw [← e] at h1; exact absurd h1.1 (by decide)
  · rw [if_neg c]
theorem r_msl {s : uS} {ms : List aM} {nb : Nat → Nat} {x y : Int32} (h : rM s ms) (hh : hasB nb x y = true) : ∀ (n i c : Nat), ms.length < i + n → i ≤ ms.length → fn_X12_messages_16 n x y (nI c) (nI i) s = some (nI (c + (ms.drop i).countP (inB x y))) := by
  intro n
  induction n with
  | zero => intro i c h1 h2; omega
  | succ n ih =>
    intro i c h1 h2
    show fb_X12_messages_16 (fn_X12_messages_16 n) x y (nI c) (nI i) s = _
    unfold fb_X12_messages_16
    have hm := h.1
    rw [h.sum]
    by_cases hi : i < ms.length
    · obtain ⟨g1, g2, -⟩ := h.2.2 i hi
      rw [if_neg (nI_ge hi (by omega)), iget_c (N := 401) (by decide) (by decide) (by omega) (by decide), Option.bind_some, g1, nI_1, nI_1, dropM hi, List.countP_cons]
      by_cases c1 : (ms.getD i aM0).1 = x
      · rw [if_pos ((hasB_u hh _).mpr c1), iget_c (N := 401) (by decide) (by decide) (by omega) (by decide), Option.bind_some, g2]
        by_cases c2 : (ms.getD i aM0).2.1 = y
        · rw [if_pos c2, ih (i + 1) (c + 1) (by omega) (by omega), if_pos (by unfold inB; rw [decide_eq_true ⟨c1, c2⟩])]; congr 2; omega
        · rw [if_neg c2, ih (i + 1) c (by omega) (by omega), if_neg (by unfold inB; rw [decide_eq_false (fun e => c2 e.2)]; decide)]; rfl
      · rw [if_neg (fun e => c1 ((hasB_u hh _).mp e)), ih (i + 1) c (by omega) (by omega), if_neg (by unfold inB; rw [decide_eq_false (fun e => c1 e.1)]; decide)]; rfl
    · rw [if_pos (nI_le (by omega) (by omega)), List.drop_of_length_le (by omega)]
      rfl
theorem r_messages {s : uS} {ms : List aM} {nb : Nat → Nat} (h : rM s ms) (hb : ∀ u : Nat, u < 4 → s.F 1126 u = nI (nb u)) (x y : Int32) : fn_X12_messages x y s = some (a_msgs nb ms x y) := by
  unfold fn_X12_messages a_msgs
  rw [r_has hb, Option.bind_some]
  cases hh : hasB nb x y with
  | false => rw [if_neg (by decide), if_neg (by decide)]
  | true =>
    have hm := h.1
    rw [if_pos rfl, if_pos rfl]
    have e := r_msl h hh uFu 0 0 (by show ms.length < 0 + 1000000; omega) (Nat.zero_le _)
    rw [Nat.zero_add] at e
    exact e
/-- the place of the l-th message that p takes -/
def fnd (p : aM → Bool) : List aM → Nat → Nat → Option Nat
  | [], _, _ => none
  | m :: r, i, l => if p m = true then (if l = 0 then some i else fnd p r (i + 1) (l - 1)) else fnd p r (i + 1) l
theorem nI_m1 (n : Nat) : nI (n + 1) + (-1) = nI n := by
  rw [show ((-1) : Int32) = -(1 : Int32) from rfl, ← Int32.sub_eq_add_neg, nI_pred]
def oI (o : Option Nat) : Int32 := match o with
  | none => -1
  | some i => nI i
theorem c_nol {s : uS} {ms : List aM} (h : cM s ms) (x y : Int32) : ∀ (n i k : Nat), ms.length < i + n → i ≤ ms.length → k < 2 ^ 31 → fn_X11_numberOf_6 n x y (nI k) (nI i) s = some (oI (fnd (inB x y) (ms.drop i) i k)) := by
  intro n
  induction n with
  | zero => intro i k h1 h2; omega
  | succ n ih =>
    intro i k h1 h2 hk
    show fb_X11_numberOf_6 (fn_X11_numberOf_6 n) x y (nI k) (nI i) s = _
    unfold fb_X11_numberOf_6
    have hm := h.1
    rw [h.2.1]
    by_cases hi : i < ms.length
    · rw [if_neg (nI_ge hi (by omega)), if_neg (nI_pos hk), c_isIn h hi, Option.bind_some, nI_1, dropM hi]
      show _ = some (oI (if inB x y (ms.getD i aM0) = true then _ else _))
      cases hb : inB x y (ms.getD i aM0) with
      | true =>
        rw [if_pos rfl, if_pos rfl]
        by_cases k0 : k = 0
        · subst k0; rw [if_pos (by decide), if_pos rfl]; rfl
        · obtain ⟨k', rfl⟩ : ∃ k', k = k' + 1 := ⟨k - 1, by omega⟩
          rw [if_neg (nI_ne0 (by omega) hk), if_neg (by omega), nI_m1, ih (i + 1) k' (by omega) (by omega) (by omega)]
          rfl
      | false => rw [if_neg (by decide), if_neg (by decide), ih (i + 1) k (by omega) (by omega) hk]
    · rw [if_pos (nI_le (by omega) (by omega)), List.drop_of_length_le (by omega)]
      rfl
def a_no (ms : List aM) (x y k : Int32) : Option Nat := if k < 0 then none else fnd (inB x y) ms 0 k.toNatClampNeg
theorem c_numberOf {s : uS} {ms : List aM} (h : cM s ms) (x y k : Int32) : fn_X11_numberOf x y k s = some (oI (a_no ms x y k)) := by
  unfold fn_X11_numberOf a_no
  have hm := h.1
  by_cases c : k < 0
  · rw [if_pos c]
    show fb_X11_numberOf_6 _ x y k (nI 0) s = _
    unfold fb_X11_numberOf_6
    rw [h.2.1]
    by_cases c2 : nI ms.length ≤ nI 0
    · rw [if_pos c2]; rfl
    · rw [if_neg c2, if_pos c]; rfl
  · rw [if_neg c]
    obtain ⟨j, hj, rfl⟩ := nI_of c
    rw [nI_clamp hj]
    exact c_nol h x y uFu 0 j (by show ms.length < 0 + 1000000; omega) (Nat.zero_le _) hj
