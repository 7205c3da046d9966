/-! comparing texts -/
def eqB (ci : Bool) (a b : Nat) : Bool := if ci = true then decide (lo a = lo b) else decide (a = b)
def eqT (ci : Bool) (x y : List Nat) : Bool := decide (x.length = y.length) && decide (∀ j : Nat, j < y.length → eqB ci (x.getD j 0) (y.getD j 0) = true)
theorem x32 {b c : Nat} (hb : b < 256) (hc : c < 256) : (decide (sb b = sb c) || (decide (¬ (sb b ||| 32) < 97) && decide (¬ (122 : Int32) < (sb b ||| 32)) && decide ((sb b ^^^ sb c) = 32))) = decide (lo b = lo c) := by
  have h1 : ∀ b, b < 256 → ((¬ (sb b ||| 32) < 97 ∧ ¬ (122 : Int32) < (sb b ||| 32)) ↔ ((65 ≤ b ∧ b ≤ 90) ∨ (97 ≤ b ∧ b ≤ 122))) := by decide +kernel
  have h2 : ∀ b, b < 256 → (97 ≤ b ∧ b ≤ 122 → sb b ^^^ 32 = sb (b - 32)) ∧ (65 ≤ b ∧ b ≤ 90 → sb b ^^^ 32 = sb (b + 32)) := by decide +kernel
  have h3 : sb b ^^^ sb c = 32 ↔ sb c = sb b ^^^ 32 := by
    constructor
    · intro h; rw [← h, ← Int32.xor_assoc, Int32.xor_self, Int32.zero_xor]
    · intro h; rw [h, ← Int32.xor_assoc, Int32.xor_self, Int32.zero_xor]
  rw [← Bool.decide_and, ← Bool.decide_and, ← Bool.decide_or]
  apply decide_eq_decide.mpr
  rw [h1 b hb, sb_inj hb hc, h3]
  have k := h2 b hb
  by_cases l : 97 ≤ b ∧ b ≤ 122
  · rw [k.1 l, sb_inj hc (by omega)]
    unfold lo
    split <;> split <;> omega
  · by_cases l2 : 65 ≤ b ∧ b ≤ 90
    · rw [k.2 l2, sb_inj hc (by omega)]
      unfold lo
      split <;> split <;> omega
    · have : ¬ ((65 ≤ b ∧ b ≤ 90) ∨ (97 ≤ b ∧ b ≤ 122)) := by omega
      constructor
      · intro e; rcases e with e | e
        · rw [e]
        · exact absurd e.1 this
      · intro e
        unfold lo at e
        left
        split at e <;> split at e <;> omega
theorem c_isSameAt {s : uS} {k0 a k2 c : Nat} {x y : List Nat} {ci : Bool} (h1 : rdC s (k0 + 1) a x) (h2 : rdC s k2 c y) (hl : x.length = y.length) (hy : y.length < 900000) : fn_X9_isSameAt k0 (nI a) k2 (nI c) (nI y.length) ci s = some (decide (∀ j : Nat, j < y.length → eqB ci (x.getD j 0) (y.getD j 0) = true)) := by
  have h := cmp0 (F := fun n b i => if b = true then fn_X9_isSameAt_3 n k0 (nI a) k2 (nI c) (nI y.length) ci i s else some false) (fin := fun b => some b) (L := y.length) (p := fun j => eqB ci (x.getD j 0) (y.getD j 0)) ?_ (by show y.length < 1000000; omega) true
  · rw [if_pos rfl, Bool.true_and] at h
    exact h
  · intro n b i hi
    have q1 := h1.1
    have q2 := h2.1
    cases b with
    | false =>
      rw [if_neg (by decide)]
      split
      · rfl
      · rfl
    | true =>
      rw [if_pos rfl, if_pos rfl]
      show fb_X9_isSameAt_3 (fn_X9_isSameAt_3 n) k0 (nI a) k2 (nI c) (nI y.length) ci (nI i) s = _
      unfold fb_X9_isSameAt_3 fb_X9_isSameAt_61
      by_cases e : y.length ≤ i
      · rw [if_pos (nI_le e (by omega)), if_pos e]
      · rw [if_neg (nI_ge (by omega) (by omega)), if_neg e]
        have g1 := h1.2.2 i (by omega)
        have g2 := h2.2.2 i (by omega)
        have b1 := h1.2.1 i
        have b2 := h2.2.1 i
        simp only [nI_add, nI_1, g1, g2, Option.bind_some]
        have hx := x32 b1 b2
        have he := sb_inj b1 b2
        by_cases f : x.getD i 0 = y.getD i 0
        · have hE : eqB ci (x.getD i 0) (y.getD i 0) = true := by unfold eqB; rw [f]; split <;> exact decide_eq_true rfl
          rw [hE, if_pos rfl]
          simp only [if_pos (he.mpr f)]
          split
          · rfl
          · split
            · rfl
            · split <;> rfl
        · simp only [if_neg (fun z => f (he.mp z))]
          rw [decide_eq_false (fun z => f (he.mp z)), Bool.false_or] at hx
          cases ci with
          | false =>
            have hE : eqB false (x.getD i 0) (y.getD i 0) = false := by unfold eqB; rw [if_neg (by decide)]; exact decide_eq_false f
            rw [hE, if_neg (show ¬ (false = true) by decide), if_neg (show ¬ (false = true) by decide)]
            split
            · rfl
            · split
              · rfl
              · split <;> rfl
          | true =>
            have hE : eqB true (x.getD i 0) (y.getD i 0) = decide (lo (x.getD i 0) = lo (y.getD i 0)) := by unfold eqB; rw [if_pos rfl]
            rw [hE, ← hx, if_pos (show true = true from rfl)]
            by_cases l1 : (sb (x.getD i 0) ||| 32) < 97
            · rw [if_pos l1, decide_eq_false (fun z => z l1)]; rfl
            · rw [if_neg l1, decide_eq_true l1]
              by_cases l2 : (122 : Int32) < (sb (x.getD i 0) ||| 32)
              · rw [if_pos l2, decide_eq_false (fun z => z l2)]; rfl
              · rw [if_neg l2, decide_eq_true l2]
                by_cases l3 : (sb (x.getD i 0) ^^^ sb (y.getD i 0)) = 32
                · rw [if_pos l3, decide_eq_true l3]; rfl
                · rw [if_neg l3, decide_eq_false l3]; rfl
theorem eqT_f (x y : List Nat) : eqT false x y = decide (x = y) := by
  unfold eqT
  rw [← Bool.decide_and]
  apply decide_eq_decide.mpr
  constructor
  · intro h
    apply List.ext_getElem? 
    intro j
    by_cases c : j < y.length
    · have := h.2 j c
      unfold eqB at this
      rw [if_neg (by decide), decide_eq_true_eq, List.getD_eq_getElem?_getD, List.getD_eq_getElem?_getD, List.getElem?_eq_getElem c, List.getElem?_eq_getElem (by omega)] at this
      rw [List.getElem?_eq_getElem c, List.getElem?_eq_getElem (by omega)]
      exact congrArg some this
    · rw [List.getElem?_eq_none (by omega), List.getElem?_eq_none (by omega)]
  · intro h
    subst h
    exact ⟨rfl, fun j _ => by unfold eqB; rw [if_neg (by decide)]; exact decide_eq_true rfl⟩
/-- a row of bytes that was made later -/
def cBn (s : uS) (k : Nat) (bs : List Nat) : Prop := k < s.n ∧ 1171 ≤ k ∧ s.c k = (21, bs.length) ∧ bs.length ≤ 10000 ∧ bys bs ∧ ∀ i : Nat, i < bs.length → s.F k i = sb (bs.getD i 0)
theorem cBn.cl {s : uS} {k : Nat} {bs : List Nat} (h : cBn s k bs) : uCl s k = (21, bs.length) := by
  unfold uCl
  rw [if_neg (by have := h.2.1; omega)]
  exact h.2.2.1
theorem cBn.get {s : uS} {k i : Nat} {bs : List Nat} (h : cBn s k bs) (hi : i < bs.length) : iget 21 s k (nI i) = some (sb (bs.getD i 0)) := by
  unfold iget
  have hl := h.2.2.2.1
  rw [if_pos ⟨⟨Or.inr h.1, by rw [h.cl]⟩, by
    show ¬ (nI i < 0 ∨ (uCl s k).2 ≤ (nI i).toNatClampNeg)
    rw [h.cl, nI_clamp (by omega)]
    exact fun e => e.elim (fun e => nI_pos (by omega) e) (fun e => by have : bs.length ≤ i := e; omega)⟩, nI_clamp (by omega), h.2.2.2.2.2 i hi]
theorem cBn.len {s : uS} {k : Nat} {bs : List Nat} (h : cBn s k bs) : ulen s k = some (nI bs.length) := by
  unfold ulen
  rw [if_pos ⟨Or.inr h.1, by rw [h.cl]; show 20 ≤ 21; decide, by rw [h.cl]; show 21 < 29; decide⟩, h.cl]
theorem cBn.rd {s : uS} {k : Nat} {bs : List Nat} (h : cBn s k bs) : rdC s k 0 bs := by
  have hl := h.2.2.2.1
  exact ⟨by omega, h.2.2.2.2.1, fun j hj => by rw [Nat.zero_add]; exact h.get hj⟩
/-- it lasts as long as its row does -/
theorem cBn.fr {s s1 : uS} {k : Nat} {bs : List Nat} (h : cBn s k bs) (hn : s.n ≤ s1.n) (hc : s1.c k = s.c k) (hF : s1.F k = s.F k) : cBn s1 k bs := by
  obtain ⟨a, b, c, d, e, f⟩ := h
  exact ⟨by omega, b, hc.trans c, d, e, by rw [hF]; exact f⟩
theorem c_isSame {s : uS} {k cap mo bg i k2 : Nat} {ts : List (List Nat)} {cur y : List Nat} {ci : Bool} (hk : uTx k cap mo) (h : cTz s k cap mo ts bg cur) (hi : i < ts.length) (h2 : cBn s k2 y) : fn_X9_isSame k (nI i) k2 ci s = some (eqT ci (ts.getD i []) y) := by
  obtain ⟨fr, a1, a2, a3, a4⟩ := tz_rd hk h hi
  have hl := h2.2.2.2.1
  have hcap := hk.2.2.2.2.1
  unfold fn_X9_isSame eqT
  rw [tz_len hk h hi, Option.bind_some, h2.len, Option.bind_some]
  by_cases c : (ts.getD i []).length = y.length
  · rw [if_pos (by rw [c]), Option.bind_some, decide_eq_true c, Bool.true_and]
    by_cases d : y.length = 0
    · rw [if_pos (by rw [d]; rfl), decide_eq_true (fun j hj => by omega)]
    · rw [if_neg (nI_ne0 (by omega) (by omega)), a1, Option.bind_some, Option.bind_some, show (0 : Int32) = nI 0 from rfl, c_isSameAt a3 h2.rd c (by omega), Option.bind_some]
      by_cases e : (∀ j : Nat, j < y.length → eqB ci ((ts.getD i []).getD j 0) (y.getD j 0) = true)
      · rw [decide_eq_true e]; rfl
      · rw [decide_eq_false e]; rfl
  · rw [if_neg (by rw [nI_eq (by omega) (by omega)]; exact c), decide_eq_false c, Bool.false_and]
