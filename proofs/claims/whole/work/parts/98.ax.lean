/-! what the class may have changed, where it also makes new cells -/
def oc (PI PF PR PP : Nat → Nat → Prop) (s s1 : uS) : Prop := s.n ≤ s1.n ∧ (∀ k : Nat, k < s.n → s1.c k = s.c k) ∧ (∀ k : Nat, k < s.n → s1.L k = s.L k) ∧ (∀ k f : Nat, k < s.n → ¬ PI k f → s1.I k f = s.I k f) ∧ (∀ k f : Nat, k < s.n → ¬ PF k f → s1.F k f = s.F k f) ∧ (∀ k f : Nat, k < s.n → ¬ PR k f → s1.R k f = s.R k f) ∧ ∀ k f : Nat, k < s.n → ¬ PP k f → s1.P k f = s.P k f
theorem oc_r {PI PF PR PP : Nat → Nat → Prop} {s : uS} : oc PI PF PR PP s s := ⟨Nat.le_refl _, fun _ _ => rfl, fun _ _ => rfl, fun _ _ _ _ => rfl, fun _ _ _ _ => rfl, fun _ _ _ _ => rfl, fun _ _ _ _ => rfl⟩
theorem oc_t {PI PF PR PP : Nat → Nat → Prop} {s s1 s2 : uS} (h : oc PI PF PR PP s s1) (g : oc PI PF PR PP s1 s2) : oc PI PF PR PP s s2 := by
  obtain ⟨a1, a2, a3, a4, a5, a6, a7⟩ := h
  obtain ⟨b1, b2, b3, b4, b5, b6, b7⟩ := g
  exact ⟨by omega, fun k h => (b2 k (by omega)).trans (a2 k h), fun k h => (b3 k (by omega)).trans (a3 k h), fun k f h n => (b4 k f (by omega) n).trans (a4 k f h n), fun k f h n => (b5 k f (by omega) n).trans (a5 k f h n), fun k f h n => (b6 k f (by omega) n).trans (a6 k f h n), fun k f h n => (b7 k f (by omega) n).trans (a7 k f h n)⟩
theorem oc_w {PI PF PR PP QI QF QR QP : Nat → Nat → Prop} {s s1 : uS} (h : oc PI PF PR PP s s1) (i : ∀ k f, PI k f → QI k f) (f : ∀ k f, PF k f → QF k f) (r : ∀ k f, PR k f → QR k f) (p : ∀ k f, PP k f → QP k f) : oc QI QF QR QP s s1 := by
  obtain ⟨a1, a2, a3, a4, a5, a6, a7⟩ := h
  exact ⟨a1, a2, a3, fun k g h n => a4 k g h (fun e => n (i k g e)), fun k g h n => a5 k g h (fun e => n (f k g e)), fun k g h n => a6 k g h (fun e => n (r k g e)), fun k g h n => a7 k g h (fun e => n (p k g e))⟩
theorem oc_out {PI PF PR PP : Nat → Nat → Prop} {s s1 : uS} (h : out PI PF s s1) : oc PI PF PR PP s s1 := by
  obtain ⟨⟨a1, a2, a3, a4, a5, a6⟩, a7, a8⟩ := h
  exact ⟨by omega, fun k _ => by rw [a1], fun k _ => by rw [a3], fun k f _ n => a7 k f n, fun k f _ n => a8 k f n, fun k f _ _ => by rw [a2], fun k f _ _ => by rw [a4]⟩
theorem oc_I {PI PF PR PP : Nat → Nat → Prop} {s s1 : uS} {k f : Nat} {v : Int32} (h : oc PI PF PR PP s s1) (hk : PI k f ∨ s.n ≤ k) : oc PI PF PR PP s (wI s1 k f v) := by
  obtain ⟨a1, a2, a3, a4, a5, a6, a7⟩ := h
  refine ⟨a1, a2, a3, ?_, a5, a6, a7⟩
  intro a b ha hb
  rw [wI_I, if_neg (fun e => hk.elim (fun z => hb (by rw [e.1, e.2]; exact z)) (fun z => by omega))]
  exact a4 a b ha hb
theorem oc_F {PI PF PR PP : Nat → Nat → Prop} {s s1 : uS} {k f : Nat} {v : Int32} (h : oc PI PF PR PP s s1) (hk : PF k f ∨ s.n ≤ k) : oc PI PF PR PP s (wF s1 k f v) := by
  obtain ⟨a1, a2, a3, a4, a5, a6, a7⟩ := h
  refine ⟨a1, a2, a3, a4, ?_, a6, a7⟩
  intro a b ha hb
  rw [wF_F, if_neg (fun e => hk.elim (fun z => hb (by rw [e.1, e.2]; exact z)) (fun z => by omega))]
  exact a5 a b ha hb
theorem oc_R {PI PF PR PP : Nat → Nat → Prop} {s s1 : uS} {k f : Nat} {v : Option Nat} (h : oc PI PF PR PP s s1) (hk : PR k f ∨ s.n ≤ k) : oc PI PF PR PP s (wR s1 k f v) := by
  obtain ⟨a1, a2, a3, a4, a5, a6, a7⟩ := h
  refine ⟨a1, a2, a3, a4, a5, ?_, a7⟩
  intro a b ha hb
  rw [wR_R, if_neg (fun e => hk.elim (fun z => hb (by rw [e.1, e.2]; exact z)) (fun z => by omega))]
  exact a6 a b ha hb
theorem oc_P {PI PF PR PP : Nat → Nat → Prop} {s s1 : uS} {k f : Nat} {v : Option Nat} (h : oc PI PF PR PP s s1) (hk : PP k f ∨ s.n ≤ k) : oc PI PF PR PP s (wP s1 k f v) := by
  obtain ⟨a1, a2, a3, a4, a5, a6, a7⟩ := h
  refine ⟨a1, a2, a3, a4, a5, a6, ?_⟩
  intro a b ha hb
  rw [wP_P, if_neg (fun e => hk.elim (fun z => hb (by rw [e.1, e.2]; exact z)) (fun z => by omega))]
  exact a7 a b ha hb
theorem oc_Fs {PI PF PR PP : Nat → Nat → Prop} {s s1 : uS} {k : Nat} {g : Nat → Int32} (h : oc PI PF PR PP s s1) (hk : s.n ≤ k) : oc PI PF PR PP s (wFs s1 k g) := by
  obtain ⟨a1, a2, a3, a4, a5, a6, a7⟩ := h
  refine ⟨a1, a2, a3, a4, ?_, a6, a7⟩
  intro a b ha hb
  show (if a = k then g else s1.F a) b = _
  rw [if_neg (by omega)]
  exact a5 a b ha hb
theorem oc_nw {PI PF PR PP : Nat → Nat → Prop} {s s1 : uS} {t N sl : Nat} (h : oc PI PF PR PP s s1) : oc PI PF PR PP s (nw s1 t N sl) := by
  obtain ⟨a1, a2, a3, a4, a5, a6, a7⟩ := h
  refine ⟨Nat.le_succ_of_le a1, ?_, ?_, ?_, ?_, ?_, ?_⟩
  · intro k hk; exact (if_neg (show ¬ k = s1.n by omega)).trans (a2 k hk)
  · intro k hk; exact (funext fun f => if_neg (show ¬ k = s1.n by omega)).trans (a3 k hk)
  · intro k f hk hn; exact (if_neg (show ¬ k = s1.n by omega)).trans (a4 k f hk hn)
  · intro k f hk hn; exact (if_neg (show ¬ k = s1.n by omega)).trans (a5 k f hk hn)
  · intro k f hk hn; exact (if_neg (show ¬ k = s1.n by omega)).trans (a6 k f hk hn)
  · intro k f hk hn; exact (if_neg (show ¬ k = s1.n by omega)).trans (a7 k f hk hn)
theorem oc.F {PI PF PR PP : Nat → Nat → Prop} {s s1 : uS} (h : oc PI PF PR PP s s1) {k : Nat} (hk : k < s.n) (hn : ∀ f, ¬ PF k f) : s1.F k = s.F k := funext fun f => h.2.2.2.2.1 k f hk (hn f)
theorem oc.I {PI PF PR PP : Nat → Nat → Prop} {s s1 : uS} (h : oc PI PF PR PP s s1) {k : Nat} (hk : k < s.n) (hn : ∀ f, ¬ PI k f) : s1.I k = s.I k := funext fun f => h.2.2.2.1 k f hk (hn f)
theorem oc.R {PI PF PR PP : Nat → Nat → Prop} {s s1 : uS} (h : oc PI PF PR PP s s1) {k : Nat} (hk : k < s.n) (hn : ∀ f, ¬ PR k f) : s1.R k = s.R k := funext fun f => h.2.2.2.2.2.1 k f hk (hn f)
theorem oc.P {PI PF PR PP : Nat → Nat → Prop} {s s1 : uS} (h : oc PI PF PR PP s s1) {k : Nat} (hk : k < s.n) (hn : ∀ f, ¬ PP k f) : s1.P k = s.P k := funext fun f => h.2.2.2.2.2.2 k f hk (hn f)
theorem cBn.oc {PI PF PR PP : Nat → Nat → Prop} {s s1 : uS} {k : Nat} {bs : List Nat} (h : cBn s k bs) (o : oc PI PF PR PP s s1) (hn : ∀ f, ¬ PF k f) : cBn s1 k bs := h.fr o.1 (o.2.1 k h.1) (o.F h.1 hn)
/-- a new row with a copy of some bytes in it -/
theorem c_range {s : uS} {k fr cap : Nat} {x : List Nat} (hk : k < 1171) (hc : ucl k = (21, cap)) (hcap : cap ≤ 10000) (h : rdC s k fr x) (hx : fr + x.length ≤ cap) (hn1 : 1171 ≤ s.n) (hn : s.n + 1 ≤ 600000) (hm : s.m + x.length ≤ 7302250) : ∃ s1 : uS, fn_J7_copyOfRange_39247 k (nI fr) (nI (fr + x.length)) s = some (s1, s.n) ∧ s1.n = s.n + 1 ∧ s1.m = s.m + x.length ∧ cBn s1 s.n x ∧ ∀ PI PF PR PP : Nat → Nat → Prop, oc PI PF PR PP s s1 := by
  obtain ⟨h1, h2, h3⟩ := h
  have hcl : uCl s k = (21, cap) := by rw [uCl_c hk]; exact hc
  have hF : ∀ j : Nat, j < x.length → s.F k (fr + j) = sb (x.getD j 0) := by
    intro j hj
    have := h3 j hj
    rw [iget_c hk hc (by omega) (by omega)] at this
    exact Option.some.inj this
  have fin : ∀ (g : Nat → Int32), (∀ j : Nat, j < x.length → g j = sb (x.getD j 0)) → ∃ s1 : uS, some (wFs (nw s 21 x.length x.length) s.n g, s.n) = some (s1, s.n) ∧ s1.n = s.n + 1 ∧ s1.m = s.m + x.length ∧ cBn s1 s.n x ∧ ∀ PI PF PR PP : Nat → Nat → Prop, oc PI PF PR PP s s1 := by
    intro g hg
    refine ⟨_, rfl, rfl, rfl, ⟨Nat.lt_succ_self _, hn1, ?_, by omega, h2, ?_⟩, fun PI PF PR PP => oc_Fs (oc_nw oc_r) (Nat.le_refl _)⟩
    · exact if_pos rfl
    · intro i hi
      show (if s.n = s.n then g else _) i = _
      rw [if_pos rfl]
      exact hg i hi
  have gen : ∃ s1 : uS, fb_J7_copyOfRange_39247_10 k (nI fr) (nI (fr + x.length)) s = some (s1, s.n) ∧ s1.n = s.n + 1 ∧ s1.m = s.m + x.length ∧ cBn s1 s.n x ∧ ∀ PI PF PR PP : Nat → Nat → Prop, oc PI PF PR PP s s1 := by
    unfold fb_J7_copyOfRange_39247_10 fn_J7_copyOfRangeByte_39247 fn_J7_checkLength_df160 nbuf
    rw [if_pos (nI_le (by omega) (by omega)), Option.bind_some, nI_sub (by omega), Nat.add_sub_cancel_left, nI_clamp (by omega), if_pos ⟨nI_pos (by omega), hn, hm⟩, Option.bind_some]
    have hcn : uCl (nw s 21 x.length x.length) k = (21, cap) := by rw [uCl_c hk]; exact hc
    have hcn2 : uCl (nw s 21 x.length x.length) s.n = (21, x.length) := by
      unfold uCl
      rw [if_neg (by omega)]
      exact if_pos rfl
    rw [ulen_c hk hc (by decide), Option.bind_some, nI_sub (by omega)]
    have hmin : (if nI x.length < nI (cap - fr) then nI x.length else nI (cap - fr)) = nI x.length := by
      by_cases c : x.length < cap - fr
      · rw [if_pos (nI_lt c (by omega))]
      · rw [if_neg (nI_nlt (by omega) (by omega)), show cap - fr = x.length by omega]
    rw [hmin]
    unfold acpy
    rw [if_pos ⟨⟨Or.inl hk, by rw [hcn]⟩, ⟨Or.inr (Nat.lt_succ_self _), by rw [hcn2]⟩, nI_pos (by omega), by decide, nI_pos (by omega), by rw [hcn, nI_clamp (by omega), nI_clamp (by omega)]; exact hx, by rw [hcn2, nI_clamp (by omega)]; exact Nat.le_of_eq (Nat.zero_add _)⟩, Option.bind_some, Option.bind_some, nI_clamp (by omega), nI_clamp (by omega)]
    apply fin
    intro j hj
    unfold va_cpy
    rw [if_pos ⟨Nat.zero_le _, by show j < 0 + x.length; omega⟩]
    show (nw s 21 x.length x.length).F k (fr + j) = _
    exact (if_neg (show ¬ k = s.n by omega)).trans (hF j hj)
  unfold fn_J7_copyOfRange_39247
  by_cases c : nI fr = 0
  · rw [if_pos c, ulen_c hk hc (by decide), Option.bind_some]
    have c0 : fr = 0 := by
      have : nI fr = nI 0 := c
      rwa [nI_eq (by omega) (by omega)] at this
    by_cases d : nI (fr + x.length) = nI cap
    · rw [if_pos d]
      have hxc : x.length = cap := by
        rw [nI_eq (by omega) (by omega)] at d
        omega
      unfold nclo
      rw [if_pos ⟨⟨Or.inl hk, by rw [hcl]⟩, hn, by rw [hcl]; show s.m + cap ≤ _; omega⟩, Option.bind_some, hcl, if_pos ⟨Or.inr (Nat.lt_succ_self _), by
        show (uCl (wFs (nw s 21 cap cap) s.n (s.F k)) s.n).1 = 21
        unfold uCl
        rw [if_neg (by omega)]
        exact congrArg Prod.fst (if_pos rfl : (if s.n = s.n then (21, cap) else s.c s.n) = (21, cap))⟩]
      rw [← hxc]
      exact fin (s.F k) (fun j hj => by have := hF j hj; rwa [c0, Nat.zero_add] at this)
    · rw [if_neg d]; exact gen
  · rw [if_neg c]; exact gen
theorem c_copyOf {s : uS} {k cap mo bg i : Nat} {ts : List (List Nat)} {cur : List Nat} (hk : uTx k cap mo) (h : cTz s k cap mo ts bg cur) (hi : i < ts.length) (hn1 : 1171 ≤ s.n) (hn : s.n + 1 ≤ 600000) (hm : s.m + (ts.getD i []).length ≤ 7302250) : ∃ s1 : uS, fn_X9_copyOf k (nI i) s = some (s1, s.n) ∧ s1.n = s.n + 1 ∧ s1.m = s.m + (ts.getD i []).length ∧ cBn s1 s.n (ts.getD i []) ∧ ∀ PI PF PR PP : Nat → Nat → Prop, oc PI PF PR PP s s1 := by
  obtain ⟨fr, a1, a2, a3, a4⟩ := tz_rd hk h hi
  obtain ⟨s1, b1, b2⟩ := c_range (by have := hk.1; omega) hk.2.1 hk.2.2.2.2.1 a3 a4 hn1 hn hm
  have h2 := h.2.1
  have h6 := hk.2.2.2.2.2
  refine ⟨s1, ?_, b2⟩
  unfold fn_X9_copyOf
  rw [tz_has hk h (by omega), decide_eq_true hi, Option.bind_some, if_pos rfl, a1, Option.bind_some, a2, Option.bind_some, b1, Option.bind_some]
