/-! frames: the places fall into regions; what a function leaves alone -/
def rg (k : Nat) : Nat := if k = 0 then 0 else if k = 1 then 1 else if k < 5 then 2 else if k = 5 then 3 else if k < 976 then 4 else if k < 1040 then (if (k - 976) % 16 < 2 then 5 else if (k - 976) % 16 < 9 then 6 else 7) else if k < 1042 then 5 else if k < 1053 then 8 else if k < 1070 then 9 else if k < 1079 then 10 else if k < 1171 then 11 else 12
def sameAt (s s1 : uS) (k : Nat) : Prop := s1.I k = s.I k ∧ s1.R k = s.R k ∧ s1.F k = s.F k ∧ s1.L k = s.L k ∧ s1.P k = s.P k
/-- only what lies in the regions rs, or at the places ks, is another; 12: cells are made -/
def agr (rs ks : List Nat) (s s1 : uS) : Prop := 1171 ≤ s.n → s.n ≤ s1.n ∧ (∀ k : Nat, k < s.n → s1.c k = s.c k) ∧ (12 ∉ rs → s1.n = s.n ∧ s1.m = s.m ∧ s1.c = s.c) ∧ ∀ k : Nat, k < s.n → rg k ∉ rs → k ∉ ks → sameAt s s1 k
theorem agr.rf {rs ks : List Nat} {s : uS} : agr rs ks s s := fun _ => ⟨Nat.le_refl _, fun _ _ => rfl, fun _ => ⟨rfl, rfl, rfl⟩, fun _ _ _ _ => ⟨rfl, rfl, rfl, rfl, rfl⟩⟩
theorem agr.tr {rs ks : List Nat} {s s1 s2 : uS} (h : agr rs ks s s1) (h' : agr rs ks s1 s2) : agr rs ks s s2 := fun hn => by
  obtain ⟨a1, a2, a3, a4⟩ := h hn
  obtain ⟨b1, b2, b3, b4⟩ := h' (Nat.le_trans hn a1)
  refine ⟨Nat.le_trans a1 b1, fun k hk => (b2 k (Nat.lt_of_lt_of_le hk a1)).trans (a2 k hk), fun h12 => ?_, fun k hk h1 h2 => ?_⟩
  · obtain ⟨p1, p2, p3⟩ := a3 h12
    obtain ⟨q1, q2, q3⟩ := b3 h12
    exact ⟨q1.trans p1, q2.trans p2, q3.trans p3⟩
  · obtain ⟨p1, p2, p3, p4, p5⟩ := a4 k hk h1 h2
    obtain ⟨q1, q2, q3, q4, q5⟩ := b4 k (Nat.lt_of_lt_of_le hk a1) h1 h2
    exact ⟨q1.trans p1, q2.trans p2, q3.trans p3, q4.trans p4, q5.trans p5⟩
theorem agr.mo {rs rs' ks ks' : List Nat} {s s1 : uS} (h : agr rs ks s s1) (h1 : ∀ x ∈ rs, x ∈ rs') (h2 : ∀ k ∈ ks, rg k ∈ rs' ∨ k ∈ ks') : agr rs' ks' s s1 := fun hn => by
  obtain ⟨a1, a2, a3, a4⟩ := h hn
  refine ⟨a1, a2, fun h12 => a3 (fun e => h12 (h1 _ e)), fun k hk g1 g2 => a4 k hk (fun e => g1 (h1 _ e)) (fun e => (h2 k e).elim g1 g2)⟩
theorem agr_w {rs ks : List Nat} {s s1 : uS} {a : Nat} (h : rg a ∈ rs ∨ a ∈ ks) (hc : s1.c = s.c) (hn : s1.n = s.n) (hm : s1.m = s.m) (ho : ∀ k : Nat, k ≠ a → sameAt s s1 k) : agr rs ks s s1 := fun _ => ⟨Nat.le_of_eq hn.symm, fun k _ => by rw [hc], fun _ => ⟨hn, hm, hc⟩, fun k _ h1 h2 => ho k (fun e => by subst e; exact h.elim h1 h2)⟩
theorem agr_wI {rs ks : List Nat} {s : uS} {a f : Nat} {v : Int32} (h : rg a ∈ rs ∨ a ∈ ks) : agr rs ks s (wI s a f v) := agr_w h rfl rfl rfl (fun _ hk => ⟨uw2_ne hk, rfl, rfl, rfl, rfl⟩)
theorem agr_wR {rs ks : List Nat} {s : uS} {a f : Nat} {v : Option Nat} (h : rg a ∈ rs ∨ a ∈ ks) : agr rs ks s (wR s a f v) := agr_w h rfl rfl rfl (fun _ hk => ⟨rfl, uw2_ne hk, rfl, rfl, rfl⟩)
theorem agr_iput {rs ks : List Nat} {s s1 : uS} {t a : Nat} {i v : Int32} (e : iput t s a i v = some s1) (h : rg a ∈ rs ∨ a ∈ ks) : agr rs ks s s1 := by
  obtain ⟨-, h3⟩ := uu_grd e
  cases h3
  exact agr_w h rfl rfl rfl (fun _ hk => ⟨rfl, rfl, uw2_ne hk, rfl, rfl⟩)
theorem agr_lput {rs ks : List Nat} {s s1 : uS} {a : Nat} {i : Int32} {v : Int64} (e : lput s a i v = some s1) (h : rg a ∈ rs ∨ a ∈ ks) : agr rs ks s s1 := by
  obtain ⟨-, h3⟩ := uu_grd e
  cases h3
  exact agr_w h rfl rfl rfl (fun _ hk => ⟨rfl, rfl, rfl, uw2_ne hk, rfl⟩)
theorem agr_pput {rs ks : List Nat} {s s1 : uS} {a v : Nat} {i : Int32} (e : pput s a i v = some s1) (h : rg a ∈ rs ∨ a ∈ ks) : agr rs ks s s1 := by
  obtain ⟨-, h3⟩ := uu_grd e
  cases h3
  exact agr_w h rfl rfl rfl (fun _ hk => ⟨rfl, rfl, rfl, rfl, uw2_ne hk⟩)
theorem agr_wFs {rs ks : List Nat} {s : uS} {a : Nat} {g : Nat → Int32} (h : rg a ∈ rs ∨ a ∈ ks) : agr rs ks s (wFs s a g) := agr_w h rfl rfl rfl (fun _ hk => ⟨rfl, rfl, if_neg hk, rfl, rfl⟩)
theorem agr_acpy {rs ks : List Nat} {s s1 : uS} {k0 a : Nat} {sp dp n : Int32} (e : acpy s k0 sp a dp n = some s1) (h : rg a ∈ rs ∨ a ∈ ks) : agr rs ks s s1 := by
  obtain ⟨-, h3⟩ := uu_grd e
  cases h3
  exact agr_wFs h
theorem agr_nw {rs ks : List Nat} {s : uS} {t N sl : Nat} (h : 12 ∈ rs) : agr rs ks s (nw s t N sl) := fun _ => ⟨Nat.le_succ _, fun k hk => if_neg (Nat.ne_of_lt hk), fun h12 => absurd h h12, fun k hk _ _ => ⟨funext fun _ => if_neg (Nat.ne_of_lt hk), funext fun _ => if_neg (Nat.ne_of_lt hk), funext fun _ => if_neg (Nat.ne_of_lt hk), funext fun _ => if_neg (Nat.ne_of_lt hk), funext fun _ => if_neg (Nat.ne_of_lt hk)⟩⟩
theorem agr_nbuf {rs ks : List Nat} {s s1 : uS} {x : Int32} (e : nbuf s x = some s1) (h : 12 ∈ rs) : agr rs ks s s1 := by
  obtain ⟨-, h3⟩ := uu_grd e
  cases h3
  exact agr_nw h
theorem agr_nent {rs ks : List Nat} {s s1 : uS} (e : nent s = some s1) (h : 12 ∈ rs) : agr rs ks s s1 := by
  obtain ⟨-, h3⟩ := uu_grd e
  cases h3
  exact agr_nw h
theorem agr_nclo {rs ks : List Nat} {s s1 : uS} {k : Nat} (e : nclo s k = some s1) (h : 12 ∈ rs) : agr rs ks s s1 := by
  obtain ⟨-, h3⟩ := uu_grd e
  cases h3
  intro hn
  obtain ⟨a1, a2, a3, a4⟩ := agr_nw (rs := rs) (ks := ks) (s := s) (t := 21) (N := (uCl s k).2) (sl := (uCl s k).2) h hn
  refine ⟨a1, a2, fun h12 => absurd h h12, fun q hq h1 h2 => ?_⟩
  obtain ⟨p1, p2, p3, p4, p5⟩ := a4 q hq h1 h2
  exact ⟨p1, p2, (if_neg (Nat.ne_of_lt hq)).trans p3, p4, p5⟩
theorem rg_X5 {j d : Nat} (h : uSo j 5) (hd : d ≤ 1) : rg (j + d) = 5 := by
  have : ∀ j, j < 1171 → (ucl j).1 = 5 → ∀ d, d ≤ 1 → rg (j + d) = 5 := by decide +kernel
  exact this j h.1 h.2 d hd
theorem rg_X8 {j d : Nat} (h : uSo j 8) (hd : d ≤ 6) : rg (j + d) = 6 := by
  have : ∀ j, j < 1171 → (ucl j).1 = 8 → ∀ d, d ≤ 6 → rg (j + d) = 6 := by decide +kernel
  exact this j h.1 h.2 d hd
theorem rg_X10 {j d : Nat} (h : uSo j 10) (hd : d ≤ 6) : rg (j + d) = 7 := by
  have : ∀ j, j < 1171 → (ucl j).1 = 10 → ∀ d, d ≤ 6 → rg (j + d) = 7 := by decide +kernel
  exact this j h.1 h.2 d hd
theorem rg_X3 {j d : Nat} (h : uSo j 3) (hd : d ≤ 2) : rg (j + d) = 4 := by
  have : ∀ j, j < 1171 → (ucl j).1 = 3 → ∀ d, d ≤ 2 → rg (j + d) = 4 := by decide +kernel
  exact this j h.1 h.2 d hd
theorem rg_12 {k : Nat} (h : 1171 ≤ k) : rg k = 12 := by
  unfold rg
  rw [if_neg (by omega), if_neg (by omega), if_neg (by omega), if_neg (by omega), if_neg (by omega), if_neg (by omega), if_neg (by omega), if_neg (by omega), if_neg (by omega), if_neg (by omega), if_neg (by omega)]
theorem rg_e {s : uS} {j : Nat} (h : uIs s j 1) : rg j = 12 := by
  have h1 : ∀ k, k < 1171 → (ucl k).1 ≠ 1 := by decide +kernel
  refine rg_12 (Nat.not_lt.mp fun hk => h1 j hk ?_)
  have h2 := h.2
  rw [uCl_c hk] at h2
  exact h2
/-- a copy into a new row -/
theorem agr_acpyN {rs ks : List Nat} {s0 s s1 : uS} {k0 : Nat} {sp dp n : Int32} (h12 : 12 ∈ rs) (hb : agr rs ks s0 s) (e : acpy s k0 sp s0.n dp n = some s1) : agr rs ks s0 s1 := by
  intro hn
  refine (hb.tr (agr_acpy (rs := rs) (ks := ks) e (Or.inl ?_))) hn
  rw [rg_12 hn]
  exact h12
theorem yc_J7_checkLength {x0 x1 : Int32} {s r : uS} (h : fn_J7_checkLength_df160 x0 x1 s = some r) : r = s := by
  unfold fn_J7_checkLength_df160 at h
  by_cases c : x0 ≤ x1
  · exact (Option.some.inj (uu_pos c h)).symm
  · cases uu_neg c h
theorem yc_J7_copyOf_9075b {k0 : Nat} {x1 : Int32} {s : uS} {r : uS × Nat} (h : fn_J7_copyOf_9075b k0 x1 s = some r) : agr [12] [] s r.1 := by
  unfold fn_J7_copyOf_9075b at h
  obtain ⟨v1, e1, h⟩ := uu_ob h
  by_cases c : x1 = v1
  · replace h := uu_pos c h
    obtain ⟨s2, e2, h⟩ := uu_ob h
    obtain ⟨g, h⟩ := uu_grd h
    have hr := Option.some.inj h
    subst hr
    exact agr_nclo e2 (by decide)
  · replace h := uu_neg c h
    obtain ⟨s2, e2, h⟩ := uu_ob h
    obtain ⟨v3, e3, h⟩ := uu_ob h
    obtain ⟨s4, e4, h⟩ := uu_ob h
    have hr := Option.some.inj h
    subst hr
    exact agr_acpyN (by decide) (agr_nbuf e2 (by decide)) e4
theorem yc_J7_copyOfRangeByte_39247 {k0 : Nat} {x1 x2 : Int32} {s : uS} {r : uS × Nat} (h : fn_J7_copyOfRangeByte_39247 k0 x1 x2 s = some r) : agr [12] [] s r.1 := by
  unfold fn_J7_copyOfRangeByte_39247 at h
  obtain ⟨s1, e1, h⟩ := uu_ob h
  rw [yc_J7_checkLength e1] at h
  obtain ⟨s2, e2, h⟩ := uu_ob h
  obtain ⟨v3, e3, h⟩ := uu_ob h
  obtain ⟨s4, e4, h⟩ := uu_ob h
  have hr := Option.some.inj h
  subst hr
  exact agr_acpyN (by decide) (agr_nbuf e2 (by decide)) e4
theorem yc_J7_copyOfRange_39247 {k0 : Nat} {x1 x2 : Int32} {s : uS} {r : uS × Nat} (h : fn_J7_copyOfRange_39247 k0 x1 x2 s = some r) : agr [12] [] s r.1 := by
  have hb : ∀ {r : uS × Nat}, fb_J7_copyOfRange_39247_10 k0 x1 x2 s = some r → agr [12] [] s r.1 := by
    intro r h
    unfold fb_J7_copyOfRange_39247_10 at h
    obtain ⟨r1, e1, h⟩ := uu_ob h
    have hr := Option.some.inj h
    subst hr
    exact yc_J7_copyOfRangeByte_39247 e1
  unfold fn_J7_copyOfRange_39247 at h
  by_cases c : x1 = 0
  · replace h := uu_pos c h
    obtain ⟨v1, e1, h⟩ := uu_ob h
    by_cases c2 : x2 = v1
    · replace h := uu_pos c2 h
      obtain ⟨s2, e2, h⟩ := uu_ob h
      obtain ⟨g, h⟩ := uu_grd h
      have hr := Option.some.inj h
      subst hr
      exact agr_nclo e2 (by decide)
    · exact hb (uu_neg c2 h)
  · exact hb (uu_neg c h)
