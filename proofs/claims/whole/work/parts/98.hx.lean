/-! the smaller calls -/
def wB (k : Nat) : Prop := k = 5 ∨ (976 ≤ k ∧ k < 1040 ∧ 9 ≤ (k - 976) % 16) ∨ 1171 ≤ k
def wX (k : Nat) : Prop := k = 5 ∨ (976 ≤ k ∧ k < 1040 ∧ 2 ≤ (k - 976) % 16) ∨ (1042 ≤ k ∧ k ≤ 1052) ∨ 1171 ≤ k
theorem wW.x {dy : Nat} {s t s1 t1 : uS} (h : wW dy s t) (hn : 1171 ≤ s.n) (o : sW wB s s1) (i0 : ∀ f : Nat, 10 ≤ f → f ≤ 12 → s1.I 0 f = s.I 0 f) (qV : tV t t1) (qS : ∀ k : Nat, 1149 ≤ k → k ≤ 1155 → t1.F k = t.F k ∧ t1.L k = t.L k) (hq : ∀ u : Nat, u < 5 → pQ1 u s1 t1) : wW dy s1 t1 := by
  obtain ⟨h1, h2, h3, -, ms, p, h5, h6, h7⟩ := h
  have hB : ∀ k : Nat, 1171 ≤ k → wB k := fun k hk => Or.inr (Or.inr hk)
  refine ⟨fun u hu => ?_, fun u hu => ?_, fun u hu => ?_, hq, ms, p, ?_, h6.tv qV, h7⟩
  · obtain ⟨bx, bg, a, b, c, d⟩ := h1 u hu
    exact ⟨bx, bg, a, b.sw o (by omega) (by unfold wB; omega) (by unfold wB; omega) (by unfold wB; omega) (by unfold wB; omega), c, d.fr (fun k j y1 y2 => by rw [(qV.2 k (by omega) (by omega)).1])⟩
  · obtain ⟨ns, a, b, c⟩ := h2 u hu
    exact ⟨ns, a, b.sw o hu hn (by unfold wB; omega) (by unfold wB; omega) hB, c.tv qV⟩
  · obtain ⟨scs, ac, ⟨es, a⟩, sl, b⟩ := h3 u hu
    have F : ∀ k : Nat, 1149 ≤ k → k ≤ 1155 → t1.F k = t.F k := fun k y1 y2 => (qS k y1 y2).1
    exact ⟨scs, ac, ⟨es, a.sw o hu hn (by unfold wB; omega) (by unfold wB; omega) hB⟩, sl, b.fr (by rw [F _ (by omega) (by omega)]) (by rw [F _ (by omega) (by omega)]) (fun f _ _ => ⟨by rw [F _ (by omega) (by omega)], by rw [F _ (by omega) (by omega)], by rw [F _ (by omega) (by omega)]⟩) (fun f _ _ => by rw [F _ (by omega) (by omega)]) (fun f _ _ => by rw [(qS 1154 (by omega) (by omega)).2])⟩
  · obtain ⟨x1, x2, x3, x4, x5⟩ := h5
    obtain ⟨b1, b2, b3, b4, b5⟩ := o.2 5 (by omega) (Or.inl rfl)
    refine ⟨x1, (i0 _ (by omega) (by omega)).trans x2, (i0 _ (by omega) (by omega)).trans x3, (i0 _ (by omega) (by omega)).trans x4, fun i hi => ?_⟩
    obtain ⟨e, e1, e2⟩ := x5 i hi
    exact ⟨e, by rw [b5]; exact e1, e2.sw o hB⟩
theorem gK.x {dy κ τ : Nat} {pw : Bool} {s t s1 t1 : uS} (h : gK dy κ τ pw s t) (o : sW wX s s1) (i0 : ∀ f : Nat, f ≠ 9 → s1.I 0 f = s.I 0 f) (rI : ∀ f : Nat, f ≠ 5 → t1.I 1079 f = t.I 1079 f) (rF : ∀ k : Nat, 1087 ≤ k → k < 1171 → t1.F k = t.F k ∧ t1.L k = t.L k) (hn2 : 1171 ≤ t1.n) (hq : ∀ u : Nat, u < 5 → pQ1 u s1 t1) : gK dy κ τ pw s1 t1 := by
  obtain ⟨h1, ⟨cm, ct, ⟨a1, a2, a3, a4, a5⟩, b1, b2, b3, b4, b5⟩, h3, h4, h5, h6, h7⟩ := h
  refine ⟨h1.x h3 (sW_w o (fun k z => by unfold wB at z; unfold wX; omega)) (fun f y1 y2 => i0 f (by omega)) ⟨fun f z => rI f (by unfold xB at z; omega), fun k y1 y2 => rF k (by omega) (by omega)⟩ (fun k y1 y2 => rF k (by omega) (by omega)) hq, ⟨cm, ct, ⟨(i0 _ (by decide)).trans a1, (i0 _ (by decide)).trans a2, (i0 _ (by decide)).trans a3, (i0 _ (by decide)).trans a4, a5⟩, (rI _ (by decide)).trans b1, (rI _ (by decide)).trans b2, (rI _ (by decide)).trans b3, (rI _ (by decide)).trans b4, b5⟩, Nat.le_trans h3 o.1, hn2, ?_, ?_, ?_⟩
  · intro n hn
    rw [(rF 1099 (by omega) (by omega)).1, (rF 1100 (by omega) (by omega)).1]
    exact h5 n hn
  · exact h6.fr (fun k y1 y2 => by obtain ⟨z1, z2, z3, z4, z5⟩ := o.2 k (by omega) (by unfold wX; omega); exact ⟨z2, z4⟩) (fun f hf => rI f (by omega)) (fun k hk => (rF k (by omega) (by omega)).1)
  · intro u hu
    refine (h7 u hu).fr (fun k f z => ?_) (fun k f z => ?_)
    · unfold sPl at z
      obtain ⟨z1, z2, z3, z4, z5⟩ := o.2 k (by omega) (by unfold wX; omega)
      exact ⟨by rw [z2], by rw [z4]⟩
    · rw [(rF k (by unfold rPl at z; omega) (by unfold rPl at z; omega)).1]
theorem dj.s {s s1 : uS} (h : dj s) (hn : 1171 ≤ s.n) (o : sW wX s s1) : dj s1 := by
  have eP : ∀ k : Nat, wX k → k < 1171 → s1.P k = s.P k := fun k hk hk2 => (o.2 k (by omega) hk).2.2.2.2
  have eO : ∀ k : Nat, oE s1 k → oE s k := by
    intro k z
    rcases z with ⟨i, z⟩ | ⟨v, i, hv, z⟩
    · rw [eP 5 (Or.inl rfl) (by omega)] at z; exact Or.inl ⟨i, z⟩
    · rw [eP _ (by unfold wX; omega) (by omega)] at z; exact Or.inr ⟨v, i, hv, z⟩
  have eS : ∀ u k : Nat, u < 4 → isScr s1 u k → isScr s u k := fun u k hu z => isScr_e (by rw [(o.2 (985 + 16 * u) (by omega) (by unfold wX; omega)).2.1]) (eP _ (by unfold wX; omega) (by omega)) z
  exact ⟨fun k hk => ⟨Nat.lt_of_lt_of_le (h.1 k (eO k hk)).1 o.1, fun u hu z => (h.1 k (eO k hk)).2 u hu (eS u k hu z)⟩, fun u v k hu hv huv z1 z2 => h.2 u v k hu hv huv (eS u k hu z1) (eS v k hv z2)⟩
/-- the reference's places as they were -/
def agT (t t1 : uS) : Prop := t.n ≤ t1.n ∧ ∀ k : Nat, 1079 ≤ k → k < 1171 → t1.I k = t.I k ∧ t1.F k = t.F k ∧ t1.L k = t.L k
def wY (k : Nat) : Prop := k < 1079 ∨ 1171 ≤ k
def agS (s s1 : uS) : Prop := sW wY s s1 ∧ s1.n = s.n ∧ s1.m = s.m
theorem pQ_t {s t t1 : uS} (h : ∀ u : Nat, u < 5 → pQ1 u s t) (g : agT t t1) : ∀ u : Nat, u < 5 → pQ1 u s t1 := fun u hu => by
  obtain ⟨xs, a, b, c⟩ := h u hu
  exact ⟨xs, a, b.fr (g.2 1086 (by omega) (by omega)).2.1 (g.2 (1081 + u) (by omega) (by omega)).2.1, c⟩
theorem gJ.t {j : Nat} {s t t1 : uS} (h : gJ j s t) (g : agT t t1) : gJ j s t1 := by
  obtain ⟨dy, κ, τ, pw, bs, w, hK, hD, ⟨p1, p2, p3, p4, p5, p6⟩, hW, hn, hm, hτ, hdy⟩ := h
  have e79 := (g.2 1079 (by omega) (by omega)).1
  refine ⟨dy, κ, τ, pw, bs, w, hK.x sW_r (fun _ _ => rfl) (fun f _ => by rw [e79]) (fun k y1 y2 => (g.2 k (by omega) y2).2) (Nat.le_trans hK.2.2.2.1 g.1) (pQ_t hK.1.2.2.2.1 g), hD, ⟨p1, p2, p3, by rw [e79]; exact p4, p5, fun i hi => by rw [(g.2 1080 (by omega) (by omega)).2.1]; exact p6 i hi⟩, hW, hn, hm, hτ, hdy⟩
theorem gJ.s {j : Nat} {s t s1 : uS} (h : gJ j s t) (g : agS s s1) : gJ j s1 t := by
  obtain ⟨dy, κ, τ, pw, bs, w, hK, hD, ⟨p1, p2, p3, p4, p5, p6⟩, hW, hn, hm, hτ, hdy⟩ := h
  obtain ⟨o, en, em⟩ := g
  have h3 := hK.2.2.1
  have e0 : s1.I 0 = s.I 0 := (o.2 0 (by omega) (Or.inl (by omega))).2.1
  have oX : sW wX s s1 := sW_w o (fun k z => by unfold wX at z; unfold wY; omega)
  refine ⟨dy, κ, τ, pw, bs, w, hK.x oX (fun f _ => by rw [e0]) (fun _ _ => rfl) (fun _ _ _ => ⟨rfl, rfl⟩) hK.2.2.2.1 (fun u hu => ?_), hD.s h3 oX, ⟨p1, p2, by rw [e0]; exact p3, p4, fun i hi => by rw [(o.2 1 (by omega) (Or.inl (by omega))).2.2.2.1]; exact p5 i hi, p6⟩, fun u hu => ⟨(hW u hu).1, by rw [(o.2 (978 + 16 * u) (by omega) (Or.inl (by omega))).2.1]; exact (hW u hu).2⟩, by rw [en]; exact hn, by rw [em]; exact hm, hτ, hdy⟩
  obtain ⟨xs, a, b, c⟩ := hK.1.2.2.2.1 u hu
  have hq := qk_lt hu
  exact ⟨xs, a.fr (o.2 (qk u) (by omega) (Or.inl (by omega))).2.1 (o.2 (qk u + 1) (by omega) (Or.inl (by omega))).2.2.2.1, b, c⟩
def okT (ps : List (Nat × Nat)) (as rs ks : List Nat) : Bool := !rs.contains 11 && (ks.all fun k => decide (k < 1079)) && (as.all fun k => decide (k < 1079)) && ps.all fun q => decide (q.1 < 1079)
def okS (ps : List (Nat × Nat)) (as rs ks : List Nat) : Bool := rs.isEmpty && (ks.all fun k => decide (1079 ≤ k ∧ k < 1171)) && (as.all fun k => decide (1079 ≤ k ∧ k < 1171)) && ps.all fun q => decide (1079 ≤ q.1 ∧ q.1 < 1171)
theorem agf.t {ps : List (Nat × Nat)} {as rs ks : List Nat} {t t1 : uS} (h : agf ps as rs ks t t1) (hn : 1171 ≤ t.n) (g : okT ps as rs ks = true) : agT t t1 := by
  obtain ⟨a1, a2, a3, a4, a5⟩ := h hn
  unfold okT at g
  rw [Bool.and_eq_true, Bool.and_eq_true, Bool.and_eq_true, List.all_eq_true, List.all_eq_true, List.all_eq_true] at g
  obtain ⟨⟨⟨g1, g2⟩, g3⟩, g4⟩ := g
  refine ⟨a1, fun k y1 y2 => ?_⟩
  have r11 : rg k = 11 := by unfold rg; rw [if_neg (by omega), if_neg (by omega), if_neg (by omega), if_neg (by omega), if_neg (by omega), if_neg (by omega), if_neg (by omega), if_neg (by omega), if_neg (by omega), if_neg (by omega), if_pos y2]
  have n1 : rg k ∉ rs := fun z => by rw [r11] at z; rw [List.contains_iff_mem.mpr z] at g1; cases g1
  have n2 : k ∉ ks := fun z => by have := of_decide_eq_true (g2 k z); omega
  have n3 : k ∉ as := fun z => by have := of_decide_eq_true (g3 k z); omega
  have n4 : ∀ f : Nat, (k, f) ∉ ps := fun f z => by have := of_decide_eq_true (g4 _ z); have e : k < 1079 := this; omega
  exact ⟨funext fun f => (a4 k f (by omega) n1 n2 (n4 f)).1, (a5 k (by omega) n1 n2 n3).1, (a5 k (by omega) n1 n2 n3).2.1⟩
theorem agf.s {ps : List (Nat × Nat)} {as rs ks : List Nat} {s s1 : uS} (h : agf ps as rs ks s s1) (hn : 1171 ≤ s.n) (g : okS ps as rs ks = true) : agS s s1 := by
  obtain ⟨a1, a2, a3, a4, a5⟩ := h hn
  unfold okS at g
  rw [Bool.and_eq_true, Bool.and_eq_true, Bool.and_eq_true, List.all_eq_true, List.all_eq_true, List.all_eq_true] at g
  obtain ⟨⟨⟨g1, g2⟩, g3⟩, g4⟩ := g
  have er : rs = [] := List.isEmpty_iff.mp g1
  subst er
  obtain ⟨b1, b2, b3⟩ := a3 (fun z => nomatch z)
  refine ⟨⟨a1, fun k hk hy => ?_⟩, b1, b2⟩
  unfold wY at hy
  have n2 : k ∉ ks := fun z => by have := of_decide_eq_true (g2 k z); omega
  have n3 : k ∉ as := fun z => by have := of_decide_eq_true (g3 k z); omega
  have n4 : ∀ f : Nat, (k, f) ∉ ps := fun f z => by have := of_decide_eq_true (g4 _ z); have e : 1079 ≤ k ∧ k < 1171 := this; omega
  have n1 : rg k ∉ ([] : List Nat) := fun z => nomatch z
  exact ⟨a2 k hk, funext fun f => (a4 k f hk n1 n2 (n4 f)).1, funext fun f => (a4 k f hk n1 n2 (n4 f)).2, (a5 k hk n1 n2 n3).1, (a5 k hk n1 n2 n3).2.2⟩
/-- one object after the other -/
theorem glue {α : Type} {F G : uS → Option (uS × α)} {j : Nat} (sim : ∀ s t : uS, gJ j s t → ∃ (s1 t1 : uS) (v : α), F s = some (s1, v) ∧ G t = some (t1, v) ∧ gJ (j + 1) s1 t1) (fc : ∀ (s s1 : uS) (v : α), F s = some (s1, v) → 1171 ≤ s.n → agT s s1) (fr : ∀ (t t1 : uS) (v : α), G t = some (t1, v) → 1171 ≤ t.n → agS t t1) : ∀ s : uS, gJ j s s → ∃ (v : α) (s1 s2 : uS), F s = some (s1, v) ∧ G s1 = some (s2, v) ∧ gJ (j + 1) s2 s2 := by
  intro s h
  have h3 : 1171 ≤ s.n := by obtain ⟨dy, κ, τ, pw, bs, w, hK, -⟩ := h; exact hK.2.2.1
  obtain ⟨s1, -, v, e1, -, -⟩ := sim s s h
  have a := fc s s1 v e1 h3
  obtain ⟨s1', t1, v', e2, e3, h4⟩ := sim s s1 (h.t a)
  rw [e1] at e2
  have e4 := Option.some.inj e2
  have e5 : s1 = s1' := congrArg Prod.fst e4
  have e6 : v = v' := congrArg Prod.snd e4
  subst e5
  subst e6
  exact ⟨v, s1, t1, e1, e3, h4.s (fr s1 t1 v e3 (Nat.le_trans h3 a.1))⟩
