/-! what both hold between two calls: messages, mailboxes, notes, scripts, queues -/
def rB (f : Nat) : Prop := f ≤ 20 ∨ (68 ≤ f ∧ f ≤ 93) ∨ 113 ≤ f
def rA (k : Nat) : Prop := (1080 ≤ k ∧ k ≤ 1092) ∨ (1118 ≤ k ∧ k ≤ 1137) ∨ (1144 ≤ k ∧ k ≤ 1170)
/-- the reference's places that no run of a script touches -/
def tW (t t1 : uS) : Prop := t.n ≤ t1.n ∧ (∀ f : Nat, rB f → t1.I 1079 f = t.I 1079 f) ∧ ∀ k : Nat, rA k → t1.F k = t.F k ∧ t1.L k = t.L k
theorem tW_r {t : uS} : tW t t := ⟨Nat.le_refl _, fun _ _ => rfl, fun _ _ => ⟨rfl, rfl⟩⟩
theorem tW_t {t t1 t2 : uS} (h : tW t t1) (g : tW t1 t2) : tW t t2 := ⟨Nat.le_trans h.1 g.1, fun f a => (g.2.1 f a).trans (h.2.1 f a), fun k a => ⟨(g.2.2 k a).1.trans (h.2.2 k a).1, (g.2.2 k a).2.trans (h.2.2 k a).2⟩⟩
theorem tW_out {PI PF : Nat → Nat → Prop} {t t1 : uS} (o : out PI PF t t1) (hI : ∀ f : Nat, rB f → ¬ PI 1079 f) (hF : ∀ k f : Nat, rA k → ¬ PF k f) : tW t t1 := ⟨Nat.le_of_eq o.1.2.2.2.2.1.symm, fun f a => o.2.1 _ _ (hI f a), fun k a => ⟨funext fun f => o.2.2 k f (hF k f a), by rw [o.1.2.2.1]⟩⟩
theorem tW_agf {ps : List (Nat × Nat)} {as rs ks : List Nat} {t t1 : uS} (h : agf ps as rs ks t t1) (hn : 1171 ≤ t.n) (h11 : (11 : Nat) ∉ rs) (hI : ∀ f : Nat, rB f → (1079, f) ∉ ps) (h79 : 1079 ∉ ks) (hF : ∀ k : Nat, rA k → k ∉ ks ∧ k ∉ as) : tW t t1 := by
  obtain ⟨a1, a2, a3, a4, a5⟩ := h hn
  have hrg : ∀ k : Nat, 1079 ≤ k → k ≤ 1170 → rg k = 11 := by
    intro k x y
    unfold rg
    rw [if_neg (by omega), if_neg (by omega), if_neg (by omega), if_neg (by omega), if_neg (by omega), if_neg (by omega), if_neg (by omega), if_neg (by omega), if_neg (by omega), if_neg (by omega), if_pos (by omega)]
  refine ⟨a1, fun f hf => (a4 1079 f (by omega) (by rw [hrg _ (by omega) (by omega)]; exact h11) h79 (hI f hf)).1, fun k hk => ?_⟩
  have hk' : 1080 ≤ k ∧ k ≤ 1170 := by unfold rA at hk; omega
  obtain ⟨b1, b2, b3⟩ := a5 k (by omega) (by rw [hrg _ (by omega) (by omega)]; exact h11) (hF k hk).1 (hF k hk).2
  exact ⟨b1, b2⟩
theorem cEn.sw {A : Nat → Prop} {s s1 : uS} {e : Nat} {m : aM} (h : cEn s e m) (o : sW A s s1) (hA : ∀ k : Nat, 1171 ≤ k → A k) : cEn s1 e m := by
  obtain ⟨h1, h2, h3, h4, h5, h6, ⟨tx, x, h7, h8, h9⟩, h10⟩ := h
  obtain ⟨a1, a2, a3, a4, a5⟩ := o.2 e h1 (hA e h2)
  obtain ⟨b1, b2, b3, b4, b5⟩ := o.2 tx h8.1 (hA tx h8.2.1)
  refine ⟨by have := o.1; omega, h2, by rw [a1]; exact h3, by rw [a2]; exact h4, by rw [a2]; exact h5, by rw [a2]; exact h6, ⟨tx, x, by rw [a3]; exact h7, h8.fr o.1 b1 b4, h9⟩, fun z => ?_⟩
  obtain ⟨lb, y, y1, y2, y3⟩ := h10 z
  obtain ⟨c1, c2, c3, c4, c5⟩ := o.2 lb y2.1 (hA lb y2.2.1)
  exact ⟨lb, y, by rw [a3]; exact y1, y2.fr o.1 c1 c4, y3⟩
theorem cMl.sw {A : Nat → Prop} {s s1 : uS} {ms : List aM} {p : Nat} (h : cMl s ms p) (o : sW A s s1) (hn : 1171 ≤ s.n) (h0 : A 0) (h5 : A 5) (hA : ∀ k : Nat, 1171 ≤ k → A k) : cMl s1 ms p := by
  obtain ⟨x1, x2, x3, x4, x5⟩ := h
  obtain ⟨a1, a2, a3, a4, a5⟩ := o.2 0 (by omega) h0
  obtain ⟨b1, b2, b3, b4, b5⟩ := o.2 5 (by omega) h5
  refine ⟨x1, by rw [a2]; exact x2, by rw [a2]; exact x3, by rw [a2]; exact x4, fun i hi => ?_⟩
  obtain ⟨e, e1, e2⟩ := x5 i hi
  exact ⟨e, by rw [b5]; exact e1, e2.sw o hA⟩
theorem cNe.sw {A : Nat → Prop} {s s1 : uS} {e : Nat} {x : nT} (h : cNe s e x) (o : sW A s s1) (hA : ∀ k : Nat, 1171 ≤ k → A k) : cNe s1 e x := by
  obtain ⟨h1, h2, h3, h4, ⟨lb, l1, l2, l3⟩, tx, t1, t2⟩ := h
  obtain ⟨a1, a2, a3, a4, a5⟩ := o.2 e h1 (hA e h2)
  obtain ⟨b1, b2, b3, b4, b5⟩ := o.2 tx t2.1 (hA tx t2.2.1)
  obtain ⟨c1, c2, c3, c4, c5⟩ := o.2 lb l3.1 (hA lb l3.2.1)
  exact ⟨by have := o.1; omega, h2, by rw [a1]; exact h3, by rw [a2]; exact h4, ⟨lb, by rw [a3]; exact l1, l2, l3.fr o.1 c1 c4⟩, tx, by rw [a3]; exact t1, t2.fr o.1 b1 b4⟩
theorem cNt.sw {A : Nat → Prop} {s s1 : uS} {u : Nat} {ns : List nT} (h : cNt s u ns) (o : sW A s s1) (hu : u < 4) (hn : 1171 ≤ s.n) (h1 : A (985 + 16 * u)) (h2 : A (985 + 16 * u + 2)) (hA : ∀ k : Nat, 1171 ≤ k → A k) : cNt s1 u ns := by
  obtain ⟨a1, a2, a3, a4, a5⟩ := o.2 _ (by omega) h1
  obtain ⟨b1, b2, b3, b4, b5⟩ := o.2 _ (by omega) h2
  refine cNt.of h.1 (by rw [a2]; exact h.2.1) (fun i hi => ?_)
  obtain ⟨e, e1, e2⟩ := h.at hi
  exact ⟨e, by rw [b5]; exact e1, e2.sw o hA⟩
theorem cSc.sw {A : Nat → Prop} {s s1 : uS} {u : Nat} {es : List Nat} {scs : List (List Nat × List Nat)} {ac : Option Nat} (h : cSc s u es scs ac) (o : sW A s s1) (hu : u < 4) (hn : 1171 ≤ s.n) (h1 : A (985 + 16 * u)) (h2 : A (985 + 16 * u + 1)) (hA : ∀ k : Nat, 1171 ≤ k → A k) : cSc s1 u es scs ac := by
  obtain ⟨a1, a2, a3, a4, a5⟩ := o.2 _ (by omega) h1
  obtain ⟨b1, b2, b3, b4, b5⟩ := o.2 _ (by omega) h2
  obtain ⟨x1, x2, x3, x4, x5, x6⟩ := h
  refine ⟨x1, x2, by rw [a2]; exact x3, fun i hi => ?_, x5, by rw [a3]; exact x6⟩
  obtain ⟨y1, y2, y3, y4, ⟨nb, c1, c2, c3⟩, tb, d1, d2⟩ := x4 i hi
  obtain ⟨e1, e2, e3, e4, e5⟩ := o.2 _ y2 (hA _ y3)
  obtain ⟨f1, f2, f3, f4, f5⟩ := o.2 _ c3.1 (hA _ c3.2.1)
  obtain ⟨g1, g2, g3, g4, g5⟩ := o.2 _ d2.1 (hA _ d2.2.1)
  exact ⟨by rw [b5]; exact y1, by have := o.1; omega, y3, by rw [e1]; exact y4, ⟨nb, by rw [e3]; exact c1, c2, c3.fr o.1 f1 f4⟩, tb, by rw [e3]; exact d1, d2.fr o.1 g1 g4⟩
theorem cTz.sw {A : Nat → Prop} {s s1 : uS} {k cap mo bg : Nat} {ts : List (List Nat)} {cur : List Nat} (h : cTz s k cap mo ts bg cur) (o : sW A s s1) (hn : k + 3 < s.n) (h0 : A k) (h1 : A (k + 1)) (h2 : A (k + 2)) (h3 : A (k + 3)) : cTz s1 k cap mo ts bg cur := by
  obtain ⟨a1, a2, a3, a4, a5⟩ := o.2 k (by omega) h0
  obtain ⟨b1, b2, b3, b4, b5⟩ := o.2 (k + 1) (by omega) h1
  obtain ⟨c1, c2, c3, c4, c5⟩ := o.2 (k + 2) (by omega) h2
  obtain ⟨d1, d2, d3, d4, d5⟩ := o.2 (k + 3) (by omega) h3
  exact h.fr (by rw [a2]) (by rw [a2]) (by rw [a2]) b4 c4 d4
theorem rMl.tw {t t1 : uS} {ms : List aM} {p : Nat} (h : rMl t ms p) (o : tW t t1) : rMl t1 ms p := by
  obtain ⟨h1, h2, h3, h4, h5, h6, h7, h8⟩ := h
  have F : ∀ k : Nat, 1119 ≤ k → k ≤ 1125 → t1.F k = t.F k := fun k a b => (o.2.2 k (by unfold rA; omega)).1
  have L : t1.L 1118 = t.L 1118 := (o.2.2 1118 (by unfold rA; omega)).2
  refine ⟨h1, h2, h3, (o.2.1 _ (by unfold rB; omega)).trans h4, (o.2.1 _ (by unfold rB; omega)).trans h5, (o.2.1 _ (by unfold rB; omega)).trans h6, fun i hi => ?_, fun k hk => ?_⟩
  · obtain ⟨a1, a2, a3, a4, a5, at_, a6, a7, a8⟩ := h7 i hi
    exact ⟨by rw [F _ (by omega) (by omega)]; exact a1, by rw [F _ (by omega) (by omega)]; exact a2, by rw [F _ (by omega) (by omega)]; exact a3, by rw [F _ (by omega) (by omega)]; exact a4, a5, at_, by rw [F _ (by omega) (by omega)]; exact a6, a7, fun j hj => by rw [pkb_S, L, ← pkb_S]; exact a8 j hj⟩
  · obtain ⟨q, q1, q2, q3, q4⟩ := h8 k hk
    exact ⟨q, q1, q2, by rw [F _ (by omega) (by omega)]; exact q3, fun j hj => by rw [F _ (by omega) (by omega)]; exact q4 j hj⟩
theorem rBx.tw {t t1 : uS} {u : Nat} {bx : List (List Nat)} (h : rBx t u bx) (o : tW t t1) : rBx t1 u bx := h.fr (fun k j a b => by rw [(o.2.2 k (by unfold rA; omega)).1])
theorem rNt.tw {t t1 : uS} {u : Nat} {ns : List nT} (h : rNt t u ns) (o : tW t t1) : rNt t1 u ns := by
  have F : ∀ k : Nat, 1129 ≤ k → k ≤ 1135 → t1.F k = t.F k := fun k a b => (o.2.2 k (by unfold rA; omega)).1
  have L : ∀ k : Nat, 1129 ≤ k → k ≤ 1135 → t1.L k = t.L k := fun k a b => (o.2.2 k (by unfold rA; omega)).2
  refine ⟨by rw [F _ (by omega) (by omega)]; exact h.1, fun i hi => ?_⟩
  obtain ⟨a1, a2, a3, a4, a5⟩ := h.2 i hi
  exact ⟨by rw [F _ (by omega) (by omega)]; exact a1, by rw [F _ (by omega) (by omega)]; exact a2, fun j hj => by rw [F _ (by omega) (by omega)]; exact a3 j hj, by rw [F _ (by omega) (by omega)]; exact a4, fun j hj => by rw [hdb_S, L _ (by omega) (by omega), L _ (by omega) (by omega), ← hdb_S]; exact a5 j hj⟩
theorem rSc.tw {t t1 : uS} {u : Nat} {sl : List Nat} {scs : List (List Nat × List Nat)} {ac : Option Nat} (h : rSc t u sl scs ac) (o : tW t t1) : rSc t1 u sl scs ac := by
  have F : ∀ k : Nat, 1149 ≤ k → k ≤ 1155 → t1.F k = t.F k := fun k a b => (o.2.2 k (by unfold rA; omega)).1
  have L : t1.L 1154 = t.L 1154 := (o.2.2 1154 (by unfold rA; omega)).2
  exact h.fr (by rw [F _ (by omega) (by omega)]) (by rw [F _ (by omega) (by omega)]) (fun f _ _ => ⟨by rw [F _ (by omega) (by omega)], by rw [F _ (by omega) (by omega)], by rw [F _ (by omega) (by omega)]⟩) (fun f _ _ => by rw [F _ (by omega) (by omega)]) (fun f _ _ => by rw [L])
theorem rQ.tw {t t1 : uS} {u : Nat} {xs : List Int32} (hu : u < 5) (h : rQ t u xs) (o : tW t t1) : rQ t1 u xs := h.fr (by rw [(o.2.2 1086 (by unfold rA; omega)).1]) (by rw [(o.2.2 (1081 + u) (by unfold rA; omega)).1])
/-- the world between two calls -/
def pBx (u : Nat) (s t : uS) : Prop := ∃ (bx : List (List Nat)) (bg : Nat), bxO bx ∧ cTz s (988 + 16 * u) 120 6 bx bg [] ∧ bg ≤ 20 * bx.length ∧ rBx t u bx
def pNt (u dy : Nat) (s t : uS) : Prop := ∃ ns : List nT, ntO ns dy ∧ cNt s u ns ∧ rNt t u ns
def pMs (s t : uS) : Prop := ∃ (ms : List aM) (p : Nat), cMl s ms p ∧ rMl t ms p ∧ ms.length ≤ oN ms + 300 ∧ p ≤ 150000
def wW (dy : Nat) (s t : uS) : Prop := (∀ u : Nat, u < 4 → pBx u s t) ∧ (∀ u : Nat, u < 4 → pNt u dy s t) ∧ (∀ u : Nat, u < 4 → pT u s t) ∧ (∀ u : Nat, u < 5 → pQ1 u s t) ∧ pMs s t
theorem cA_n : ∀ k : Nat, 1171 ≤ k → cA k := fun k h => Or.inr (Or.inr h)
theorem wW.w {dy : Nat} {s t s1 t1 : uS} (h : wW dy s t) (hn : 1171 ≤ s.n) (o : sW cA s s1) (q : tW t t1) : wW dy s1 t1 := by
  obtain ⟨h1, h2, h3, h4, ms, p, h5, h6, h7⟩ := h
  refine ⟨fun u hu => ?_, fun u hu => ?_, fun u hu => ?_, fun u hu => ?_, ms, p, h5.sw o hn (by unfold cA; omega) (by unfold cA; omega) cA_n, h6.tw q, h7⟩
  · obtain ⟨bx, bg, a, b, c, d⟩ := h1 u hu
    exact ⟨bx, bg, a, b.sw o (by omega) (by unfold cA; omega) (by unfold cA; omega) (by unfold cA; omega) (by unfold cA; omega), c, d.tw q⟩
  · obtain ⟨ns, a, b, c⟩ := h2 u hu
    exact ⟨ns, a, b.sw o hu hn (by unfold cA; omega) (by unfold cA; omega) cA_n, c.tw q⟩
  · obtain ⟨scs, ac, ⟨es, a⟩, sl, b⟩ := h3 u hu
    exact ⟨scs, ac, ⟨es, a.sw o hu hn (by unfold cA; omega) (by unfold cA; omega) cA_n⟩, sl, b.tw q⟩
  · obtain ⟨xs, a, b, c⟩ := h4 u hu
    have hq := qk_lt hu
    obtain ⟨a1, a2, a3, a4, a5⟩ := o.2 (qk u) (by omega) (by unfold cA; omega)
    obtain ⟨b1, b2, b3, b4, b5⟩ := o.2 (qk u + 1) (by omega) (by unfold cA; omega)
    exact ⟨xs, a.fr a2 b4, b.tw hu q, c⟩
