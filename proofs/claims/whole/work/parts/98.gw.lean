/-! the world: what leaves it alone -/
def xB (f : Nat) : Prop := 69 ≤ f ∧ f ≤ 71
def xA (k : Nat) : Prop := (1081 ≤ k ∧ k ≤ 1086) ∨ (1118 ≤ k ∧ k ≤ 1135) ∨ (1149 ≤ k ∧ k ≤ 1155)
def tX (t t1 : uS) : Prop := (∀ f : Nat, xB f → t1.I 1079 f = t.I 1079 f) ∧ ∀ k : Nat, xA k → t1.F k = t.F k ∧ t1.L k = t.L k
theorem tX_r {t : uS} : tX t t := ⟨fun _ _ => rfl, fun _ _ => ⟨rfl, rfl⟩⟩
theorem tX_t {t t1 t2 : uS} (h : tX t t1) (g : tX t1 t2) : tX t t2 := ⟨fun f a => (g.1 f a).trans (h.1 f a), fun k a => ⟨(g.2 k a).1.trans (h.2 k a).1, (g.2 k a).2.trans (h.2 k a).2⟩⟩
theorem tX_w {t t1 : uS} (h : tW t t1) : tX t t1 := ⟨fun f a => h.2.1 f (by unfold xB at a; unfold rB; omega), fun k a => h.2.2 k (by unfold xA at a; unfold rA; omega)⟩
theorem tX_out {PI PF : Nat → Nat → Prop} {t t1 : uS} (o : out PI PF t t1) (hI : ∀ f : Nat, xB f → ¬ PI 1079 f) (hF : ∀ k f : Nat, xA k → ¬ PF k f) : tX t t1 := ⟨fun f a => o.2.1 _ _ (hI f a), fun k a => ⟨funext fun f => o.2.2 k f (hF k f a), by rw [o.1.2.2.1]⟩⟩
theorem rMl.tx {t t1 : uS} {ms : List aM} {p : Nat} (h : rMl t ms p) (o : tX t t1) : rMl t1 ms p := by
  obtain ⟨h1, h2, h3, h4, h5, h6, h7, h8⟩ := h
  have F : ∀ k : Nat, 1119 ≤ k → k ≤ 1125 → t1.F k = t.F k := fun k a b => (o.2 k (by unfold xA; omega)).1
  have L : t1.L 1118 = t.L 1118 := (o.2 1118 (by unfold xA; omega)).2
  refine ⟨h1, h2, h3, (o.1 _ (by unfold xB; omega)).trans h4, (o.1 _ (by unfold xB; omega)).trans h5, (o.1 _ (by unfold xB; omega)).trans h6, fun i hi => ?_, fun k hk => ?_⟩
  · obtain ⟨a1, a2, a3, a4, a5, at_, a6, a7, a8⟩ := h7 i hi
    exact ⟨by rw [F _ (by omega) (by omega)]; exact a1, by rw [F _ (by omega) (by omega)]; exact a2, by rw [F _ (by omega) (by omega)]; exact a3, by rw [F _ (by omega) (by omega)]; exact a4, a5, at_, by rw [F _ (by omega) (by omega)]; exact a6, a7, fun j hj => by rw [pkb_S, L, ← pkb_S]; exact a8 j hj⟩
  · obtain ⟨q, q1, q2, q3, q4⟩ := h8 k hk
    exact ⟨q, q1, q2, by rw [F _ (by omega) (by omega)]; exact q3, fun j hj => by rw [F _ (by omega) (by omega)]; exact q4 j hj⟩
theorem rBx.tx {t t1 : uS} {u : Nat} {bx : List (List Nat)} (h : rBx t u bx) (o : tX t t1) : rBx t1 u bx := h.fr (fun k j a b => by rw [(o.2 k (by unfold xA; omega)).1])
theorem rNt.tx {t t1 : uS} {u : Nat} {ns : List nT} (h : rNt t u ns) (o : tX t t1) : rNt t1 u ns := by
  have F : ∀ k : Nat, 1129 ≤ k → k ≤ 1135 → t1.F k = t.F k := fun k a b => (o.2 k (by unfold xA; omega)).1
  have L : ∀ k : Nat, 1129 ≤ k → k ≤ 1135 → t1.L k = t.L k := fun k a b => (o.2 k (by unfold xA; omega)).2
  refine ⟨by rw [F _ (by omega) (by omega)]; exact h.1, fun i hi => ?_⟩
  obtain ⟨a1, a2, a3, a4, a5⟩ := h.2 i hi
  exact ⟨by rw [F _ (by omega) (by omega)]; exact a1, by rw [F _ (by omega) (by omega)]; exact a2, fun j hj => by rw [F _ (by omega) (by omega)]; exact a3 j hj, by rw [F _ (by omega) (by omega)]; exact a4, fun j hj => by rw [hdb_S, L _ (by omega) (by omega), L _ (by omega) (by omega), ← hdb_S]; exact a5 j hj⟩
theorem rSc.tx {t t1 : uS} {u : Nat} {sl : List Nat} {scs : List (List Nat × List Nat)} {ac : Option Nat} (h : rSc t u sl scs ac) (o : tX t t1) : rSc t1 u sl scs ac := by
  have F : ∀ k : Nat, 1149 ≤ k → k ≤ 1155 → t1.F k = t.F k := fun k a b => (o.2 k (by unfold xA; omega)).1
  have L : t1.L 1154 = t.L 1154 := (o.2 1154 (by unfold xA; omega)).2
  exact h.fr (by rw [F _ (by omega) (by omega)]) (by rw [F _ (by omega) (by omega)]) (fun f _ _ => ⟨by rw [F _ (by omega) (by omega)], by rw [F _ (by omega) (by omega)], by rw [F _ (by omega) (by omega)]⟩) (fun f _ _ => by rw [F _ (by omega) (by omega)]) (fun f _ _ => by rw [L])
theorem rQ.tx {t t1 : uS} {u : Nat} {xs : List Int32} (hu : u < 5) (h : rQ t u xs) (o : tX t t1) : rQ t1 u xs := h.fr (by rw [(o.2 1086 (by unfold xA; omega)).1]) (by rw [(o.2 (1081 + u) (by unfold xA; omega)).1])

def okI (k f : Nat) : Prop := (k = 0 ∧ (f < 10 ∨ 12 < f)) ∨ (0 < k ∧ k < 976) ∨ (1042 ≤ k ∧ k < 1171)
def okF (k _f : Nat) : Prop := (k < 976 ∧ k ≠ 5) ∨ (1042 ≤ k ∧ k < 1171)
theorem wW.o {dy : Nat} {s t s1 t1 : uS} (h : wW dy s t) (hn : 1171 ≤ s.n) (o : oc okI okF okF okF s s1) (q : tX t t1) : wW dy s1 t1 := by
  obtain ⟨h1, h2, h3, h4, ms, p, h5, h6, h7⟩ := h
  have lI : low okI := fun k f a z => by unfold okI at z; omega
  have lF : low okF := fun k f a z => by unfold okF at z; omega
  refine ⟨fun u hu => ?_, fun u hu => ?_, fun u hu => ?_, fun u hu => ?_, ms, p, h5.oc o hn lI lF lF (by unfold okI; omega) (by unfold okI; omega) (by unfold okI; omega) (fun f => by unfold okF; omega), h6.tx q, h7⟩
  · obtain ⟨bx, bg, a, b, c, d⟩ := h1 u hu
    exact ⟨bx, bg, a, b.oc o (by omega) (fun f => by unfold okI; omega) (fun j f y1 y2 => by unfold okF; omega), c, d.tx q⟩
  · obtain ⟨ns, a, b, c⟩ := h2 u hu
    exact ⟨ns, a, b.oc o hu hn lI lF lF (by unfold okI; omega) (fun f => by unfold okF; omega), c.tx q⟩
  · obtain ⟨scs, ac, ⟨es, a⟩, sl, b⟩ := h3 u hu
    refine ⟨scs, ac, ⟨es, a.fr o.1 o.2.1 (o.2.2.2.1 _ _ (by omega) (by unfold okI; omega)) (o.P (by omega) (fun f => by unfold okF; omega)) (o.2.2.2.2.2.1 _ _ (by omega) (by unfold okF; omega)) (fun i hi => ?_) (fun k y1 y2 => o.F y2 (fun f => by unfold okF; omega))⟩, sl, b.tx q⟩
    obtain ⟨-, y⟩ := a.2.2.2.1 i hi
    exact o.R y.1 (fun f => by have := y.2.1; unfold okF; omega)
  · obtain ⟨xs, a, b, c⟩ := h4 u hu
    have hq := qk_lt hu
    exact ⟨xs, a.fr (o.I (by omega) (fun f => by unfold okI; omega)) (o.F (by omega) (fun f => by unfold okF; omega)), b.tx hu q, c⟩
/-- a line of the delivery -/
theorem wW.q {dy : Nat} {s t s1 t1 : uS} (h : wW dy s t) (hn : 1171 ≤ s.n) (g : pQo 4 s t s1 t1) : wW dy s1 t1 := by
  obtain ⟨h1, h2, h3, h4, ms, p, h5, h6, h7⟩ := h
  obtain ⟨g1, g2, g3⟩ := g
  have o : oc (qC 4) (qC 4) rNo rNo s s1 := oc_out g2
  have lQ : low (qC 4) := fun k f a z => by have := qC4 z; omega
  have nQ : ∀ k f : Nat, k < 1040 ∨ 1041 < k → ¬ qC 4 k f := fun k f a z => by have := qC4 z; omega
  have hF : ∀ k f : Nat, k ≠ 1085 → (k ≠ 1086 ∨ f ≠ 4) → t1.F k f = t.F k f := fun k f a b => g3.2.2 _ _ (by unfold qR; omega)
  have hL : t1.L = t.L := g3.1.2.2.1
  have hI : ∀ k f : Nat, t1.I k f = t.I k f := fun k f => g3.2.1 _ _ (fun z => z)
  refine ⟨fun u hu => ?_, fun u hu => ?_, fun u hu => ?_, fun u hu => ?_, ms, p, h5.oc o hn lQ lQ low_no (nQ _ _ (by omega)) (nQ _ _ (by omega)) (nQ _ _ (by omega)) (fun f z => z), ?_, h7⟩
  · obtain ⟨bx, bg, a, b, c, d⟩ := h1 u hu
    exact ⟨bx, bg, a, b.oc o (by omega) (fun f => nQ _ _ (by omega)) (fun j f y1 y2 => nQ _ _ (by omega)), c, d.fr (fun k j a b => hF _ _ (by omega) (by omega))⟩
  · obtain ⟨ns, a, b, c⟩ := h2 u hu
    refine ⟨ns, a, b.oc o hu hn lQ lQ low_no (nQ _ _ (by omega)) (fun f z => z), (hF _ _ (by omega) (by omega)).trans c.1, fun i hi => ?_⟩
    obtain ⟨a1, a2, a3, a4, a5⟩ := c.2 i hi
    exact ⟨(hF _ _ (by omega) (by omega)).trans a1, (hF _ _ (by omega) (by omega)).trans a2, fun j hj => (hF _ _ (by omega) (by omega)).trans (a3 j hj), (hF _ _ (by omega) (by omega)).trans a4, fun j hj => by rw [hdb_S, hL, ← hdb_S]; exact a5 j hj⟩
  · obtain ⟨scs, ac, ⟨es, a⟩, sl, b⟩ := h3 u hu
    refine ⟨scs, ac, ⟨es, a.fr o.1 o.2.1 (o.2.2.2.1 _ _ (by omega) (nQ _ _ (by omega))) (o.P (by omega) (fun f z => z)) (o.2.2.2.2.2.1 _ _ (by omega) (fun z => z)) (fun i hi => ?_) (fun k y1 y2 => o.F y2 (fun f => nQ _ _ (by omega)))⟩, sl, b.fr (hF _ _ (by omega) (by omega)) (hF _ _ (by omega) (by omega)) (fun f _ _ => ⟨hF _ _ (by omega) (by omega), hF _ _ (by omega) (by omega), hF _ _ (by omega) (by omega)⟩) (fun f _ _ => hF _ _ (by omega) (by omega)) (fun f _ _ => by rw [hL])⟩
    obtain ⟨-, y⟩ := a.2.2.2.1 i hi
    exact o.R y.1 (fun f z => z)
  · by_cases c4 : u = 4
    · subst c4; exact g1
    · obtain ⟨xs, a, b, c⟩ := h4 u hu
      have hq := qk_lt hu
      have hq2 : qk u + 1 < 1040 := by unfold qk; rw [if_pos (by omega)]; omega
      exact ⟨xs, a.fr (o.I (by omega) (fun f => nQ _ _ (by omega))) (o.F (by omega) (fun f => nQ _ _ (by omega))), ⟨b.1, (hF _ _ (by omega) (by omega)).trans b.2.1, fun j hj => (hF _ _ (by omega) (by omega)).trans (b.2.2 j hj)⟩, c⟩
  · obtain ⟨x1, x2, x3, x4, x5, x6, x7, x8⟩ := h6
    refine ⟨x1, x2, x3, (hI _ _).trans x4, (hI _ _).trans x5, (hI _ _).trans x6, fun i hi => ?_, fun k hk => ?_⟩
    · obtain ⟨a1, a2, a3, a4, a5, at_, a6, a7, a8⟩ := x7 i hi
      exact ⟨(hF _ _ (by omega) (by omega)).trans a1, (hF _ _ (by omega) (by omega)).trans a2, (hF _ _ (by omega) (by omega)).trans a3, (hF _ _ (by omega) (by omega)).trans a4, a5, at_, (hF _ _ (by omega) (by omega)).trans a6, a7, fun j hj => by rw [pkb_S, hL, ← pkb_S]; exact a8 j hj⟩
    · obtain ⟨q, q1, q2, q3, q4⟩ := x8 k hk
      exact ⟨q, q1, q2, (hF _ _ (by omega) (by omega)).trans q3, fun j hj => (hF _ _ (by omega) (by omega)).trans (q4 j hj)⟩
