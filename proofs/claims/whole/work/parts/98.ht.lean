/-! the world over a session for scripts -/
def tV (t t1 : uS) : Prop := (∀ f : Nat, xB f → t1.I 1079 f = t.I 1079 f) ∧ ∀ k : Nat, 1118 ≤ k → k ≤ 1135 → t1.F k = t.F k ∧ t1.L k = t.L k
theorem rMl.tv {t t1 : uS} {ms : List aM} {p : Nat} (h : rMl t ms p) (o : tV t t1) : rMl t1 ms p := by
  obtain ⟨h1, h2, h3, h4, h5, h6, h7, h8⟩ := h
  have F : ∀ k : Nat, 1119 ≤ k → k ≤ 1125 → t1.F k = t.F k := fun k a b => (o.2 k (by omega) (by omega)).1
  have L : t1.L 1118 = t.L 1118 := (o.2 1118 (by omega) (by omega)).2
  refine ⟨h1, h2, h3, (o.1 _ (by unfold xB; omega)).trans h4, (o.1 _ (by unfold xB; omega)).trans h5, (o.1 _ (by unfold xB; omega)).trans h6, fun i hi => ?_, fun k hk => ?_⟩
  · obtain ⟨a1, a2, a3, a4, a5, at_, a6, a7, a8⟩ := h7 i hi
    exact ⟨by rw [F _ (by omega) (by omega)]; exact a1, by rw [F _ (by omega) (by omega)]; exact a2, by rw [F _ (by omega) (by omega)]; exact a3, by rw [F _ (by omega) (by omega)]; exact a4, a5, at_, by rw [F _ (by omega) (by omega)]; exact a6, a7, fun j hj => by rw [pkb_S, L, ← pkb_S]; exact a8 j hj⟩
  · obtain ⟨q, q1, q2, q3, q4⟩ := h8 k hk
    exact ⟨q, q1, q2, by rw [F _ (by omega) (by omega)]; exact q3, fun j hj => by rw [F _ (by omega) (by omega)]; exact q4 j hj⟩
theorem rNt.tv {t t1 : uS} {u : Nat} {ns : List nT} (h : rNt t u ns) (o : tV t t1) : rNt t1 u ns := by
  have F : ∀ k : Nat, 1129 ≤ k → k ≤ 1135 → t1.F k = t.F k := fun k a b => (o.2 k (by omega) (by omega)).1
  have L : ∀ k : Nat, 1129 ≤ k → k ≤ 1135 → t1.L k = t.L k := fun k a b => (o.2 k (by omega) (by omega)).2
  refine ⟨by rw [F _ (by omega) (by omega)]; exact h.1, fun i hi => ?_⟩
  obtain ⟨a1, a2, a3, a4, a5⟩ := h.2 i hi
  exact ⟨by rw [F _ (by omega) (by omega)]; exact a1, by rw [F _ (by omega) (by omega)]; exact a2, fun j hj => by rw [F _ (by omega) (by omega)]; exact a3 j hj, by rw [F _ (by omega) (by omega)]; exact a4, fun j hj => by rw [hdb_S, L _ (by omega) (by omega), L _ (by omega) (by omega), ← hdb_S]; exact a5 j hj⟩
/-- no entry serves two ends -/
def dj (s : uS) : Prop := (∀ k : Nat, oE s k → k < s.n ∧ ∀ u : Nat, u < 4 → ¬ isScr s u k) ∧ ∀ u v k : Nat, u < 4 → v < 4 → u ≠ v → isScr s u k → ¬ isScr s v k
theorem isScr_e {s s1 : uS} {u k : Nat} (hI : s1.I (985 + 16 * u) 3 = s.I (985 + 16 * u) 3) (hP : s1.P (985 + 16 * u + 1) = s.P (985 + 16 * u + 1)) (h : isScr s1 u k) : isScr s u k := by
  obtain ⟨i, h1, h2, h3⟩ := h
  rw [hI] at h2
  rw [hP] at h3
  exact ⟨i, h1, h2, h3⟩
theorem isScr_n {dy u k : Nat} {s t : uS} (h : wW dy s t) (hu : u < 4) (hs : isScr s u k) : k < s.n := by
  obtain ⟨scs, ac, ⟨es, a⟩, -⟩ := h.2.2.1 u hu
  obtain ⟨i, h1, h2, h3⟩ := hs
  rw [a.2.2.1] at h2
  have hi : i < scs.length := (nI_ltI (by omega) (by have := a.2.1; omega)).mp h2
  obtain ⟨b1, b2⟩ := a.2.2.2.1 i hi
  rw [h3] at b1
  rw [Option.some.inj b1]
  exact b2.1
theorem dj.fp {dy : Nat} {s t s1 : uS} (h : dj s) (hw : wW dy s t) (f : Fp s.n s s1) : dj s1 := by
  obtain ⟨f1, f2, f3, f4⟩ := f
  have sc : ∀ u k : Nat, u < 4 → isScr s1 u k → isScr s u k := fun u k hu z => isScr_e (f4 u hu).1 (by have := (f4 u hu).2; rw [show 986 + 16 * u = 985 + 16 * u + 1 by omega] at this; exact this) z
  refine ⟨fun k hk => ?_, fun u v k hu hv huv z z2 => h.2 u v k hu hv huv (sc u k hu z) (sc v k hv z2)⟩
  rcases f3 k hk with y | y
  · obtain ⟨a, b⟩ := h.1 k y
    exact ⟨Nat.lt_of_lt_of_le a f2, fun u hu z => b u hu (sc u k hu z)⟩
  · exact ⟨y.2, fun u hu z => absurd (isScr_n hw hu (sc u k hu z)) (by omega)⟩
theorem wW.m {dy u : Nat} {s t s1 t1 : uS} (hu : u < 4) (h : wW dy s t) (hd : dj s) (hn : 1171 ≤ s.n) (g : pLw u s t s1 t1) : wW dy s1 t1 ∧ dj s1 := by
  have hnE : ∀ {k : Nat}, isScr s u k → k < s.n := fun z => isScr_n h hu z
  have h00 := h
  obtain ⟨h1, h2, h3, h4, ms, p, h5, h6, h7⟩ := h
  obtain ⟨-, g2, g3, o, q, gS⟩ := g
  have hqk : qk u = 976 + 16 * u := by unfold qk; rw [if_pos hu]
  have nI' : ∀ k f : Nat, ((k = 0 ∧ f ≠ 14 ∧ f ≠ 15) ∨ (0 < k ∧ k < 6) ∨ (976 ≤ k ∧ k ≠ 976 + 16 * u ∧ k ≠ 977 + 16 * u ∧ (k < 978 + 16 * u ∨ 984 + 16 * u < k) ∧ (k ≠ 985 + 16 * u ∨ f ≠ 3))) → ¬ mgI u k f := fun k f a z => by unfold mgI cmI qC sPl at z; rw [hqk] at z; omega
  have nF' : ∀ k f : Nat, (k < 6 ∨ (976 ≤ k ∧ k ≠ 976 + 16 * u ∧ k ≠ 977 + 16 * u ∧ (k < 978 + 16 * u ∨ 984 + 16 * u < k))) → ¬ mgF u k f := fun k f a z => by unfold mgF cmF qC sPl at z; rw [hqk] at z; omega
  have nP' : ∀ k f : Nat, (k < 6 ∨ (976 ≤ k ∧ k ≠ 985 + 16 * u + 1)) → ¬ cmP u k f := fun k f a z => by unfold cmP at z; omega
  have rF : ∀ k f : Nat, ¬ mrF u k f → t1.F k f = t.F k f := fun k f z => q.2.2.1 k f z
  have nrF : ∀ k f : Nat, ((1118 ≤ k ∧ k ≤ 1135) ∨ (1081 ≤ k ∧ k ≤ 1085 ∧ k ≠ 1081 + u) ∨ (k = 1086 ∧ f ≠ u)) → ¬ mrF u k f := fun k f a z => by unfold mrF rmF scF qR rPl at z; omega
  have TV : tV t t1 := by
    refine ⟨fun f a => q.2.1 _ _ (fun z => ?_), fun k a b => ⟨funext fun f => rF _ _ (nrF _ _ (by omega)), funext fun f => q.2.2.2 _ _ (fun z => ?_)⟩⟩
    · unfold rmI scI at z; unfold xB at a; omega
    · unfold rmL at z; omega
  -- the entries of messages and notes
  have eR : ∀ e : Nat, 1171 ≤ e → oE s e → s1.R e = s.R e := fun e h11 he => by
    obtain ⟨a, b⟩ := hd.1 e he
    refine o.R a (fun f z => ?_)
    unfold cmR at z
    rcases z with z | z | z
    · omega
    · omega
    · exact b u hu z
  have eI : ∀ e : Nat, 1171 ≤ e → e < s.n → s1.I e = s.I e := fun e h11 he => o.I he (fun f => nI' e f (by omega))
  have eB : ∀ {k : Nat} {x : List Nat}, cBn s k x → cBn s1 k x := fun {k x} z => z.oc o (fun f => nF' k f (by have := z.2.1; omega))
  have ec : ∀ e : Nat, e < s.n → (s.c e).1 = 1 → (s1.c e).1 = 1 := fun e he z => by rw [o.2.1 e he]; exact z
  have hon := o.1
  refine ⟨⟨fun v hv => ?_, fun v hv => ?_, fun v hv => ?_, fun v hv => ?_, ms, p, ?_, h6.tv TV, h7⟩, ?_⟩
  · obtain ⟨bx, bg, a, b, c, d⟩ := h1 v hv
    have iI : ∀ f : Nat, s1.I (988 + 16 * v) f = s.I (988 + 16 * v) f := fun f => o.2.2.2.1 _ _ (by omega) (nI' _ _ (by omega))
    exact ⟨bx, bg, a, b.fr (iI _) (iI _) (iI _) (o.F (by omega) (fun f => nF' _ _ (by omega))) (o.F (by omega) (fun f => nF' _ _ (by omega))) (o.F (by omega) (fun f => nF' _ _ (by omega))), c, d.fr (fun k j y1 y2 => rF _ _ (nrF _ _ (by omega)))⟩
  · obtain ⟨ns, a, b, c⟩ := h2 v hv
    refine ⟨ns, a, cNt.of b.1 ((o.2.2.2.1 _ _ (by omega) (nI' _ _ (by omega))).trans b.2.1) (fun i hi => ?_), c.tv TV⟩
    obtain ⟨e, e1, e2, e3, e4, e5, ⟨lb, e6, e7, e8⟩, tx, e9, e10⟩ := b.at hi
    have hoE : oE s e := Or.inr ⟨v, i, hv, by rw [show 987 + 16 * v = 985 + 16 * v + 2 by omega]; exact e1⟩
    have R := eR e e3 hoE
    exact ⟨e, by rw [o.P (by omega) (fun f => nP' _ _ (by omega))]; exact e1, by omega, e3, ec e e2 e4, by rw [eI e e3 e2]; exact e5, ⟨lb, by rw [R]; exact e6, e7, eB e8⟩, tx, by rw [R]; exact e9, eB e10⟩
  · by_cases c : v = u
    · subst c; exact g3
    · obtain ⟨scs, ac, ⟨es, a⟩, sl, b⟩ := h3 v hv
      refine ⟨scs, ac, ⟨es, a.fr o.1 o.2.1 (o.2.2.2.1 _ _ (by omega) (nI' _ _ (by omega))) (o.P (by omega) (fun f => nP' _ _ (by omega))) (o.2.2.2.2.2.1 _ _ (by omega) (fun z => ?_)) (fun i hi => ?_) (fun k y1 y2 => o.F y2 (fun f => nF' _ _ (by omega)))⟩, sl, b.fr (rF _ _ ?_) (rF _ _ ?_) (fun f y1 y2 => ⟨rF _ _ ?_, rF _ _ ?_, rF _ _ ?_⟩) (fun f y1 y2 => rF _ _ ?_) (fun f y1 y2 => q.2.2.2 _ _ ?_)⟩
      · unfold cmR at z
        rcases z with z | z | z
        · omega
        · omega
        · have := hnE z
          obtain ⟨i, z1, z2, z3⟩ := z
          obtain ⟨scu, acu, ⟨eu, au⟩, -⟩ := h3 u hu
          rw [au.2.2.1] at z2
          have hi : i < scu.length := (nI_ltI (by omega) (by have := au.2.1; omega)).mp z2
          obtain ⟨b1, b2⟩ := au.2.2.2.1 i hi
          rw [z3] at b1
          have := b2.2.1
          have := Option.some.inj b1
          omega
      · obtain ⟨y1, y2⟩ := a.2.2.2.1 i hi
        refine o.R y2.1 (fun f z => ?_)
        have hsc : isScr s v (es.getD i 0) := ⟨i, by have := a.2.1; omega, by rw [a.2.2.1]; exact nI_lt hi (by have := a.2.1; omega), y1⟩
        unfold cmR at z
        rcases z with z | z | z
        · have := y2.2.1; omega
        · have := y2.2.1; omega
        · exact hd.2 v u _ hv hu c hsc z
      all_goals (intro z; first | (unfold mrF rmF scF qR rPl at z; omega) | (unfold rmL at z; omega))
  · by_cases c : v = u
    · subst c; exact g2
    · obtain ⟨xs, a, b, d⟩ := h4 v hv
      have hq5 := qk_lt hv
      have hqv : (v < 4 ∧ qk v = 976 + 16 * v) ∨ (v = 4 ∧ qk v = 1040) := by
        unfold qk
        by_cases y : v < 4
        · rw [if_pos y]; exact Or.inl ⟨y, rfl⟩
        · rw [if_neg y]; exact Or.inr ⟨by omega, rfl⟩
      exact ⟨xs, a.fr (o.I (by omega) (fun f => nI' _ _ (by omega))) (o.F (by omega) (fun f => nF' _ _ (by omega))), ⟨b.1, (rF _ _ (nrF _ _ (by omega))).trans b.2.1, fun j hj => (rF _ _ (nrF _ _ (by omega))).trans (b.2.2 j hj)⟩, d⟩
  · obtain ⟨x1, x2, x3, x4, x5⟩ := h5
    refine ⟨x1, (o.2.2.2.1 _ _ (by omega) (nI' _ _ (by omega))).trans x2, (o.2.2.2.1 _ _ (by omega) (nI' _ _ (by omega))).trans x3, (o.2.2.2.1 _ _ (by omega) (nI' _ _ (by omega))).trans x4, fun i hi => ?_⟩
    obtain ⟨e, e1, e2, e3, e4, e5, e6, e7, ⟨tx, y, e8, e9, e10⟩, e11⟩ := x5 i hi
    have R := eR e e3 (Or.inl ⟨i, e1⟩)
    have I := eI e e3 e2
    refine ⟨e, by rw [o.P (by omega) (fun f => nP' _ _ (by omega))]; exact e1, by omega, e3, ec e e2 e4, by rw [I]; exact e5, by rw [I]; exact e6, by rw [I]; exact e7, ⟨tx, y, by rw [R]; exact e8, eB e9, e10⟩, fun z => ?_⟩
    obtain ⟨lb, w, w1, w2, w3⟩ := e11 z
    exact ⟨lb, w, by rw [R]; exact w1, eB w2, w3⟩
  · have oE1 : ∀ k : Nat, oE s1 k → oE s k := by
      intro k z
      rcases z with ⟨i, z⟩ | ⟨v, i, hv, z⟩
      · rw [o.P (by omega) (fun f => nP' _ _ (by omega))] at z; exact Or.inl ⟨i, z⟩
      · rw [o.P (by omega) (fun f => nP' _ _ (by omega))] at z; exact Or.inr ⟨v, i, hv, z⟩
    have sc : ∀ v k : Nat, v < 4 → v ≠ u → isScr s1 v k → isScr s v k := fun v k hv hvu z => isScr_e (o.2.2.2.1 _ _ (by omega) (nI' _ _ (by omega))) (o.P (by omega) (fun f => nP' _ _ (by omega))) z
    refine ⟨fun k hk => ?_, fun a b k ha hb hab z1 z2 => ?_⟩
    · obtain ⟨y1, y2⟩ := hd.1 k (oE1 k hk)
      refine ⟨by omega, fun v hv z => ?_⟩
      by_cases c : v = u
      · subst c; exact y2 v hv (gS k y1 z)
      · exact y2 v hv (sc v k hv c z)
    · by_cases c1 : a = u
      · subst c1
        have w2 := sc b k hb (fun e => hab e.symm) z2
        exact hd.2 a b k ha hb hab (gS k (isScr_n h00 hb w2) z1) w2
      · have w1 := sc a k ha c1 z1
        by_cases c2 : b = u
        · subst c2
          exact hd.2 a b k ha hb hab w1 (gS k (isScr_n h00 ha w1) z2)
        · exact hd.2 a b k ha hb hab w1 (sc b k hb c2 z2)
