/-! the end of a run: is there an answer, on both sides -/
theorem has_16 {s : uS} {k g b : Nat} (h : s.I k 5 = nI (32 * g)) (hg : g < 16) (hb : b < 4) : fn_X3_has k (nI (32 * 2 ^ b)) s = some (decide (g &&& 2 ^ b ≠ 0)) := by
  unfold fn_X3_has
  rw [h]
  have : ∀ g : Fin 16, ∀ b : Fin 4, (if (nI (32 * g.1) &&& nI (32 * 2 ^ b.1)) = 0 then some false else some true) = some (decide (g.1 &&& 2 ^ b.1 ≠ 0)) := by decide +kernel
  exact this ⟨g, hg⟩ ⟨b, hb⟩
/-- a vacation as both hold it -/
def vaD (s t : uS) (i n u w : Nat) (dg sj : Option Nat) (f m hd rs : Nat) : Prop := fn_X3_has (16 + 3 * i) 32 s = some dg.isSome ∧ (∀ d : Nat, dg = some d → d < 2 ^ 31 ∧ s.I (16 + 3 * i) 10 = nI d) ∧ t.F 1113 n = oI dg ∧ fn_X3_has (16 + 3 * i) 64 s = some sj.isSome ∧ (∀ g : Nat, sj = some g → u ≤ g ∧ g < w ∧ s.F (17 + 3 * i) 6 = nI g) ∧ t.F 1114 n = oI sj ∧ (0 < m → s.F (17 + 3 * i) 8 = nI f ∧ u ≤ f ∧ f + m ≤ w) ∧ s.F (18 + 3 * i) 8 = nI m ∧ m ≤ 10 ∧ (m = 0 ∧ t.F 1104 n = -1 ∨ 0 < m ∧ t.F 1104 n = nI f ∧ t.F 1105 n = nI m) ∧ ((fn_X3_has (16 + 3 * i) 256 s = some true ∧ s.F (17 + 3 * i) 7 = nI hd ∧ t.F 1115 n = nI hd) ∨ (fn_X3_has (16 + 3 * i) 256 s = some false ∧ hd = rs ∧ t.F 1115 n = -1)) ∧ (u ≤ hd ∧ hd < w) ∧ s.F (17 + 3 * i) 5 = nI rs ∧ t.F 1102 n = nI rs ∧ u ≤ rs ∧ rs < w
theorem va_dat {s t : uS} {i n u w : Nat} (h : vaR i n u w s t) : ∃ (dg sj : Option Nat) (f m hd rs : Nat), vaD s t i n u w dg sj f m hd rs := by
  obtain ⟨g, ⟨h1, h2, h3, h4, h5, h6, h7, h8, h9, h10⟩, rs, r1, r2, r3, r4⟩ := h
  have a0 := has_16 (b := 0) h1 h2 (by decide)
  have a1 := has_16 (b := 1) h1 h2 (by decide)
  have a3 := has_16 (b := 3) h1 h2 (by decide)
  have A : ∃ dg : Option Nat, fn_X3_has (16 + 3 * i) 32 s = some dg.isSome ∧ (∀ d : Nat, dg = some d → d < 2 ^ 31 ∧ s.I (16 + 3 * i) 10 = nI d) ∧ t.F 1113 n = oI dg := by
    by_cases c : g &&& 1 = 0
    · refine ⟨none, ?_, fun d z => (by cases z), h3 c⟩
      have : fn_X3_has (16 + 3 * i) 32 s = some (decide (g &&& 2 ^ 0 ≠ 0)) := a0
      rw [this, decide_eq_false (fun z => z c)]; rfl
    · obtain ⟨d, d1, d2, d3⟩ := h4 c
      refine ⟨some d, ?_, fun e z => by rw [← Option.some.inj z]; exact ⟨d1, d2⟩, d3⟩
      have : fn_X3_has (16 + 3 * i) 32 s = some (decide (g &&& 2 ^ 0 ≠ 0)) := a0
      rw [this, decide_eq_true c]; rfl
  have S : ∃ sj : Option Nat, fn_X3_has (16 + 3 * i) 64 s = some sj.isSome ∧ (∀ g : Nat, sj = some g → u ≤ g ∧ g < w ∧ s.F (17 + 3 * i) 6 = nI g) ∧ t.F 1114 n = oI sj := by
    by_cases c : g &&& 2 = 0
    · refine ⟨none, ?_, fun d z => (by cases z), (h5 c).1⟩
      have : fn_X3_has (16 + 3 * i) 64 s = some (decide (g &&& 2 ^ 1 ≠ 0)) := a1
      rw [this, decide_eq_false (fun z => z c)]; rfl
    · obtain ⟨d, d0, d1, d2, d3⟩ := h6 c
      refine ⟨some d, ?_, fun e z => by rw [← Option.some.inj z]; exact ⟨d0, d1, d2⟩, d3⟩
      have : fn_X3_has (16 + 3 * i) 64 s = some (decide (g &&& 2 ^ 1 ≠ 0)) := a1
      rw [this, decide_eq_true c]; rfl
  have O : ∃ f m : Nat, (0 < m → s.F (17 + 3 * i) 8 = nI f ∧ u ≤ f ∧ f + m ≤ w) ∧ s.F (18 + 3 * i) 8 = nI m ∧ m ≤ 10 ∧ (m = 0 ∧ t.F 1104 n = -1 ∨ 0 < m ∧ t.F 1104 n = nI f ∧ t.F 1105 n = nI m) := by
    by_cases c : g &&& 4 = 0
    · obtain ⟨d1, d2, d3⟩ := h7 c
      exact ⟨0, 0, fun z => absurd z (by decide), d3, by decide, Or.inl ⟨rfl, d1⟩⟩
    · obtain ⟨f, m, d1, d2, d3, d4, d5, d6, d7, d8⟩ := h8 c
      exact ⟨f, m, fun _ => ⟨d5, d3, d4⟩, d6, d2, Or.inr ⟨by omega, d7, d8⟩⟩
  have Hd : ∃ hd : Nat, ((fn_X3_has (16 + 3 * i) 256 s = some true ∧ s.F (17 + 3 * i) 7 = nI hd ∧ t.F 1115 n = nI hd) ∨ (fn_X3_has (16 + 3 * i) 256 s = some false ∧ hd = rs ∧ t.F 1115 n = -1)) ∧ (u ≤ hd ∧ hd < w) := by
    have a3' : fn_X3_has (16 + 3 * i) 256 s = some (decide (g &&& 2 ^ 3 ≠ 0)) := a3
    by_cases c : g &&& 8 = 0
    · refine ⟨rs, Or.inr ⟨?_, rfl, (h9 c).1⟩, r1, r2⟩
      rw [a3', decide_eq_false (fun z => z c)]
    · obtain ⟨d, d0, d1, d2, d3⟩ := h10 c
      refine ⟨d, Or.inl ⟨?_, d2, d3⟩, d0, d1⟩
      rw [a3', decide_eq_true c]
  obtain ⟨dg, A1, A2, A3⟩ := A
  obtain ⟨sj, S1, S2, S3⟩ := S
  obtain ⟨f, m, O1, O2, O3, O4⟩ := O
  obtain ⟨hd, H1, H2⟩ := Hd
  exact ⟨dg, sj, f, m, hd, rs, A1, A2, A3, S1, S2, S3, O1, O2, O3, O4, H1, H2, r3, r4, r1, r2⟩
theorem c_days {s : uS} {i : Nat} {dg : Option Nat} (h : fn_X3_has (16 + 3 * i) 32 s = some dg.isSome) (h2 : ∀ d : Nat, dg = some d → d < 2 ^ 31 ∧ s.I (16 + 3 * i) 10 = nI d) : fn_X7_daysOf (16 + 3 * i) s = some (nI (ddN dg)) := by
  unfold fn_X7_daysOf ddN
  rw [h, Option.bind_some]
  cases dg with
  | none => rw [if_neg (by decide)]; rfl
  | some d =>
    obtain ⟨d1, d2⟩ := h2 d rfl
    rw [if_pos (show (some d).isSome = true from rfl), d2]
    congr 1
    dsimp only
    by_cases c : d < 30
    · rw [if_pos (show nI d < 30 from nI_lt (b := 30) c (by decide))]
      by_cases e : d < 1
      · rw [if_neg (show ¬ (1 : Int32) < nI d from nI_nlt (a := 1) (by omega) (by decide)), if_pos e]; rfl
      · rw [if_neg e, if_neg (show ¬ 30 < d by omega)]
        by_cases k : d = 1
        · rw [k]; rfl
        · rw [if_pos (show (1 : Int32) < nI d from nI_lt (a := 1) (by omega) d1)]
    · rw [if_neg (show ¬ nI d < 30 from nI_nlt (b := 30) (by omega) d1), if_neg (show ¬ d < 1 by omega)]
      by_cases k : d = 30
      · rw [k]; rfl
      · rw [if_pos (show 30 < d by omega)]; rfl
theorem c_hdl {s : uS} {i hd rs : Nat} (hi : i < 320) (h : (fn_X3_has (16 + 3 * i) 256 s = some true ∧ s.F (17 + 3 * i) 7 = nI hd) ∨ (fn_X3_has (16 + 3 * i) 256 s = some false ∧ hd = rs)) (h5 : s.F (17 + 3 * i) 5 = nI rs) : fn_X3_handle (16 + 3 * i) s = some (nI hd) := by
  unfold fn_X3_handle
  rcases h with ⟨a, b⟩ | ⟨a, b⟩
  · rw [a, Option.bind_some, if_pos rfl, show (7 : Int32) = nI 7 from rfl, ig_nod hi (by decide) (Or.inl rfl), show 16 + 3 * i + 1 = 17 + 3 * i by omega, b, Option.bind_some]
  · rw [a, Option.bind_some, if_neg (by decide), show (5 : Int32) = nI 5 from rfl, ig_nod hi (by decide) (Or.inl rfl), show 16 + 3 * i + 1 = 17 + 3 * i by omega, h5, Option.bind_some, b]
theorem meB_c {fs : List (List Nat × List Nat)} {ts ts1 : List (List Nat)} {f m : Nat} {rcp : List Nat} (h : ∀ k : Nat, k < m → ts1.getD (f + k) [] = ts.getD (f + k) []) : meB fs ts1 f m rcp = meB fs ts f m rcp := by
  unfold meB
  congr 1
  funext v
  unfold meP
  congr 1
  exact anyB_c _ _ (fun k _ hk => by rw [h k (by omega)])
theorem cNt.o {s s1 : uS} {u : Nat} {ns : List nT} {PI PF : Nat → Nat → Prop} (h : cNt s u ns) (o : out PI PF s s1) (hu : u < 4) (hI : ∀ k f : Nat, 1171 ≤ k ∨ k = 985 + 16 * u → ¬ PI k f) (hF : ∀ k f : Nat, 1171 ≤ k → ¬ PF k f) : cNt s1 u ns := by
  obtain ⟨h1, h2, h3⟩ := h
  obtain ⟨⟨o1, o2, o3, o4, o5, o6⟩, o7, o8⟩ := o
  refine ⟨h1, (o7 _ _ (hI _ _ (Or.inr rfl))).trans h2, fun i hi => ?_⟩
  obtain ⟨e, e1, e2, e3, e4, e5, ⟨lb, l1, l2, l3⟩, tx, x1, x2⟩ := h3 i hi
  have B : ∀ (k : Nat) (bs : List Nat), cBn s k bs → cBn s1 k bs := fun k bs z => z.fr (Nat.le_of_eq o5.symm) (by rw [o1]) (funext fun f => o8 _ _ (hF _ _ z.2.1))
  exact ⟨e, by rw [o4]; exact e1, by rw [o5]; exact e2, e3, by rw [o1]; exact e4, (o7 _ _ (hI _ _ (Or.inl e3))).trans e5, ⟨lb, by rw [o2]; exact l1, l2, B _ _ l3⟩, tx, by rw [o2]; exact x1, B _ _ x2⟩
/-- the reference, from the end of a run up to the question whether it fits -/
def rAn (t : uS) : Option (uS × Bool) := if (t.I 1079 102) ≤ 0 then (fb_X12_deliver_100 false t) else (if (t.I 1079 93) ≤ 0 then (fb_X12_deliver_100 false t) else (fb_X12_deliver_100 true t))
/-- the answer, if there is one, on both sides -/
def anR (s t : uS) (an : Option (List Nat)) : Prop := s.I 1070 8 = bI an.isSome ∧ ∀ x : List Nat, an = some x → cTz s 1075 6000 1 [] 0 x ∧ rLt t x
theorem rSt.ws {t t1 : uS} {ts : List (List Nat)} (h : rSt t ts) (o : out wsI wsF t t1) : rSt t1 ts := h.fr (fun k j z => o.2.2 _ _ (by unfold wsF; omega))
