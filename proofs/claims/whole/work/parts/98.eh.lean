/-! the reference: a value against the keys of a test -/
def mkI (k f : Nat) : Prop := k = 1079 ∧ f = 23
def mkF (k _f : Nat) : Prop := k = 1094 ∨ k = 1141 ∨ k = 1142
/-- how a test compares, as the reference holds it -/
def rHw (t : uS) (n m r c : Nat) : Prop := n < 520 ∧ t.F 1109 n = nI m ∧ m < 5 ∧ (3 ≤ m → t.F 1110 n = nI r ∧ r < 6) ∧ t.F 1111 n = nI c ∧ c < 3
/-- the strings, as the reference holds them -/
def rSt (t : uS) (ts : List (List Nat)) : Prop := ∃ bg : Nat, rst ts bg t ∧ bg ≤ 4000 ∧ ts.length ≤ 300 ∧ ∀ j : Nat, bys (ts.getD j [])
theorem rHw.fr {t t1 : uS} {n m r c : Nat} (h : rHw t n m r c) (f : ∀ k : Nat, 1109 ≤ k → k ≤ 1111 → t1.F k n = t.F k n) : rHw t1 n m r c := by
  obtain ⟨h1, h2, h3, h4, h5, h6⟩ := h
  exact ⟨h1, (f _ (by omega) (by omega)).trans h2, h3, fun z => ⟨(f _ (by omega) (by omega)).trans (h4 z).1, (h4 z).2⟩, (f _ (by omega) (by omega)).trans h5, h6⟩
theorem rSt.fr {t t1 : uS} {ts : List (List Nat)} (h : rSt t ts) (f : ∀ k j : Nat, k = 1097 ∨ k = 1116 ∨ k = 1117 → t1.F k j = t.F k j) : rSt t1 ts := by
  obtain ⟨bg, h1, h2, h3, h4⟩ := h
  exact ⟨bg, h1.out (fun j _ => ⟨f _ _ (by omega), f _ _ (by omega)⟩) (fun j _ => f _ _ (by omega)), h2, h3, h4⟩
theorem r1.mk {t t1 : uS} {a : List Nat} (h : r1 t a) (i : t1.I 1079 21 = t.I 1079 21) (f : ∀ j : Nat, t1.F 1093 j = t.F 1093 j) : r1 t1 a := by
  obtain ⟨h1, h2, h3, h4⟩ := h
  exact ⟨i.trans h1, h2, h3, fun j hj => (f j).trans (h4 j hj)⟩
theorem r_mkey {t : uS} {ts : List (List Nat)} {j n m r c : Nat} {a : List Nat} (hh : rHw t n m r c) (h1 : r1 t a) (hs : rSt t ts) (hj : j < ts.length) : ∃ (t1 : uS) (v : Bool), fn_X12_matchesKey (nI n) (nI j) t = some (t1, v) ∧ (v = true ↔ mKy m r (decide (c = 2)) (fl (decide (c = 1)) a) (fl (decide (c = 1)) (ts.getD j []))) ∧ out mkI mkF t t1 := by
  obtain ⟨bg, s1, s2, s3, s4⟩ := hs
  obtain ⟨p, p1, p2, p3, pl, p4⟩ := s1 j hj
  have h8 := s4 j
  generalize ts.getD j [] = y at *
  unfold fn_X12_matchesKey
  rw [g_1117 (by omega), Option.bind_some, p3]
  have e : fn_X12_matchesKey_12 uFu (nI n) (nI j) 0 (wI t 1079 23 (nI y.length)) = ((fun s => (iget 20 s 1111 (nI n)).bind fun v2 => if v2 = 1 then (fb_X12_matchesKey_60 (nI n) true s) else (fb_X12_matchesKey_60 (nI n) false s)) : uS → Option (uS × Bool)) (cpy (wI t 1079 23 (nI y.length)) 1094 0 0 y.length (fun i => nI (y.getD i 0))) := by
    refine cpy0 (F := fun N x s => fn_X12_matchesKey_12 N (nI n) (nI j) x s) (fin := fun s => (iget 20 s 1111 (nI n)).bind fun v2 => if v2 = 1 then (fb_X12_matchesKey_60 (nI n) true s) else (fb_X12_matchesKey_60 (nI n) false s)) ?_ ?_ (by show _ < 1000000; omega)
    · intro N q hq
      show fb_X12_matchesKey_12 (fn_X12_matchesKey_12 N) (nI n) (nI j) (nI q) _ = _
      unfold fb_X12_matchesKey_12
      rw [cpy_I, wI_e, if_neg (nI_ge (by omega) (by omega)), g_1116 (by omega), Option.bind_some, cpy_Fo (by decide), wI_F, p2, nI_add, g_1097 (by omega), Option.bind_some, cpy_Fo (by decide), wI_F, p4 q hq, p_1094 (by omega), Option.bind_some, nI_1 q, Nat.zero_add]
    · intro N
      show fb_X12_matchesKey_12 (fn_X12_matchesKey_12 N) (nI n) (nI j) (nI y.length) _ = _
      unfold fb_X12_matchesKey_12
      rw [cpy_I, wI_e, if_pos (nI_le (Nat.le_refl _) (by omega))]
  rw [e]
  have oT : out mkI mkF t (cpy (wI t 1079 23 (nI y.length)) 1094 0 0 y.length (fun i => nI (y.getD i 0))) := out_t (out_I out_r ⟨rfl, rfl⟩) (out_cpy (fun _ => Or.inl rfl))
  generalize hT : cpy (wI t 1079 23 (nI y.length)) 1094 0 0 y.length (fun i => nI (y.getD i 0)) = T at *
  have hT2 : r2 T y := by
    rw [← hT]
    refine ⟨by rw [cpy_I, wI_e], pl, h8, fun i hi => ?_⟩
    have := cpy_Fe (s := wI t 1079 23 (nI y.length)) (K := 1094) (off := 0) (i := 0) (L := y.length) (g := fun i => nI (y.getD i 0)) (Nat.zero_le i) hi
    rw [Nat.zero_add] at this
    exact this
  have hT1 : r1 T a := h1.mk (oT.2.1 _ _ (by unfold mkI; omega)) (fun j => oT.2.2 _ _ (by unfold mkF; omega))
  obtain ⟨q1, q2, q3, q4, q5, q6⟩ := hh.fr (t1 := T) (fun k _ _ => oT.2.2 _ _ (by unfold mkF; omega))
  obtain ⟨t1, v, w1, w2, w3⟩ := r_76 (c := c) q1 q2 q3 q4 q6 hT1 hT2
  refine ⟨t1, v, ?_, w2, out_t oT (out_w w3 (fun _ _ z => z.elim) (fun k f z => by unfold ptW at z; unfold mkF; omega))⟩
  dsimp only
  unfold fb_X12_matchesKey_60
  rw [g_1111 q1, Option.bind_some, q5]
  by_cases c1 : c = 1
  · rw [if_pos (show nI c = 1 by rw [c1]; rfl), Option.bind_some, if_neg (show ¬ nI c = 2 by rw [c1]; decide)]
    rw [decide_eq_true c1, decide_eq_false (show ¬ c = 2 by omega)] at w1
    exact w1
  · rw [if_neg (show ¬ nI c = 1 from nI_ne (b := 1) (by omega) (by decide) c1), Option.bind_some]
    rw [decide_eq_false c1] at w1
    by_cases c2 : c = 2
    · rw [if_pos (show nI c = 2 by rw [c2]; rfl)]
      rw [decide_eq_true c2] at w1
      exact w1
    · rw [if_neg (show ¬ nI c = 2 from nI_ne (b := 2) (by omega) (by decide) c2)]
      rw [decide_eq_false c2] at w1
      exact w1
def vlI (k f : Nat) : Prop := k = 1079 ∧ (f = 23 ∨ f = 109 ∨ f = 110)
theorem r_val {n m r c f L : Nat} {ts : List (List Nat)} {a : List Nat} (hfL : f + L ≤ ts.length) (hL : L ≤ 10) : ∀ (d N q : Nat) (t : uS) (b : Bool), q + d = L → d + 1 ≤ N → rHw t n m r c → r1 t a → rSt t ts → t.F 1104 n = nI f → t.F 1105 n = nI L → t.I 1079 110 = bI b → ∃ (t1 : uS) (b1 : Bool), fn_X12_value_12 N (nI n) (nI q) t = some t1 ∧ t1.I 1079 110 = bI b1 ∧ (b1 = true ↔ b = true ∨ (m ≠ 3 ∧ ∃ j : Nat, q ≤ j ∧ j < L ∧ mKy m r (decide (c = 2)) (fl (decide (c = 1)) a) (fl (decide (c = 1)) (ts.getD (f + j) [])))) ∧ out (fun k f => k = 1079 ∧ (f = 23 ∨ f = 110)) mkF t t1 := by
  intro d
  induction d with
  | zero =>
    intro N q t b hq hN hh h1 hs h4 h5 hb
    obtain ⟨n1, rfl⟩ : ∃ n1, N = n1 + 1 := ⟨N - 1, by omega⟩
    refine ⟨t, b, ?_, hb, ?_, out_r⟩
    · show fb_X12_value_12 _ (nI n) (nI q) t = _
      unfold fb_X12_value_12
      rw [g_1105 hh.1, Option.bind_some, h5, if_pos (nI_le (by omega) (by omega))]
    · exact ⟨Or.inl, fun z => z.elim id (fun ⟨_, j, j1, j2, _⟩ => by omega)⟩
  | succ d ih =>
    intro N q t b hq hN hh h1 hs h4 h5 hb
    obtain ⟨n1, rfl⟩ : ∃ n1, N = n1 + 1 := ⟨N - 1, by omega⟩
    show ∃ (t1 : uS) (b1 : Bool), fb_X12_value_12 (fn_X12_value_12 n1) (nI n) (nI q) t = some t1 ∧ _
    unfold fb_X12_value_12
    have hm5 := hh.2.2.1
    rw [g_1105 hh.1, Option.bind_some, h5, if_neg (nI_ge (by omega) (by omega)), g_1109 hh.1, Option.bind_some, hh.2.1, hb, nI_1 q]
    by_cases z3 : m = 3
    · rw [if_pos (show nI m = 3 by rw [z3]; rfl)]
      exact ⟨t, b, rfl, hb, ⟨Or.inl, fun z => z.elim id (fun z => absurd z3 z.1)⟩, out_r⟩
    rw [if_neg (show ¬ nI m = 3 from nI_ne (b := 3) (by omega) (by decide) z3)]
    cases b with
    | true =>
      rw [if_neg (show ¬ bI true = 0 by decide)]
      have o1 : out (fun k f => k = 1079 ∧ (f = 23 ∨ f = 110)) mkF t (wI t 1079 110 1) := out_I out_r ⟨rfl, Or.inr rfl⟩
      obtain ⟨t1, b1, w1, w2, w3, w4⟩ := ih n1 (q + 1) (wI t 1079 110 1) true (by omega) (by omega) (hh.fr (fun _ _ _ => rfl)) (h1.mk (wI_o (by omega)) (fun _ => rfl)) (hs.fr (fun _ _ _ => rfl)) h4 h5 (wI_e _ _ _ _)
      exact ⟨t1, b1, w1, w2, ⟨fun _ => Or.inl rfl, fun _ => w3.mpr (Or.inl rfl)⟩, out_t o1 w4⟩
    | false =>
      rw [if_pos (show bI false = 0 by decide), g_1104 hh.1, Option.bind_some, h4, nI_add]
      obtain ⟨t2, v, x1, x2, x3⟩ := r_mkey hh h1 hs (j := f + q) (by omega)
      rw [x1, Option.bind_some]
      have key : ∀ V : Int32, V = bI v → ∃ (t1 : uS) (b1 : Bool), fn_X12_value_12 n1 (nI n) (nI (q + 1)) (wI t2 1079 110 V) = some t1 ∧ t1.I 1079 110 = bI b1 ∧ (b1 = true ↔ false = true ∨ (m ≠ 3 ∧ ∃ j : Nat, q ≤ j ∧ j < L ∧ mKy m r (decide (c = 2)) (fl (decide (c = 1)) a) (fl (decide (c = 1)) (ts.getD (f + j) [])))) ∧ out (fun k f => k = 1079 ∧ (f = 23 ∨ f = 110)) mkF t t1 := by
        intro V hV
        have o2 : out (fun k f => k = 1079 ∧ (f = 23 ∨ f = 110)) mkF t (wI t2 1079 110 V) := out_I (out_w x3 (fun k f z => by unfold mkI at z; omega) (fun _ _ z => z)) ⟨rfl, Or.inr rfl⟩
        have F : ∀ k j : Nat, ¬ mkF k j → (wI t2 1079 110 V).F k j = t.F k j := fun k j hk => o2.2.2 k j hk
        obtain ⟨t1, b1, w1, w2, w3, w4⟩ := ih n1 (q + 1) (wI t2 1079 110 V) v (by omega) (by omega) (hh.fr (fun k _ _ => F _ _ (by unfold mkF; omega))) (h1.mk (o2.2.1 _ _ (by omega)) (fun j => F _ _ (by unfold mkF; omega))) (hs.fr (fun k j _ => F _ _ (by unfold mkF; omega))) ((F _ _ (by unfold mkF; omega)).trans h4) ((F _ _ (by unfold mkF; omega)).trans h5) ((wI_e _ _ _ _).trans hV)
        refine ⟨t1, b1, w1, w2, ?_, out_t o2 w4⟩
        rw [w3]
        refine ⟨fun z => Or.inr ⟨z3, ?_⟩, fun z => ?_⟩
        · rcases z with z | ⟨-, j, j1, j2, j3⟩
          · exact ⟨q, Nat.le_refl _, by omega, x2.mp z⟩
          · exact ⟨j, by omega, j2, j3⟩
        · rcases z with z | ⟨-, j, j1, j2, j3⟩
          · cases z
          · by_cases y : j = q
            · subst y; exact Or.inl (x2.mpr j3)
            · exact Or.inr ⟨z3, j, by omega, j2, j3⟩
      cases v with
      | true => exact key 1 rfl
      | false => exact key 0 rfl
theorem r_value {n m r c f L : Nat} {ts : List (List Nat)} {a : List Nat} {t : uS} {b : Bool} {x : Nat} (hfL : f + L ≤ ts.length) (hL : L ≤ 10) (hh : rHw t n m r c) (h1 : r1 t a) (hs : rSt t ts) (h4 : t.F 1104 n = nI f) (h5 : t.F 1105 n = nI L) (hx : t.I 1079 109 = nI x) (hb : t.I 1079 110 = bI b) : ∃ (t1 : uS) (b1 : Bool), fn_X12_value (nI n) t = some t1 ∧ t1.I 1079 109 = nI (x + 1) ∧ t1.I 1079 110 = bI b1 ∧ (b1 = true ↔ b = true ∨ (m ≠ 3 ∧ ∃ j : Nat, j < L ∧ mKy m r (decide (c = 2)) (fl (decide (c = 1)) a) (fl (decide (c = 1)) (ts.getD (f + j) [])))) ∧ out vlI mkF t t1 := by
  unfold fn_X12_value
  rw [hx, nI_1]
  have o0 : out vlI mkF t (wI t 1079 109 (nI (x + 1))) := out_I out_r ⟨rfl, Or.inr (Or.inl rfl)⟩
  obtain ⟨t1, b1, w1, w2, w3, w4⟩ := r_val (a := a) hfL hL L 1000000 0 (wI t 1079 109 (nI (x + 1))) b (by omega) (by omega) (hh.fr (fun _ _ _ => rfl)) (h1.mk (wI_o (by omega)) (fun _ => rfl)) (hs.fr (fun _ _ _ => rfl)) h4 h5 ((wI_o (by omega)).trans hb)
  refine ⟨t1, b1, w1, ?_, w2, ?_, out_t o0 (out_w w4 (fun k f z => by unfold vlI; omega) (fun _ _ z => z))⟩
  · rw [w4.2.1 _ _ (by omega), wI_e]
  · rw [w3]
    refine ⟨fun z => z.imp id (fun ⟨y, j, j1, j2, j3⟩ => ⟨y, j, j2, j3⟩), fun z => z.imp id (fun ⟨y, j, j2, j3⟩ => ⟨y, j, Nat.zero_le _, j2, j3⟩)⟩
