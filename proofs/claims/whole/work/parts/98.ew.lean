/-! running a script: a test on both sides -/
/-- the class's strings: raised in places below u, as written from u on -/
def cStr (s : uS) (ts : List (List Nat)) (bg u : Nat) (ts1 : List (List Nat)) : Prop := cTz s 8 2000 301 ts1 bg [] ∧ ts1.length = ts.length ∧ (∀ j : Nat, u ≤ j → ts1.getD j [] = ts.getD j []) ∧ ∀ j : Nat, (ts1.getD j []).length = (ts.getD j []).length
theorem cStr.up {s : uS} {ts ts1 : List (List Nat)} {bg u w : Nat} (h : cStr s ts bg u ts1) (hw : u ≤ w) : cStr s ts bg w ts1 := ⟨h.1, h.2.1, fun j hj => h.2.2.1 j (by omega), h.2.2.2⟩
/-- what a test wants of the reference -/
def rCt (t0 t : uS) (ts : List (List Nat)) (fs : List (List Nat × List Nat)) (snd rcp : List Nat) (sz g : Nat) : Prop := (∀ r f : Nat, 1097 ≤ r → r ≤ 1117 → t.F r f = t0.F r f) ∧ rSt t ts ∧ rMs t fs snd rcp sz ∧ t.I 1079 94 = nI g
theorem rCt.o {t0 t t1 : uS} {ts : List (List Nat)} {fs : List (List Nat × List Nat)} {snd rcp : List Nat} {sz g : Nat} (h : rCt t0 t ts fs snd rcp sz g) (o : out leI leF t t1) : rCt t0 t1 ts fs snd rcp sz g := by
  obtain ⟨h1, h2, ⟨m1, m2, m3, m4, m5⟩, h4⟩ := h
  have F : ∀ k j : Nat, ¬ leF k j → t1.F k j = t.F k j := fun k j hk => o.2.2 k j hk
  exact ⟨fun r f a b => (F _ _ (by unfold leF; omega)).trans (h1 r f a b), h2.fr (fun k j _ => F _ _ (by unfold leF; omega)), ⟨m1.o o (by unfold leI; omega) (fun _ _ _ _ => by unfold leF; omega), m2.o o (by unfold leI; omega) (fun _ => by unfold leF; omega), m3.o o (by unfold leI; omega) (fun _ => by unfold leF; omega), (o.2.1 _ _ (by unfold leI; omega)).trans m4, m5⟩, (o.2.1 _ _ (by unfold leI; omega)).trans h4⟩
/-- what a test wants of the class -/
def cCt (s0 s : uS) (N : Nat) (fs : List (List Nat × List Nat)) (snd : List Nat) (rcs : List (List Nat)) (sz ri g : Nat) : Prop := (∀ i : Nat, i < 320 → ndS i s0 s) ∧ s.I 6 2 = nI N ∧ cMs s fs snd rcs sz ∧ s.I 1070 12 = nI ri ∧ s.I 1070 13 = nI g ∧ s.I 1070 17 = 0
theorem cCt.o {s0 s s1 : uS} {N : Nat} {fs : List (List Nat × List Nat)} {snd : List Nat} {rcs : List (List Nat)} {sz ri g : Nat} (h : cCt s0 s N fs snd rcs sz ri g) (o : out lgI lgF s s1) : cCt s0 s1 N fs snd rcs sz ri g := by
  obtain ⟨h1, h2, h3, h4, h5, h6⟩ := h
  have I : ∀ k q : Nat, ¬ lgI k q → s1.I k q = s.I k q := fun k q hk => o.2.1 k q hk
  refine ⟨fun i hi => ?_, (I _ _ (by unfold lgI; omega)).trans h2, h3.o o (fun k f _ _ => by unfold lgI; omega) (fun k f _ _ => by unfold lgF tF; omega), (I _ _ (by unfold lgI; omega)).trans h4, (I _ _ (by unfold lgI; omega)).trans h5, (I _ _ (by unfold lgI; omega)).trans h6⟩
  obtain ⟨a, b, c⟩ := h1 i hi
  exact ⟨fun f => (I _ _ (by unfold lgI; omega)).trans (a f), fun f => (o.2.2 _ _ (by unfold lgF tF; omega)).trans (b f), fun f => (o.2.2 _ _ (by unfold lgF tF; omega)).trans (c f)⟩
def btR (M i : Nat) (B : Bool) (l tu : Nat) (s : uS) : Option uS := (btL l i B s).bind fun v => fn_X7_run_4 M v (nI tu) s
/-- where the class is behind a test -/
def tcO (s : uS) (ts ts1 : List (List Nat)) (bg u w i j i0 D : Nat) (B : Bool) : Prop := ∃ (s1 : uS) (ts2 : List (List Nat)) (tn l : Nat), 1 ≤ tn ∧ tn ≤ j - i ∧ l + 1 ≤ D ∧ cStr s1 ts bg w ts2 ∧ (∀ q : Nat, q < u → ts2.getD q [] = ts1.getD q []) ∧ out lgI lgF s s1 ∧ ∀ M tu : Nat, tu + tn ≤ 320 → fn_X7_run_4 (M + tn) (nI i) (nI tu) s = btR M i0 B l (tu + tn) s1
theorem tsR.pe : ∀ {D : Nat} {s t : uS} {p i j n m u w : Nat}, tsR D s t p i j n m u w → s.I (16 + 3 * i) 1 = nI p ∧ s.I (16 + 3 * i) 3 = nI j
  | 0, _, _, _, _, _, _, _, _, _, h => h.elim
  | _ + 1, _, _, _, _, _, _, _, _, _, h => ⟨h.2.2.2.1, h.2.2.2.2.1⟩
theorem t_sev {s0 t0 : uS} {ts : List (List Nat)} {bg N : Nat} {fs : List (List Nat × List Nat)} {snd : List Nat} {rcs : List (List Nat)} {rcp : List Nat} {sz ri g : Nat} {live : Bool} {D i0 J κ : Nat} {R : Int32 → uS → Option (uS × Bool)} (hN : N ≤ 310) (hi0 : i0 < 320) (hD : D < 20) (hκ : κ = 17 ∨ κ = 18) (hk0 : s0.I (16 + 3 * i0) 0 = nI κ) (hk3 : s0.I (16 + 3 * i0) 3 = nI J) (ih : ∀ (i j n m u w : Nat) (s t : uS) (ts1 : List (List Nat)), tsR D s0 t0 i0 i j n m u w → j ≤ N → m ≤ 520 → w ≤ ts.length → rCt t0 t ts fs snd rcp sz g → (live = true → cCt s0 s N fs snd rcs sz ri g ∧ cStr s ts bg u ts1) → ∃ (t1 : uS) (B : Bool), R (nI n) t = some (t1, B) ∧ out leI leF t t1 ∧ (live = true → tcO s ts ts1 bg u w i j i D B)) : ∀ (L : List (Nat × Nat × Nat)) (FU i n m u w : Nat) (s t : uS) (ts1 : List (List Nat)), chR (tsR D s0 t0 i0) t0 L i J n m u w → J ≤ N → m ≤ 520 → w ≤ ts.length → L.length + 2 ≤ FU → rCt t0 t ts fs snd rcp sz g → (live = true → cCt s0 s N fs snd rcs sz ri g ∧ cStr s ts bg u ts1) → ∃ (t1 : uS) (B : Bool), fn_X12_holds_181 R FU (decide (κ = 17)) (nI n) t = some (t1, B) ∧ out leI leF t t1 ∧ (live = true → tcO s ts ts1 bg u w i J i0 (D + 1) B) := by
  have step : ∀ (t : uS) (n : Nat) (FU : Nat) (t1 : uS) (B : Bool), n < 520 → R (nI n) t = some (t1, B) → fn_X12_holds_181 R (FU + 1) (decide (κ = 17)) (nI n) t = if B = decide (κ = 17) then fn_X12_holds_181 R FU (decide (κ = 17)) (t1.F 1101 n) t1 else some (t1, !decide (κ = 17)) := by
    intro t n FU t1 B hn e
    show fb_X12_holds_181 R (fn_X12_holds_181 R FU) (decide (κ = 17)) (nI n) t = _
    unfold fb_X12_holds_181
    rw [if_neg (nI_pos (by omega)), e, Option.bind_some]
    dsimp only
    by_cases z : B = decide (κ = 17)
    · rw [if_pos (by rw [z]), if_pos z, g_1101 hn, Option.bind_some]
    · rw [if_neg (show ¬ bI B = bI (decide (κ = 17)) by intro y; apply z; revert y; cases B <;> cases decide (κ = 17) <;> decide), if_neg z]
      cases decide (κ = 17) <;> rfl
  intro L
  induction L with
  | nil =>
    intro FU i n m u w s t ts1 hc hJ hm hw hF hr hcl
    obtain ⟨h1, h2⟩ := hc
    have hlt := tsR.lt h1
    obtain ⟨f2, rfl⟩ : ∃ f2, FU = f2 + 2 := ⟨FU - 2, by simp at hF; omega⟩
    obtain ⟨t1, B, e1, e2, e3⟩ := ih i J n m u w s t ts1 h1 hJ hm hw hr hcl
    refine ⟨t1, B, ?_, e2, fun hl => ?_⟩
    · rw [step t n (f2 + 1) t1 B (by omega) e1, (hr.o e2).1 _ _ (by omega) (by omega), h2]
      by_cases z : B = decide (κ = 17)
      · rw [if_pos z]
        show fb_X12_holds_181 R (fn_X12_holds_181 R f2) (decide (κ = 17)) (-1) t1 = _
        unfold fb_X12_holds_181
        rw [if_pos (by decide), z]
      · rw [if_neg z]
        congr 2
        revert z; cases B <;> cases decide (κ = 17) <;> decide
    · obtain ⟨s1, ts2, tn, l, x1, x2, x3, x4, x5, x6, x7⟩ := e3 hl
      have hcc := (hcl hl).1.o x6
      refine ⟨s1, ts2, tn, l + 1, x1, x2, by omega, x4, x5, x6, fun M tu h => ?_⟩
      rw [x7 M tu h]
      unfold btR
      have hp := tsR.pe h1
      have n1 := hcc.1 i (by omega)
      have n2 := hcc.1 i0 hi0
      rw [bt_up (κ := κ) (e := J) (E := J) (by omega) (by omega) hi0 ((n1.1 _).trans hp.1) ((n2.1 _).trans hk0) (by omega) ((n1.1 _).trans hp.2) (by omega) (fun _ => ⟨(n2.1 _).trans hk3, by omega⟩), if_neg (by omega), if_neg (by omega), if_neg (fun z => by omega)]
  | cons q L ihL =>
    intro FU i n m u w s t ts1 hc hJ hm hw hF hr hcl
    obtain ⟨h1, h2, h3⟩ := hc
    have hlt := tsR.lt h1
    have hl3 := chR.lt (fun i j n m u w z => tsR.lt z) h3
    simp only [List.length_cons] at hF
    obtain ⟨f2, rfl⟩ : ∃ f2, FU = f2 + 1 := ⟨FU - 1, by omega⟩
    obtain ⟨t1, B, e1, e2, e3⟩ := ih i q.1 n q.2.1 u q.2.2 s t ts1 h1 (by omega) (by omega) (by omega) hr hcl
    have hr1 := hr.o e2
    have hp := tsR.pe h1
    by_cases z : B = decide (κ = 17)
    · -- on to the next
      have hx : live = true → ∃ (s1 : uS) (ts2 : List (List Nat)), (cCt s0 s1 N fs snd rcs sz ri g ∧ cStr s1 ts bg q.2.2 ts2) ∧ (∀ v : Nat, v < u → ts2.getD v [] = ts1.getD v []) ∧ out lgI lgF s s1 ∧ ∃ tn : Nat, 1 ≤ tn ∧ tn ≤ q.1 - i ∧ ∀ M tu : Nat, tu + tn ≤ 320 → fn_X7_run_4 (M + tn) (nI i) (nI tu) s = fn_X7_run_4 M (nI q.1) (nI (tu + tn)) s1 := by
        intro hl
        obtain ⟨s1, ts2, tn, l, x1, x2, x3, x4, x5, x6, x7⟩ := e3 hl
        have hcc := (hcl hl).1.o x6
        refine ⟨s1, ts2, ⟨hcc, x4⟩, x5, x6, tn, x1, x2, fun M tu h => ?_⟩
        rw [x7 M tu h]
        unfold btR
        have n1 := hcc.1 i (by omega)
        have n2 := hcc.1 i0 hi0
        rw [bt_up (κ := κ) (e := q.1) (E := J) (by omega) (by omega) hi0 ((n1.1 _).trans hp.1) ((n2.1 _).trans hk0) (by omega) ((n1.1 _).trans hp.2) (by omega) (fun _ => ⟨(n2.1 _).trans hk3, by omega⟩), if_neg (by omega), if_neg (by omega), if_pos ⟨z, by omega⟩, Option.bind_some]
      cases hlv : live with
      | false =>
        obtain ⟨t2, B2, y1, y2, -⟩ := ihL f2 q.1 q.2.1 m q.2.2 w s t1 ts1 h3 hJ hm hw (by omega) hr1 (fun y => by rw [hlv] at y; cases y)
        refine ⟨t2, B2, ?_, out_t e2 y2, fun y => by cases y⟩
        rw [step t n f2 t1 B (by omega) e1, if_pos z, hr1.1 _ _ (by omega) (by omega), h2]
        exact y1
      | true =>
        obtain ⟨s1, ts2, c1, c2, c3, tn, c4, c5, c6⟩ := hx hlv
        obtain ⟨t2, B2, y1, y2, y3⟩ := ihL f2 q.1 q.2.1 m q.2.2 w s1 t1 ts2 h3 hJ hm hw (by omega) hr1 (fun _ => c1)
        refine ⟨t2, B2, ?_, out_t e2 y2, fun _ => ?_⟩
        · rw [step t n f2 t1 B (by omega) e1, if_pos z, hr1.1 _ _ (by omega) (by omega), h2]
          exact y1
        · obtain ⟨s3, ts3, tn3, l3, z1, z2, z3, z4, z5, z6, z7⟩ := y3 hlv
          refine ⟨s3, ts3, tn + tn3, l3, by omega, by omega, z3, z4, fun v hv => (z5 v (by omega)).trans (c2 v hv), out_t c3 z6, fun M tu h => ?_⟩
          rw [show M + (tn + tn3) = (M + tn3) + tn by omega, c6 (M + tn3) tu (by omega), z7 M (tu + tn) (by omega), Nat.add_assoc]
    · refine ⟨t1, B, ?_, e2, fun hl => ?_⟩
      · rw [step t n f2 t1 B (by omega) e1, if_neg z]
        congr 2
        revert z; cases B <;> cases decide (κ = 17) <;> decide
      · obtain ⟨s1, ts2, tn, l, x1, x2, x3, x4, x5, x6, x7⟩ := e3 hl
        have hcc := (hcl hl).1.o x6
        refine ⟨s1, ts2, tn, l + 1, x1, by omega, by omega, x4.up (by omega), x5, x6, fun M tu h => ?_⟩
        rw [x7 M tu h]
        unfold btR
        have n1 := hcc.1 i (by omega)
        have n2 := hcc.1 i0 hi0
        rw [bt_up (κ := κ) (e := q.1) (E := J) (by omega) (by omega) hi0 ((n1.1 _).trans hp.1) ((n2.1 _).trans hk0) (by omega) ((n1.1 _).trans hp.2) (by omega) (fun _ => ⟨(n2.1 _).trans hk3, by omega⟩), if_neg (by omega), if_neg (by omega), if_neg (fun y => z y.1)]
theorem chR.le {R : Nat → Nat → Nat → Nat → Nat → Nat → Prop} {t : uS} (hR : ∀ i j n m u w : Nat, R i j n m u w → i < j ∧ n < m ∧ u ≤ w) : ∀ {L : List (Nat × Nat × Nat)} {i j n m u w : Nat}, chR R t L i j n m u w → L.length + 1 ≤ m - n
  | [], _, _, _, _, _, _, h => by have := hR _ _ _ _ _ _ h.1; simp; omega
  | q :: L, _, _, _, _, _, _, h => by
    have := hR _ _ _ _ _ _ h.1
    have := chR.le hR h.2.2
    have := chR.lt hR h.2.2
    simp only [List.length_cons]; omega
theorem t_test {s0 t0 : uS} {ts : List (List Nat)} {bg N : Nat} {fs : List (List Nat × List Nat)} {snd : List Nat} {rcs : List (List Nat)} {sz ri g : Nat} {live : Bool} (hN : N ≤ 310) (ho : fsO fs) (as_ : adO snd) (ar : adO (rcs.getD ri [])) (hri : ri < rcs.length) (hg : g < 32) (hl1 : ∀ j : Nat, j < ts.length → (ts.getD j []).length ≤ 1000) : ∀ (D FG p i j n m u w : Nat) (s t : uS) (ts1 : List (List Nat)), D < 20 → tsR D s0 t0 p i j n m u w → j ≤ N → m ≤ 520 → w ≤ ts.length → rCt t0 t ts fs snd (rcs.getD ri []) sz g → (live = true → cCt s0 s N fs snd rcs sz ri g ∧ cStr s ts bg u ts1) → ∃ (t1 : uS) (B : Bool), fg_1 (D + FG) (nI n) t = some (t1, B) ∧ out leI leF t t1 ∧ (live = true → tcO s ts ts1 bg u w i j i D B) := by
  intro D
  induction D with
  | zero => intro FG p i j n m u w s t ts1 hD h; exact h.elim
  | succ D ih =>
    intro FG p i j n m u w s t ts1 hD h hj hm hw hr hcl
    obtain ⟨h1, h2, h3, h4, h5, κ, k1, k2, k3, k4, h6⟩ := h
    rw [show D + 1 + FG = (D + FG) + 1 by omega]
    show ∃ (t1 : uS) (B : Bool), fn_X12_holds (fg_1 (D + FG)) (nI n) t = some (t1, B) ∧ _
    have hn : n < 520 := by omega
    have o0 : out leI leF t (wI (wI t 1079 109 0) 1079 110 0) := out_I (out_I out_r ⟨rfl, by omega⟩) ⟨rfl, by omega⟩
    have hr0 := hr.o o0
    have tk : ∀ r f : Nat, 1097 ≤ r → r ≤ 1117 → (wI (wI t 1079 109 0) 1079 110 0).F r f = t0.F r f := hr0.1
    rcases h6 with ⟨e19, e2, e3⟩ | ⟨e1, e2, L, e3⟩ | ⟨e1, e2, e3, e4, e5, e6⟩
    · -- not
      subst e19
      have hr0' := hr0
      have gk : ∀ (t1 : uS) (B : Bool), fg_1 (D + FG) (nI (n + 1)) (wI (wI t 1079 109 0) 1079 110 0) = some (t1, B) → fn_X12_holds (fg_1 (D + FG)) (nI n) t = some (t1, !B) := by
        intro t1 B hB
        unfold fn_X12_holds
        rw [g_1098 hn, Option.bind_some, tk _ _ (by omega) (by omega), k4]
        rw [if_neg (show ¬ nI (19 + 9) = 20 by decide), if_neg (show ¬ nI (19 + 9) = 21 by decide), if_neg (show ¬ nI (19 + 9) = 22 by decide), if_neg (show ¬ nI (19 + 9) = 23 by decide), if_neg (show ¬ nI (19 + 9) = 24 by decide), if_neg (show ¬ nI (19 + 9) = 25 by decide), if_neg (show ¬ nI (19 + 9) = 26 by decide), if_neg (show ¬ nI (19 + 9) = 27 by decide), if_pos (show nI (19 + 9) = 28 by decide), g_1099 hn, Option.bind_some, tk _ _ (by omega) (by omega), e2, hB, Option.bind_some]
        cases B <;> rfl
      have hlt := tsR.lt e3
      have hp := tsR.pe e3
      obtain ⟨t1, B, x1, x2, x3⟩ := ih FG i (i + 1) j (n + 1) m u w s (wI (wI t 1079 109 0) 1079 110 0) ts1 (by omega) e3 hj hm hw hr0 hcl
      refine ⟨t1, !B, gk t1 B x1, out_t o0 x2, fun hl => ?_⟩
      obtain ⟨s1, ts2, tn, l, y1, y2, y3, y4, y5, y6, y7⟩ := x3 hl
      obtain ⟨cc, cs⟩ := hcl hl
      obtain ⟨z1, z2, z3, z4, z5, z6⟩ := cc
      have hcc := (hcl hl).1.o y6
      refine ⟨s1, ts2, tn + 1, l + 1, by omega, by omega, by omega, y4, y5, y6, fun M tu hM => ?_⟩
      rw [show M + (tn + 1) = (M + tn) + 1 by omega, run_pass z2 (by omega) hN (by omega) z6 (((z1 i (by omega)).1 _).trans k3) (by omega), y7 M (tu + 1) (by omega), show tu + 1 + tn = tu + (tn + 1) by omega]
      unfold btR
      have n1 := hcc.1 (i + 1) (by omega)
      have n2 := hcc.1 i (by omega)
      rw [bt_up (κ := 19) (e := j) (E := j) (by omega) (by omega) (by omega) ((n1.1 _).trans hp.1) ((n2.1 _).trans k3) (by omega) ((n1.1 _).trans hp.2) (by omega) (fun z => by omega), if_neg (by omega), if_pos rfl]
    · -- several
      have hlt := chR.lt (fun i j n m u w z => tsR.lt z) e3
      have hle := chR.le (fun i j n m u w z => tsR.lt z) e3
      have hx : live = true → cCt s0 s N fs snd rcs sz ri g ∧ cStr s ts bg u ts1 := hcl
      obtain ⟨t1, B, x1, x2, x3⟩ := t_sev (live := live) (R := fg_1 (D + FG)) (rcp := rcs.getD ri []) (D := D) (i0 := i) (J := j) (κ := κ) hN (by omega) (by omega) e1 k3 h5 (fun i' j' n' m' u' w' s' t' ts1' a1 a2 a3 a4 a5 a6 => ih FG i i' j' n' m' u' w' s' t' ts1' (by omega) a1 a2 a3 a4 a5 a6) L 1000000 (i + 1) (n + 1) m u w s (wI (wI t 1079 109 0) 1079 110 0) ts1 e3 hj hm hw (by omega) hr0 hx
      refine ⟨t1, B, ?_, out_t o0 x2, fun hl => ?_⟩
      · unfold fn_X12_holds
        rw [g_1098 hn, Option.bind_some, tk _ _ (by omega) (by omega), k4]
        rcases e1 with e | e
        · subst e
          rw [if_neg (show ¬ nI (17 + 9) = 20 by decide), if_neg (show ¬ nI (17 + 9) = 21 by decide), if_neg (show ¬ nI (17 + 9) = 22 by decide), if_neg (show ¬ nI (17 + 9) = 23 by decide), if_neg (show ¬ nI (17 + 9) = 24 by decide), if_neg (show ¬ nI (17 + 9) = 25 by decide), if_pos (show nI (17 + 9) = 26 by decide), Option.bind_some, if_pos (show nI (17 + 9) = 26 by decide), g_1099 hn, Option.bind_some, tk _ _ (by omega) (by omega), e2]
          exact x1
        · subst e
          rw [if_neg (show ¬ nI (18 + 9) = 20 by decide), if_neg (show ¬ nI (18 + 9) = 21 by decide), if_neg (show ¬ nI (18 + 9) = 22 by decide), if_neg (show ¬ nI (18 + 9) = 23 by decide), if_neg (show ¬ nI (18 + 9) = 24 by decide), if_neg (show ¬ nI (18 + 9) = 25 by decide), if_neg (show ¬ nI (18 + 9) = 26 by decide), if_pos (show nI (18 + 9) = 27 by decide), Option.bind_some, if_neg (show ¬ nI (18 + 9) = 26 by decide), g_1099 hn, Option.bind_some, tk _ _ (by omega) (by omega), e2]
          exact x1
      · obtain ⟨s1, ts2, tn, l, y1, y2, y3, y4, y5, y6, y7⟩ := x3 hl
        obtain ⟨cc, cs⟩ := hcl hl
        obtain ⟨z1, z2, z3, z4, z5, z6⟩ := cc
        refine ⟨s1, ts2, tn + 1, l, by omega, by omega, y3, y4, y5, y6, fun M tu hM => ?_⟩
        rw [show M + (tn + 1) = (M + tn) + 1 by omega, run_pass z2 (by omega) hN (by omega) z6 (((z1 i (by omega)).1 _).trans k3) (by omega), y7 M (tu + 1) (by omega), show tu + 1 + tn = tu + (tn + 1) by omega]
    · subst e4
      subst e5
      have h1098 : t.F 1098 n = nI (κ + 9) := (hr.1 _ _ (by omega) (by omega)).trans k4
      have hlf : lfR κ i n u w s0 t := by
        refine e6.fr ⟨fun _ => rfl, fun _ => rfl, fun _ => rfl⟩ (fun r a b => hr.1 _ _ (by omega) (by omega))
      obtain ⟨mm, r, c, pp, fN, aN, f, a, d, ov, c3, g1, g2, g3, g4⟩ := lf_nd (ts := ts) hlf k1 k3 h1098 hw hn hr.2.1
      obtain ⟨t1, x1, x2⟩ := r_leaf (R := fg_1 (D + FG)) (g := g) ⟨k1, k2, by omega, by omega, by omega⟩ c3 g2 hr.2.2.1 ho as_ ar hr.2.2.2 hg
      refine ⟨t1, _, x1, x2, fun hl => ?_⟩
      obtain ⟨cc, cs⟩ := hcl hl
      have cl : ∀ q : Nat, (ts1.getD q []).length ≤ 1000 := fun q => by
        rw [cs.2.2.2 q]
        by_cases z : q < ts.length
        · exact hl1 q z
        · rw [List.getD_eq_getElem?_getD, List.getElem?_eq_none (by omega)]; simp
      obtain ⟨z1, z2, z3, z4, z5, z6⟩ := cc
      obtain ⟨n1, n2, n3⟩ := z1 i (by omega)
      have g1' : cNd s (16 + 3 * i) κ mm r c pp fN aN f a d ov ts1.length := by
        rw [cs.2.1]
        obtain ⟨q1, q2, q3, q4, q5⟩ := g1
        rw [show 17 + 3 * i = 16 + 3 * i + 1 by omega] at n2
        rw [show 18 + 3 * i = 16 + 3 * i + 2 by omega] at n3
        exact ⟨(n1 _).trans q1, fun z => ⟨(n1 _).trans (q2 z).1, (q2 z).2.1, fun y => ⟨(n1 _).trans ((q2 z).2.2.1 y).1, ((q2 z).2.2.1 y).2⟩, (n1 _).trans (q2 z).2.2.2.1, (q2 z).2.2.2.2.1, (n1 _).trans (q2 z).2.2.2.2.2.1, (q2 z).2.2.2.2.2.2.1, (n2 _).trans (q2 z).2.2.2.2.2.2.2.1, (n3 _).trans (q2 z).2.2.2.2.2.2.2.2.1, (q2 z).2.2.2.2.2.2.2.2.2⟩, fun z => ⟨(n2 _).trans (q3 z).1, (n3 _).trans (q3 z).2.1, (q3 z).2.2⟩, fun z => ⟨(q4 z).1, (n1 _).trans (q4 z).2.1, (n1 _).trans (q4 z).2.2⟩, fun z => (n3 _).trans (q5 z)⟩
      obtain ⟨s1, y1, ⟨ts2, y2, y3, y4⟩, y5⟩ := c_leaf (i := i) (ri := ri) (g := g) (by omega) ⟨k1, k2, by omega, by omega, by omega⟩ g1' z3 ho hri hg cs.1 (fun q _ => cl q)
      rw [lfV_c (u := u) (by omega) cs.2.2.1 (fun z => (g3 z).1) g4] at y1
      refine ⟨s1, ts2, 1, 0, by omega, by omega, by omega, ⟨y2, y3.trans cs.2.1, fun q hq => ?_, fun q => ?_⟩, fun q hq => ?_, y5, fun M tu hM => ?_⟩
      · by_cases c : q < ts1.length
        · rcases y4 q c with y | ⟨y0, y6, y7, -⟩
          · rw [y]; exact cs.2.2.1 q (by omega)
          · have := g3 y0; omega
        · rw [List.getD_eq_getElem?_getD, List.getD_eq_getElem?_getD, List.getElem?_eq_none (by omega), List.getElem?_eq_none (by have := cs.2.1; omega)]
      · by_cases c : q < ts1.length
        · rcases y4 q c with y | ⟨y0, y6, y7, y8⟩
          · rw [y]; exact cs.2.2.2 q
          · rw [y8, fl_len]; exact cs.2.2.2 q
        · rw [List.getD_eq_getElem?_getD, List.getD_eq_getElem?_getD, List.getElem?_eq_none (by omega), List.getElem?_eq_none (by have := cs.2.1; omega)]
      · by_cases c : q < ts1.length
        · rcases y4 q c with y | ⟨y0, y6, y7, -⟩
          · exact y
          · have := g3 y0; omega
        · rw [List.getD_eq_getElem?_getD, List.getD_eq_getElem?_getD, List.getElem?_eq_none (by omega), List.getElem?_eq_none (by omega)]
      · rw [run_nod z2 (by omega) hN (by omega) z6 ((n1 _).trans k3) (by omega), if_pos ⟨k1, k2, by omega, by omega, by omega⟩, z4, z5]
        obtain ⟨s2, w1, w2⟩ := uu_ob y1
        rw [w1, Option.bind_some, w2, Option.bind_some]
        dsimp only
        rw [bt_0]
        rfl
