/-! running a script: class and reference beside each other -/
/-- where both are behind a piece of a script -/
def rnO (s0 t0 : uS) (N : Nat) (fs : List (List Nat × List Nat)) (snd : List Nat) (rcs : List (List Nat)) (sz ri : Nat) (ts bx : List (List Nat)) (bg uu : Nat) (live : Bool) (u w i j : Nat) (ts1 : List (List Nat)) (s : uS) (p1 : pl) (st1 : Bool) : Prop := (live = false → fcP bx ts p1 = true) ∧ (live = true → (st1 = false ∧ ∃ (s1 : uS) (ts2 : List (List Nat)) (tn ir iv : Nat), tn ≤ j - i ∧ lvR s0 t0 N fs snd rcs sz ri ts bx bg uu w ts2 p1 ir iv s1 ∧ (∀ q : Nat, q < u → ts2.getD q [] = ts1.getD q []) ∧ ∀ M tu : Nat, tu + tn ≤ 320 → fn_X7_run_4 (M + tn) (nI i) (nI tu) s = fn_X7_run_4 M (nI j) (nI (tu + tn)) s1) ∨ (st1 = true ∧ ∃ (s1 : uS) (ts2 : List (List Nat)) (tn ir iv : Nat), tn ≤ j - i ∧ lvR s0 t0 N fs snd rcs sz ri ts bx bg uu w ts2 p1 ir iv s1 ∧ (∀ q : Nat, q < u → ts2.getD q [] = ts1.getD q []) ∧ ∀ M tu : Nat, tu + tn ≤ 320 → fn_X7_run_4 (M + 1 + tn) (nI i) (nI tu) s = some (wI s1 1070 17 1)) ∨ (fcP bx ts p1 = true ∧ ∃ (s1 : uS) (tn : Nat), tn ≤ j - i ∧ s1.I 1070 16 = 1 ∧ ∀ M tu : Nat, tu + tn ≤ 320 → fn_X7_run_4 (M + 1 + tn) (nI i) (nI tu) s = some s1))
/-- a turn or more ahead of a piece -/
theorem rnO.pre {s0 t0 : uS} {N : Nat} {fs : List (List Nat × List Nat)} {snd : List Nat} {rcs : List (List Nat)} {sz ri : Nat} {ts bx : List (List Nat)} {bg uu : Nat} {live : Bool} {u v w i k j d : Nat} {ts1 ts2 : List (List Nat)} {s s1 : uS} {p1 : pl} {st1 : Bool} (h : rnO s0 t0 N fs snd rcs sz ri ts bx bg uu live v w k j ts2 s1 p1 st1) (hd : i + d ≤ k) (hkj : k ≤ j) (huv : u ≤ v) (hk : ∀ q : Nat, q < u → ts2.getD q [] = ts1.getD q []) (e : live = true → ∀ M tu : Nat, tu + d ≤ 320 → fn_X7_run_4 (M + d) (nI i) (nI tu) s = fn_X7_run_4 M (nI k) (nI (tu + d)) s1) : rnO s0 t0 N fs snd rcs sz ri ts bx bg uu live u w i j ts1 s p1 st1 := by
  refine ⟨h.1, fun hl => ?_⟩
  rcases h.2 hl with ⟨z, s2, ts3, tn, ir, iv, a1, a2, a3, a4⟩ | ⟨z, s2, ts3, tn, ir, iv, a1, a2, a3, a4⟩ | ⟨z, s2, tn, a1, a2, a3⟩
  · refine Or.inl ⟨z, s2, ts3, d + tn, ir, iv, by omega, a2, fun q hq => (a3 q (by omega)).trans (hk q hq), fun M tu hM => ?_⟩
    rw [show M + (d + tn) = (M + tn) + d by omega, e hl _ _ (by omega), a4 _ _ (by omega), Nat.add_assoc]
  · refine Or.inr (Or.inl ⟨z, s2, ts3, d + tn, ir, iv, by omega, a2, fun q hq => (a3 q (by omega)).trans (hk q hq), fun M tu hM => ?_⟩)
    rw [show M + 1 + (d + tn) = (M + 1 + tn) + d by omega, e hl _ _ (by omega), a4 _ _ (by omega)]
  · refine Or.inr (Or.inr ⟨z, s2, d + tn, by omega, a2, fun M tu hM => ?_⟩)
    rw [show M + 1 + (d + tn) = (M + 1 + tn) + d by omega, e hl _ _ (by omega), a3 _ _ (by omega)]
/-- one piece behind another -/
theorem rn_seq {s0 t0 : uS} {N : Nat} {fs : List (List Nat × List Nat)} {snd : List Nat} {rcs : List (List Nat)} {sz ri : Nat} {ts bx : List (List Nat)} {bg uu : Nat} {X : uS → pl → Bool → Prop} {live : Bool} {u v w i k j : Nat} {ts1 : List (List Nat)} {s : uS} {p1 : pl} (h : rnO s0 t0 N fs snd rcs sz ri ts bx bg uu live u v i k ts1 s p1 false) (hik : i ≤ k) (hkj : k ≤ j) (huv : u ≤ v) (cont : ∀ (live2 : Bool) (s1 : uS) (ts2 : List (List Nat)) (ir iv : Nat), (live2 = true → lvR s0 t0 N fs snd rcs sz ri ts bx bg uu v ts2 p1 ir iv s1) → (live2 = false → fcP bx ts p1 = true) → ∃ (t2 : uS) (p2 : pl) (st2 : Bool), X t2 p2 st2 ∧ rnO s0 t0 N fs snd rcs sz ri ts bx bg uu live2 v w k j ts2 s1 p2 st2) : ∃ (t2 : uS) (p2 : pl) (st2 : Bool), X t2 p2 st2 ∧ rnO s0 t0 N fs snd rcs sz ri ts bx bg uu live u w i j ts1 s p2 st2 := by
  cases hl : live with
  | false =>
    obtain ⟨t2, p2, st2, x1, x2⟩ := cont false s ts1 0 0 (fun z => by cases z) (fun _ => h.1 hl)
    exact ⟨t2, p2, st2, x1, fun _ => x2.1 rfl, fun z => by cases z⟩
  | true =>
    rcases h.2 hl with ⟨z, s2, ts3, tn, ir, iv, a1, a2, a3, a4⟩ | ⟨z, s2, ts3, tn, ir, iv, a1, a2, a3, a4⟩ | ⟨z, s2, tn, a1, a2, a3⟩
    · obtain ⟨t2, p2, st2, x1, x2⟩ := cont true s2 ts3 ir iv (fun _ => a2) (fun z => by cases z)
      exact ⟨t2, p2, st2, x1, x2.pre (d := tn) (by omega) hkj huv a3 (fun _ => a4)⟩
    · cases z
    · obtain ⟨t2, p2, st2, x1, x2⟩ := cont false s ts1 0 0 (fun z => by cases z) (fun _ => z)
      exact ⟨t2, p2, st2, x1, fun z => (by cases z), fun _ => Or.inr (Or.inr ⟨x2.1 rfl, s2, tn, by omega, a2, a3⟩)⟩
/-- what was stopped ends all -/
theorem rnO.stop {s0 t0 : uS} {N : Nat} {fs : List (List Nat × List Nat)} {snd : List Nat} {rcs : List (List Nat)} {sz ri : Nat} {ts bx : List (List Nat)} {bg uu : Nat} {live : Bool} {u v w i k j : Nat} {ts1 : List (List Nat)} {s : uS} {p1 : pl} (h : rnO s0 t0 N fs snd rcs sz ri ts bx bg uu live u v i k ts1 s p1 true) (hkj : k ≤ j) (hvw : v ≤ w) : rnO s0 t0 N fs snd rcs sz ri ts bx bg uu live u w i j ts1 s p1 true := by
  refine ⟨h.1, fun hl => ?_⟩
  rcases h.2 hl with ⟨z, -⟩ | ⟨z, s2, ts3, tn, ir, iv, a1, a2, a3, a4⟩ | ⟨z, s2, tn, a1, a2, a3⟩
  · cases z
  · exact Or.inr (Or.inl ⟨z, s2, ts3, tn, ir, iv, by omega, a2.up hvw, a3, a4⟩)
  · exact Or.inr (Or.inr ⟨z, s2, tn, by omega, a2, a3⟩)
/-- what the reference has behind a piece -/
def rnX (t0 : uS) (fs : List (List Nat × List Nat)) (snd rcp : List Nat) (sz : Nat) (ts : List (List Nat)) (s0 : uS) (j : Nat) (r : Option uS) (t1 : uS) (p1 : pl) (st1 : Bool) : Prop := r = some t1 ∧ rCt t0 t1 ts fs snd rcp sz (pg p1) ∧ rPn t1 ts p1 st1 ∧ bdP s0 j p1
/-- the commands of a list -/
theorem t_list {s0 t0 : uS} {N : Nat} {fs : List (List Nat × List Nat)} {snd : List Nat} {rcs : List (List Nat)} {sz ri : Nat} {ts bx : List (List Nat)} {bg uu : Nat} {B : Nat} {R : Int32 → uS → Option uS} (hN : N ≤ 310) (ih : ∀ (i j n m u w : Nat) (s t : uS) (ts1 : List (List Nat)) (p : pl) (ir iv : Nat) (live : Bool), 1 ≤ i → cnR B ts s0 t0 i j n m u w → j ≤ N → m ≤ 520 → w ≤ ts.length → nEl s0 N j → rCt t0 t ts fs snd (rcs.getD ri []) sz (pg p) → rPn t ts p false → bdP s0 i p → (live = true → lvR s0 t0 N fs snd rcs sz ri ts bx bg uu u ts1 p ir iv s) → (live = false → fcP bx ts p = true) → ∃ (t1 : uS) (p1 : pl) (st1 : Bool), rnX t0 fs snd (rcs.getD ri []) sz ts s0 j (R (nI n) t) t1 p1 st1 ∧ rnO s0 t0 N fs snd rcs sz ri ts bx bg uu live u w i j ts1 s p1 st1) : ∀ (L : List (Nat × Nat × Nat)) (FU i j n m u w : Nat) (s t : uS) (ts1 : List (List Nat)) (p : pl) (ir iv : Nat) (live : Bool), 1 ≤ i → chR (cnR B ts s0 t0) t0 L i j n m u w → j ≤ N → m ≤ 520 → w ≤ ts.length → nEl s0 N j → L.length + 2 ≤ FU → rCt t0 t ts fs snd (rcs.getD ri []) sz (pg p) → rPn t ts p false → bdP s0 i p → (live = true → lvR s0 t0 N fs snd rcs sz ri ts bx bg uu u ts1 p ir iv s) → (live = false → fcP bx ts p = true) → ∃ (t1 : uS) (p1 : pl) (st1 : Bool), rnX t0 fs snd (rcs.getD ri []) sz ts s0 j (fn_X12_run_7 R FU (nI n) t) t1 p1 st1 ∧ rnO s0 t0 N fs snd rcs sz ri ts bx bg uu live u w i j ts1 s p1 st1 := by
  have step : ∀ (t t1 : uS) (n FU : Nat), n < 520 → t.I 1079 96 = 0 → R (nI n) t = some t1 → fn_X12_run_7 R (FU + 1) (nI n) t = fn_X12_run_7 R FU (t1.F 1101 n) t1 := by
    intro t t1 n FU hn h96 e
    show fb_X12_run_7 R (fn_X12_run_7 R FU) (nI n) t = _
    unfold fb_X12_run_7
    rw [if_neg (nI_pos (by omega)), if_pos h96, e, Option.bind_some, g_1101 hn, Option.bind_some]
  have fin : ∀ (t1 : uS) (FU : Nat) (v : Int32), v < 0 ∨ t1.I 1079 96 ≠ 0 → fn_X12_run_7 R (FU + 1) v t1 = some t1 := by
    intro t1 FU v h
    show fb_X12_run_7 R (fn_X12_run_7 R FU) v t1 = _
    unfold fb_X12_run_7
    by_cases c : v < 0
    · rw [if_pos c]
    · rw [if_neg c, if_neg (h.resolve_left c)]
  intro L
  induction L with
  | nil =>
    intro FU i j n m u w s t ts1 p ir iv live h1 hc hj hm hw hel hF hr hp hb hlv hdd
    obtain ⟨c1, c2⟩ := hc
    have hlt := cnR.lt c1
    obtain ⟨f2, rfl⟩ : ∃ f2, FU = f2 + 2 := ⟨FU - 2, by simp at hF; omega⟩
    obtain ⟨t1, p1, st1, ⟨x1, x2, x3, x4⟩, y⟩ := ih i j n m u w s t ts1 p ir iv live h1 c1 hj hm hw hel hr hp hb hlv hdd
    refine ⟨t1, p1, st1, ⟨?_, x2, x3, x4⟩, y⟩
    rw [step t t1 n (f2 + 1) (by omega) hp.2.2.2.2.2.1 x1, x2.1 _ _ (by omega) (by omega), c2]
    exact fin t1 f2 (-1) (Or.inl (by decide))
  | cons q L ihL =>
    intro FU i j n m u w s t ts1 p ir iv live h1 hc hj hm hw hel hF hr hp hb hlv hdd
    obtain ⟨c1, c2, c3⟩ := hc
    have hlt := cnR.lt c1
    have hl3 := chR.lt (fun i j n m u w z => cnR.lt z) c3
    simp only [List.length_cons] at hF
    obtain ⟨f2, rfl⟩ : ∃ f2, FU = f2 + 1 := ⟨FU - 1, by omega⟩
    have hq : nEl s0 N q.1 := by
      refine Or.inr ⟨by omega, ?_⟩
      cases L with
      | nil =>
        have c4 := c3.1
        cases B with
        | zero => exact c4.elim
        | succ B =>
          obtain ⟨-, -, -, κ, k1, k2, -⟩ := c4
          exact ⟨κ, k2, by omega, by omega, by omega⟩
      | cons q' L' =>
        have c4 := c3.1
        cases B with
        | zero => exact c4.elim
        | succ B =>
          obtain ⟨-, -, -, κ, k1, k2, -⟩ := c4
          exact ⟨κ, k2, by omega, by omega, by omega⟩
    obtain ⟨t1, p1, st1, ⟨x1, x2, x3, x4⟩, y⟩ := ih i q.1 n q.2.1 u q.2.2 s t ts1 p ir iv live h1 c1 (by omega) (by omega) (by omega) hq hr hp hb hlv hdd
    have e0 : fn_X12_run_7 R (f2 + 1) (nI n) t = fn_X12_run_7 R f2 (nI q.2.1) t1 := by
      rw [step t t1 n f2 (by omega) hp.2.2.2.2.2.1 x1, x2.1 _ _ (by omega) (by omega), c2]
    cases st1 with
    | true =>
      obtain ⟨f3, rfl⟩ : ∃ f3, f2 = f3 + 1 := ⟨f2 - 1, by omega⟩
      refine ⟨t1, p1, true, ⟨?_, x2, x3, x4.up (by omega) (by omega)⟩, y.stop (by omega) (by omega)⟩
      rw [e0]
      exact fin t1 f3 _ (Or.inr (by rw [x3.2.2.2.2.2.1]; decide))
    | false =>
      refine rn_seq y (by omega) (by omega) (by omega) (fun live2 s1 ts2 ir2 iv2 g1 g2 => ?_)
      obtain ⟨t2, p2, st2, w1, w2⟩ := ihL f2 q.1 j q.2.1 m q.2.2 w s1 t1 ts2 p1 ir2 iv2 live2 (by omega) c3 hj hm hw hel (by omega) x2 x3 x4 g1 g2
      refine ⟨t2, p2, st2, ⟨?_, w1.2⟩, w2⟩
      rw [e0]
      exact w1.1
/-- the commands of a block -/
theorem t_block {s0 t0 : uS} {N : Nat} {fs : List (List Nat × List Nat)} {snd : List Nat} {rcs : List (List Nat)} {sz ri : Nat} {ts bx : List (List Nat)} {bg uu : Nat} {B P : Nat} {R : Int32 → uS → Option uS} (hN : N ≤ 310) (hP : P < 520) (ih : ∀ (i j n m u w : Nat) (s t : uS) (ts1 : List (List Nat)) (p : pl) (ir iv : Nat) (live : Bool), 1 ≤ i → cnR B ts s0 t0 i j n m u w → j ≤ N → m ≤ 520 → w ≤ ts.length → nEl s0 N j → rCt t0 t ts fs snd (rcs.getD ri []) sz (pg p) → rPn t ts p false → bdP s0 i p → (live = true → lvR s0 t0 N fs snd rcs sz ri ts bx bg uu u ts1 p ir iv s) → (live = false → fcP bx ts p = true) → ∃ (t1 : uS) (p1 : pl) (st1 : Bool), rnX t0 fs snd (rcs.getD ri []) sz ts s0 j (R (nI n) t) t1 p1 st1 ∧ rnO s0 t0 N fs snd rcs sz ri ts bx bg uu live u w i j ts1 s p1 st1) {i j n m u w : Nat} {s t : uS} {ts1 : List (List Nat)} {p : pl} {ir iv : Nat} {live : Bool} (h1 : 1 ≤ i) (hc : lcR (cnR B ts s0 t0) t0 P i j n m u w) (hj : j ≤ N) (hm : m ≤ 520) (hw : w ≤ ts.length) (hel : nEl s0 N j) (hr : rCt t0 t ts fs snd (rcs.getD ri []) sz (pg p)) (hp : rPn t ts p false) (hb : bdP s0 i p) (hlv : live = true → lvR s0 t0 N fs snd rcs sz ri ts bx bg uu u ts1 p ir iv s) (hdd : live = false → fcP bx ts p = true) : ∃ (t1 : uS) (p1 : pl) (st1 : Bool), rnX t0 fs snd (rcs.getD ri []) sz ts s0 j (fn_X12_run R (nI P) t) t1 p1 st1 ∧ rnO s0 t0 N fs snd rcs sz ri ts bx bg uu live u w i j ts1 s p1 st1 := by
  have e : fn_X12_run R (nI P) t = fn_X12_run_7 R uFu (t0.F 1099 P) t := by
    unfold fn_X12_run
    rw [g_1099 hP, Option.bind_some, hr.1 _ _ (by omega) (by omega)]
  rcases hc with ⟨c1, c2, c3, c4⟩ | ⟨L, c1, c2⟩
  · refine ⟨t, p, false, ⟨?_, hr, hp, by rw [c1]; exact hb⟩, hdd, fun hl => Or.inl ⟨rfl, s, ts1, 0, ir, iv, by omega, (hlv hl).up c3, fun _ _ => rfl, fun M tu hM => by rw [c1]; rfl⟩⟩
    rw [e, c4]
    show fb_X12_run_7 R (fn_X12_run_7 R 999999) (-1) t = _
    unfold fb_X12_run_7
    rw [if_pos (by decide)]
  · have hle := chR.le (fun i j n m u w z => cnR.lt z) c2
    obtain ⟨t1, p1, st1, x, y⟩ := t_list hN ih L 1000000 i j n m u w s t ts1 p ir iv live h1 c2 hj hm hw hel (by omega) hr hp hb hlv hdd
    refine ⟨t1, p1, st1, ⟨?_, x.2⟩, y⟩
    rw [e, c1]
    exact x.1
