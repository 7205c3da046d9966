/-! running a script: tests on both sides; pieces -/
theorem lsdB_c {ts ts1 : List (List Nat)} {f a u : Nat} (h : ∀ j : Nat, u ≤ j → ts1.getD j [] = ts.getD j []) (hf : u ≤ f) : lsdB ts1 f a = lsdB ts f a := by
  funext nm
  unfold lsdB
  exact anyB_c _ _ (fun j _ _ => by rw [h (f + j) (by omega)])
theorem evB_c {ts ts1 : List (List Nat)} {f a u : Nat} {W : List Nat} (h : ∀ j : Nat, u ≤ j → ts1.getD j [] = ts.getD j []) (hf : u ≤ f) : evB ts1 f a W = evB ts f a W := by
  unfold evB
  exact anyB_c _ _ (fun j _ _ => by rw [h (f + j) (by omega)])
theorem allN_c {ts ts1 : List (List Nat)} {fs : List (List Nat × List Nat)} {f a u : Nat} (h : ∀ j : Nat, u ≤ j → ts1.getD j [] = ts.getD j []) (hf : u ≤ f) : allN fs ts1 f a = allN fs ts f a := by
  unfold allN
  congr 1
  exact anyB_c _ _ (fun j _ _ => by rw [h (f + j) (by omega)])
theorem lvs_c {ts ts1 : List (List Nat)} {fs : List (List Nat × List Nat)} {snd rcp : List Nat} {κ f a g u : Nat} (h : ∀ j : Nat, u ≤ j → ts1.getD j [] = ts.getD j []) (hf : κ ≤ 13 → u ≤ f) : lvs κ f a ts1 fs snd rcp g = lvs κ f a ts fs snd rcp g := by
  unfold lvs
  by_cases c : κ ≤ 13
  · rw [lsdB_c h (hf c), evB_c h (hf c), evB_c h (hf c)]
  · rw [if_neg (show ¬ (κ = 11 ∨ κ = 12) by omega), if_neg (show ¬ κ = 13 by omega), if_neg (show ¬ (κ = 11 ∨ κ = 12) by omega), if_neg (show ¬ κ = 13 by omega)]
theorem lfV_c {κ m r c p fN aN f a d g sz u : Nat} {ov : Bool} {ts ts1 : List (List Nat)} {fs : List (List Nat × List Nat)} {snd rcp : List Nat} (hκ : κ ≤ 14 ∨ κ = 15 ∨ κ = 16 ∨ κ = 20 ∨ κ = 21) (h : ∀ j : Nat, u ≤ j → ts1.getD j [] = ts.getD j []) (h1 : κ ≤ 14 → u ≤ f) (h2 : κ ≤ 13 ∨ κ = 15 → u ≤ fN) : lfV κ m r c p fN aN f a d ov ts1 fs snd rcp g sz = lfV κ m r c p fN aN f a d ov ts fs snd rcp g sz := by
  unfold lfV
  by_cases c15 : κ = 15
  · rw [if_pos c15, if_pos c15, allN_c h (h2 (Or.inr c15))]
  rw [if_neg c15, if_neg c15]
  by_cases c16 : κ = 16
  · rw [if_pos c16, if_pos c16]
  rw [if_neg c16, if_neg c16]
  by_cases c20 : κ = 20
  · rw [if_pos c20, if_pos c20]
  rw [if_neg c20, if_neg c20]
  by_cases c21 : κ = 21
  · rw [if_pos c21, if_pos c21]
  rw [if_neg c21, if_neg c21, lvs_c h (fun z => h2 (Or.inl z))]
  have hu := h1 (by omega)
  by_cases c3 : m = 3
  · rw [if_pos c3, if_pos c3]
    unfold ctB
    exact anyB_c _ _ (fun j _ _ => by rw [h (f + j) (by omega)])
  · rw [if_neg c3, if_neg c3]
    unfold hdF
    exact anyB_c _ _ (fun v _ _ => anyB_c _ _ (fun j _ _ => by rw [h (f + j) (by omega)]))
/-- a leaf as both hold it -/
theorem lf_nd {κ i n u w : Nat} {s t : uS} {ts : List (List Nat)} (h : lfR κ i n u w s t) (hκ : 11 ≤ κ) (h0 : s.I (16 + 3 * i) 0 = nI κ) (h1 : t.F 1098 n = nI (κ + 9)) (hw : w ≤ ts.length) (hn : n < 520) (hs : rSt t ts) : ∃ (m r c p fN aN f a d : Nat) (ov : Bool), c < 3 ∧ cNd s (16 + 3 * i) κ m r c p fN aN f a d ov ts.length ∧ rNd t n κ m r c p fN aN f a d ov ts ∧ (κ ≤ 14 → u ≤ f ∧ f + a ≤ w) ∧ (κ ≤ 13 ∨ κ = 15 → u ≤ fN) := by
  obtain ⟨a1, a2, a3, a4⟩ := h
  have e1 : 17 + 3 * i = 16 + 3 * i + 1 := by omega
  have e2 : 18 + 3 * i = 16 + 3 * i + 2 := by omega
  have names : ∃ fN aN : Nat, κ ≤ 13 ∨ κ = 15 → u ≤ fN ∧ fN + aN ≤ w ∧ s.F (16 + 3 * i + 1) 0 = nI fN ∧ s.F (16 + 3 * i + 2) 0 = nI aN ∧ t.F 1102 n = nI fN ∧ t.F 1103 n = nI aN := by
    by_cases c : κ ≤ 13 ∨ κ = 15
    · obtain ⟨f, a, q1, q2, q3, q4, q5, q6, q7, q8⟩ := a2 c
      rw [e1] at q5
      rw [e2] at q6
      exact ⟨f, a, fun _ => ⟨q1, q4, q5, q6, q7, q8⟩⟩
    · exact ⟨0, 0, fun z => absurd z c⟩
  obtain ⟨fN, aN, hN⟩ := names
  have sz : ∃ (d : Nat) (ov : Bool), κ = 16 → d < 2 ^ 31 ∧ s.I (16 + 3 * i) 10 = nI d ∧ t.F 1113 n = nI d ∧ s.I (16 + 3 * i) 12 = bI ov ∧ t.F 1109 n = bI ov := by
    by_cases c : κ = 16
    · obtain ⟨d, ov, q⟩ := a3 c
      exact ⟨d, ov, fun _ => q⟩
    · exact ⟨0, false, fun z => absurd z c⟩
  obtain ⟨d, ov, hS⟩ := sz
  by_cases c : κ ≤ 14
  · obtain ⟨⟨m, m1, m2, m3, m4⟩, ⟨cc, c1, c2, c3⟩, ⟨⟨p, p1, p2, p3⟩, p4⟩, ⟨f, a, q1, q2, q3, q4, q5, q6, q7, q8⟩⟩ := a1 c
    rw [e1] at q5
    rw [e2] at q6
    have hr : ∃ r : Nat, 3 ≤ m → r < 6 ∧ s.I (16 + 3 * i) 7 = nI r ∧ t.F 1110 n = nI r := by
      by_cases c3 : 3 ≤ m
      · obtain ⟨r, r1⟩ := m4 c3; exact ⟨r, fun _ => r1⟩
      · exact ⟨0, fun z => absurd z c3⟩
    obtain ⟨r, hr⟩ := hr
    have hp0 : κ ≠ 12 → κ ≠ 13 → p = 0 := fun z1 z2 => by
      have := p4 z1 z2
      rw [p2] at this
      exact (nI_eq (b := 0) (by omega) (by decide)).mp this
    have hcm : cmpM cc < 3 := by unfold cmpM; split; omega; split <;> omega
    refine ⟨m, r, cc, p, fN, aN, f, a, d, ov, c1, ⟨h0, fun _ => ⟨m2, m1, fun z => ⟨(hr z).2.1, (hr z).1⟩, c2, c1, p2, p1, q5, q6, by omega⟩, fun z => ⟨(hN z).2.2.1, (hN z).2.2.2.1, by have := (hN z).2.1; omega⟩, fun z => ⟨(hS z).1, (hS z).2.1, (hS z).2.2.2.1⟩, fun z => by omega⟩, ⟨hn, h1, hs, fun _ => ⟨⟨⟨hn, m3, m1, fun z => ⟨(hr z).2.2, (hr z).1⟩, c3, hcm⟩, hs, q7, q8, by omega, q3, p3, p1⟩, hp0⟩, fun z => ⟨(hN z).2.2.2.2.1, (hN z).2.2.2.2.2, by have := (hN z).2.1; omega⟩, fun z => ⟨(hS z).1, (hS z).2.2.1, (hS z).2.2.2.2⟩⟩, fun _ => ⟨q1, q4⟩, fun z => (hN z).1⟩
  · refine ⟨0, 0, 0, 0, fN, aN, 0, 0, d, ov, by omega, ⟨h0, fun z => absurd z c, fun z => ⟨(hN z).2.2.1, (hN z).2.2.2.1, by have := (hN z).2.1; omega⟩, fun z => ⟨(hS z).1, (hS z).2.1, (hS z).2.2.2.1⟩, fun z => by rw [← e2]; exact a4 z⟩, ⟨hn, h1, hs, fun z => absurd z c, fun z => ⟨(hN z).2.2.2.2.1, (hN z).2.2.2.2.2, by have := (hN z).2.1; omega⟩, fun z => ⟨(hS z).1, (hS z).2.2.1, (hS z).2.2.2.2⟩⟩, fun z => absurd z c, fun z => (hN z).1⟩
/-! the class's loop: one turn -/
theorem run_s {M : Nat} {a b : Int32} {s : uS} : fn_X7_run_4 (M + 1) a b s = fb_X7_run_4 (fn_X7_run_4 M) a b s := rfl
theorem run_stop {M : Nat} {a b : Int32} {s : uS} (h : s.I 1070 17 ≠ 0) : fn_X7_run_4 (M + 1) a b s = some s := by
  rw [run_s]
  unfold fb_X7_run_4
  rw [if_neg h]
  split
  · rfl
  · split <;> rfl
theorem run_nod {M N i tu κ : Nat} {s : uS} (hN : s.I 6 2 = nI N) (hi : i < N) (hN3 : N ≤ 310) (htu : tu < 320) (h17 : s.I 1070 17 = 0) (hk : s.I (16 + 3 * i) 0 = nI κ) (hκ : κ < 100) : fn_X7_run_4 (M + 1) (nI i) (nI tu) s = if 11 ≤ κ ∧ κ ≤ 21 ∧ κ ≠ 17 ∧ κ ≠ 18 ∧ κ ≠ 19 then ((fn_X6_gather (16 + 3 * i) (s.I 1070 12) (s.I 1070 13) s).bind fun s15 => (fn_X6_holds (16 + 3 * i) s15).bind fun r17 => (fn_X7_behindTest (nI i) r17.2 r17.1).bind fun v19 => fn_X7_run_4 M v19 (nI (tu + 1)) r17.1) else if κ = 24 then ((fn_X7_behindElses (nI (i + 1)) s).bind fun v13 => fn_X7_run_4 M v13 (nI (tu + 1)) s) else ((fn_X7_perform (16 + 3 * i) s).bind fun s11 => fn_X7_run_4 M (nI (i + 1)) (nI (tu + 1)) s11) := by
  rw [run_s]
  unfold fb_X7_run_4
  rw [if_neg (show ¬ (320 : Int32) ≤ nI tu from nI_ge (b := 320) htu (by decide)), hN, if_neg (nI_ge hi (by omega)), if_pos h17, pgt_nod (by omega), Option.bind_some, if_pos (so_nod (by omega)), nI_1, nI_1]
  have st : fn_X3_isSimpleTest (16 + 3 * i) s = some (decide (11 ≤ κ ∧ κ ≤ 21 ∧ κ ≠ 17 ∧ κ ≠ 18 ∧ κ ≠ 19)) := by
    unfold fn_X3_isSimpleTest
    rw [hk]
    by_cases c1 : κ < 11
    · rw [if_pos (show nI κ < 11 from nI_lt (b := 11) c1 (by decide)), decide_eq_false (by omega)]
    rw [if_neg (show ¬ nI κ < 11 from nI_nlt (b := 11) (by omega) (by omega))]
    by_cases c2 : 21 < κ
    · rw [if_pos (show (21 : Int32) < nI κ from nI_lt (a := 21) c2 (by omega)), decide_eq_false (by omega)]
    rw [if_neg (show ¬ (21 : Int32) < nI κ from nI_nlt (a := 21) (by omega) (by decide))]
    by_cases c3 : κ = 17
    · rw [if_pos (show nI κ = 17 by rw [c3]; rfl), decide_eq_false (by omega)]
    rw [if_neg (show ¬ nI κ = 17 from nI_ne (b := 17) (by omega) (by decide) c3)]
    by_cases c4 : κ = 18
    · rw [if_pos (show nI κ = 18 by rw [c4]; rfl), decide_eq_false (by omega)]
    rw [if_neg (show ¬ nI κ = 18 from nI_ne (b := 18) (by omega) (by decide) c4)]
    by_cases c5 : κ = 19
    · rw [if_pos (show nI κ = 19 by rw [c5]; rfl), decide_eq_false (by omega)]
    rw [if_neg (show ¬ nI κ = 19 from nI_ne (b := 19) (by omega) (by decide) c5), decide_eq_true (by omega)]
  rw [st, Option.bind_some]
  by_cases c : 11 ≤ κ ∧ κ ≤ 21 ∧ κ ≠ 17 ∧ κ ≠ 18 ∧ κ ≠ 19
  · rw [if_pos (decide_eq_true c), if_pos c]
  · rw [if_neg (by rw [decide_eq_true_eq]; exact c), if_neg c, hk]
    by_cases c2 : κ = 24
    · rw [if_pos (show nI κ = 24 by rw [c2]; rfl), if_pos c2]
    · rw [if_neg (show ¬ nI κ = 24 from nI_ne (b := 24) (by omega) (by decide) c2), if_neg c2]
/-- a node that nothing is done for -/
theorem run_pass {M N i tu κ : Nat} {s : uS} (hN : s.I 6 2 = nI N) (hi : i < N) (hN3 : N ≤ 310) (htu : tu < 320) (h17 : s.I 1070 17 = 0) (hk : s.I (16 + 3 * i) 0 = nI κ) (hκ : κ = 0 ∨ κ = 17 ∨ κ = 18 ∨ κ = 19 ∨ κ = 22 ∨ κ = 23) : fn_X7_run_4 (M + 1) (nI i) (nI tu) s = fn_X7_run_4 M (nI (i + 1)) (nI (tu + 1)) s := by
  rw [run_nod hN hi hN3 htu h17 hk (by omega), if_neg (by omega), if_neg (by omega)]
  unfold fn_X7_perform
  rw [hk]
  have : ∀ c : Nat, 1 ≤ c → c ≤ 10 → ¬ nI κ = nI c := fun c h1 h2 => nI_ne (by omega) (by omega) (by omega)
  rw [if_neg (show ¬ nI κ = 1 from this 1 (by omega) (by omega)), if_neg (show ¬ nI κ = 2 from this 2 (by omega) (by omega)), if_neg (show ¬ nI κ = 3 from this 3 (by omega) (by omega)), if_neg (show ¬ nI κ = 4 from this 4 (by omega) (by omega)), if_neg (show ¬ nI κ = 5 from this 5 (by omega) (by omega)), if_neg (show ¬ nI κ = 6 from this 6 (by omega) (by omega)), if_neg (show ¬ nI κ = 7 from this 7 (by omega) (by omega)), if_neg (show ¬ nI κ = 8 from this 8 (by omega) (by omega)), if_neg (show ¬ nI κ = 9 from this 9 (by omega) (by omega)), if_neg (show ¬ nI κ = 10 from this 10 (by omega) (by omega)), Option.bind_some]
/-! out of a test -/
def btL (l i : Nat) (B : Bool) (s : uS) : Option Int32 := fn_X7_behindTest_8 (1000000 - l) B (nI i) (nI l) s
theorem bt_0 {i : Nat} {B : Bool} {s : uS} : fn_X7_behindTest (nI i) B s = btL 0 i B s := rfl
theorem bt_up {l c i0 κ e E : Nat} {B : Bool} {s : uS} (hl : l < 320) (hc : c < 320) (hi : i0 < 320) (h1 : s.I (16 + 3 * c) 1 = nI i0) (h0 : s.I (16 + 3 * i0) 0 = nI κ) (hκ : κ = 0 ∨ κ = 22 ∨ κ = 17 ∨ κ = 18 ∨ κ = 19) (h3 : s.I (16 + 3 * c) 3 = nI e) (he : e < 1000) (hE : κ = 17 ∨ κ = 18 → s.I (16 + 3 * i0) 3 = nI E ∧ E < 1000) : btL l c B s = if κ = 0 ∨ κ = 22 then (if B = true then some (nI e) else some (s.I (16 + 3 * i0) 4)) else if κ = 19 then btL (l + 1) i0 (!B) s else if B = decide (κ = 17) ∧ e < E then some (nI e) else btL (l + 1) i0 B s := by
  unfold btL
  rw [show 1000000 - l = (1000000 - (l + 1)) + 1 by omega]
  show fb_X7_behindTest_8 (fn_X7_behindTest_8 (1000000 - (l + 1))) B (nI c) (nI l) s = _
  unfold fb_X7_behindTest_8
  rw [if_neg (show ¬ (320 : Int32) ≤ nI l from nI_ge (b := 320) hl (by decide)), pgt_nod hc, Option.bind_some, if_pos (so_nod hc), h1, pgt_nod hi, Option.bind_some, if_pos (so_nod hi), h0]
  by_cases c0 : κ = 0 ∨ κ = 22
  · rw [if_pos c0]
    unfold fb_X7_behindTest_61
    rw [h3]
    rcases c0 with e0 | e0
    · rw [if_pos (show nI κ = 0 by rw [e0]; rfl)]
    · rw [if_neg (show ¬ nI κ = 0 from nI_ne (b := 0) (by omega) (by decide) (by omega)), if_pos (show nI κ = 22 by rw [e0]; rfl)]
  rw [if_neg (show ¬ nI κ = 0 from nI_ne (b := 0) (by omega) (by decide) (by omega)), if_neg (show ¬ nI κ = 22 from nI_ne (b := 22) (by omega) (by decide) (by omega)), if_neg c0]
  by_cases c19 : κ = 19
  · rw [if_pos (show nI κ = 19 by rw [c19]; rfl), if_pos c19]
    unfold fb_X7_behindTest_98
    rw [h1, nI_1]
    cases B <;> rfl
  rw [if_neg (show ¬ nI κ = 19 from nI_ne (b := 19) (by omega) (by decide) c19), if_neg c19]
  obtain ⟨x1, x2⟩ := hE (by omega)
  have e118 : ∀ Q : Bool, fb_X7_behindTest_118 (fn_X7_behindTest_8 (1000000 - (l + 1))) B (nI l) (16 + 3 * c) (16 + 3 * i0) Q B s = if B = Q ∧ e < E then some (nI e) else fn_X7_behindTest_8 (1000000 - (l + 1)) B (nI i0) (nI (l + 1)) s := by
    intro Q
    unfold fb_X7_behindTest_118
    rw [x1, h3, h1, nI_1]
    by_cases z : B = Q
    · rw [if_pos (by rw [z])]
      by_cases y : e < E
      · rw [if_neg (nI_ge y (by omega)), if_pos ⟨z, y⟩]
      · rw [if_pos (nI_le (by omega) (by omega)), if_neg (fun w => y w.2)]
    · rw [if_neg (show ¬ bI B = bI Q by cases B <;> cases Q <;> first | exact absurd rfl z | decide), if_neg (fun w => z w.1)]
  by_cases c17 : κ = 17
  · rw [if_pos (show nI κ = 17 by rw [c17]; rfl), e118, decide_eq_true c17]
  · rw [if_neg (show ¬ nI κ = 17 from nI_ne (b := 17) (by omega) (by decide) c17), e118, decide_eq_false c17]
