/-! how a test compares, on both sides -/
theorem RU.pre {x : List Nat} {s t s0 t0 : uS} {C : Option (uS × Int32)} {A : Option uS} {G : uS → Nat → uS → Prop} (h : RU x s t C A G) (o : out psI psI s0 s) (q : ol rdI rdF rNo t0 t) : RU x s0 t0 C A G := by
  rcases h with ⟨p, s1, a1, a2, a3, a4⟩ | ⟨T1, s1, t1, a1, a2, a3, a4, a5⟩
  · exact Or.inl ⟨p, s1, a1, a2, out_t o a3, a4.w q⟩
  · exact Or.inr ⟨T1, s1, t1, a1, a2, out_t o a3, ol_t q a4, a5⟩
theorem RV.pre {x : List Nat} {s t s0 t0 : uS} {C : Option (uS × Int32)} {A : Option (uS × Int32)} {G : uS → Nat → uS → Nat → Prop} (h : RV x s t C A G) (o : out psI psI s0 s) (q : ol rdI rdF rNo t0 t) : RV x s0 t0 C A G := by
  rcases h with ⟨p, s1, a1, a2, a3, a4⟩ | ⟨T1, s1, t1, v, a1, a2, a3, a4, a5⟩
  · exact Or.inl ⟨p, s1, a1, a2, out_t o a3, a4.w q⟩
  · exact Or.inr ⟨T1, s1, t1, v, a1, a2, out_t o a3, ol_t q a4, a5⟩
theorem cmpM_lt {c : Nat} (h : c < 3) : cmpM c < 3 := by
  unfold cmpM
  split
  · omega
  · split <;> omega
def hwM (i n : Nat) (s t : uS) : Prop := ∃ m : Nat, m < 5 ∧ s.I (16 + 3 * i) 6 = nI m ∧ t.F 1109 n = nI m ∧ (3 ≤ m → ∃ r : Nat, r < 6 ∧ s.I (16 + 3 * i) 7 = nI r ∧ t.F 1110 n = nI r)
def hwC (i n : Nat) (s t : uS) : Prop := ∃ c : Nat, c < 3 ∧ s.I (16 + 3 * i) 8 = nI c ∧ t.F 1111 n = nI (cmpM c)
def hwP (i n : Nat) (s t : uS) : Prop := ∃ p : Nat, p < 3 ∧ s.I (16 + 3 * i) 9 = nI p ∧ t.F 1112 n = nI p
def hwm (i n : Nat) (s t : uS) : Prop := t.F 1109 n = -1 ∧ s.I (16 + 3 * i) 6 = nI 0 ∧ s.F (18 + 3 * i) 9 = nI 0
def hwc (i n : Nat) (s t : uS) : Prop := t.F 1111 n = -1 ∧ s.I (16 + 3 * i) 8 = nI 0 ∧ s.F (18 + 3 * i) 10 = nI 0
def hwp (i n : Nat) (s t : uS) : Prop := t.F 1112 n = -1 ∧ s.I (16 + 3 * i) 9 = nI 0
def hwS (i n g : Nat) (s t : uS) : Prop := s.I (16 + 3 * i) 5 = nI g ∧ g < 8 ∧ (g &&& 1 = 0 → hwm i n s t) ∧ (g &&& 1 ≠ 0 → hwM i n s t) ∧ (g &&& 2 = 0 → hwc i n s t) ∧ (g &&& 2 ≠ 0 → hwC i n s t) ∧ (g &&& 4 = 0 → hwp i n s t) ∧ (g &&& 4 ≠ 0 → hwP i n s t)
def thI (i k f : Nat) : Prop := (k = 6 ∧ f = 5) ∨ k = 7 ∨ k = 8 ∨ (k = 16 + 3 * i ∧ 5 ≤ f ∧ f ≠ 11)
theorem ln_th {i : Nat} {s s1 : uS} (h : out lnI' lqF s s1) : out (thI i) (tgF i) s s1 := out_w h (fun k f z => by unfold lnI' at z; unfold thI; omega) (fun k f z => by unfold lqF at z; unfold tgF; omega)
def hwG (k fr : Nat) (x : List Nat) (ts : List (List Nat)) (bg b : Nat) (σ : List (Nat × Nat)) (N M cn ob dp rq i n κ : Nat) (s t : uS) (s1 : uS) (T1 : Nat) (t1 : uS) : Prop := ∃ (news : List (List Nat)) (bg1 b1 e1 : Nat), bg ≤ bg1 ∧ b ≤ b1 ∧ pj k fr x (ts ++ news) bg1 b1 e1 σ N M cn ob dp rq T1 s1 t1 ∧ hwM i n s1 t1 ∧ hwC i n s1 t1 ∧ (hwP i n s1 t1 ∧ (κ ≠ 12 → κ ≠ 13 → s1.I (16 + 3 * i) 9 = nI 0)) ∧ out (thI i) (tgF i) s s1 ∧ ol rLI (rtF n ts.length bg) rNo t t1
theorem hwM.fr {i n : Nat} {s t s1 t1 : uS} (h : hwM i n s t) (a : s1.I (16 + 3 * i) 6 = s.I (16 + 3 * i) 6) (b : s1.I (16 + 3 * i) 7 = s.I (16 + 3 * i) 7) (c : t1.F 1109 n = t.F 1109 n) (d : t1.F 1110 n = t.F 1110 n) : hwM i n s1 t1 := by
  obtain ⟨m, h1, h2, h3, h4⟩ := h
  refine ⟨m, h1, a.trans h2, c.trans h3, fun z => ?_⟩
  obtain ⟨r, r1, r2, r3⟩ := h4 z
  exact ⟨r, r1, b.trans r2, d.trans r3⟩
theorem hwC.fr {i n : Nat} {s t s1 t1 : uS} (h : hwC i n s t) (a : s1.I (16 + 3 * i) 8 = s.I (16 + 3 * i) 8) (c : t1.F 1111 n = t.F 1111 n) : hwC i n s1 t1 := by
  obtain ⟨m, h1, h2, h3⟩ := h
  exact ⟨m, h1, a.trans h2, c.trans h3⟩
theorem hwP.fr {i n : Nat} {s t s1 t1 : uS} (h : hwP i n s t) (a : s1.I (16 + 3 * i) 9 = s.I (16 + 3 * i) 9) (c : t1.F 1112 n = t.F 1112 n) : hwP i n s1 t1 := by
  obtain ⟨m, h1, h2, h3⟩ := h
  exact ⟨m, h1, a.trans h2, c.trans h3⟩
theorem hwm.fr {i n : Nat} {s t s1 t1 : uS} (h : hwm i n s t) (a : s1.I (16 + 3 * i) 6 = s.I (16 + 3 * i) 6) (b : s1.F (18 + 3 * i) 9 = s.F (18 + 3 * i) 9) (c : t1.F 1109 n = t.F 1109 n) : hwm i n s1 t1 := ⟨c.trans h.1, a.trans h.2.1, b.trans h.2.2⟩
theorem hwc.fr {i n : Nat} {s t s1 t1 : uS} (h : hwc i n s t) (a : s1.I (16 + 3 * i) 8 = s.I (16 + 3 * i) 8) (b : s1.F (18 + 3 * i) 10 = s.F (18 + 3 * i) 10) (c : t1.F 1111 n = t.F 1111 n) : hwc i n s1 t1 := ⟨c.trans h.1, a.trans h.2.1, b.trans h.2.2⟩
theorem hwp.fr {i n : Nat} {s t s1 t1 : uS} (h : hwp i n s t) (a : s1.I (16 + 3 * i) 9 = s.I (16 + 3 * i) 9) (c : t1.F 1112 n = t.F 1112 n) : hwp i n s1 t1 := ⟨c.trans h.1, a.trans h.2⟩
theorem g8 : ∀ g : Fin 8, ((g.1 ||| 1) &&& 1 ≠ 0 ∧ (g.1 ||| 1) &&& 2 = g.1 &&& 2 ∧ (g.1 ||| 1) &&& 4 = g.1 &&& 4 ∧ g.1 ||| 1 < 8) ∧ ((g.1 ||| 2) &&& 2 ≠ 0 ∧ (g.1 ||| 2) &&& 1 = g.1 &&& 1 ∧ (g.1 ||| 2) &&& 4 = g.1 &&& 4 ∧ g.1 ||| 2 < 8) ∧ ((g.1 ||| 4) &&& 4 ≠ 0 ∧ (g.1 ||| 4) &&& 1 = g.1 &&& 1 ∧ (g.1 ||| 4) &&& 2 = g.1 &&& 2 ∧ g.1 ||| 4 < 8) := by decide
/-- a frame that leaves the other groups alone -/
theorem hwS.m {i n g : Nat} {s t s1 t1 : uS} (h : hwS i n g s t) (h5 : s1.I (16 + 3 * i) 5 = nI (g ||| 1)) (hM : hwM i n s1 t1) (a : ∀ f : Nat, f = 8 ∨ f = 9 → s1.I (16 + 3 * i) f = s.I (16 + 3 * i) f) (b : s1.F (18 + 3 * i) 10 = s.F (18 + 3 * i) 10) (c : ∀ r : Nat, r = 1111 ∨ r = 1112 → t1.F r n = t.F r n) : hwS i n (g ||| 1) s1 t1 := by
  obtain ⟨h1, h2, h3, h4, h6, h7, h8, h9⟩ := h
  obtain ⟨⟨g1, g2, g3, g4⟩, -, -⟩ := g8 ⟨g, h2⟩
  exact ⟨h5, g4, fun z => absurd z g1, fun _ => hM, fun z => (h6 (g2 ▸ z)).fr (a 8 (Or.inl rfl)) b (c 1111 (Or.inl rfl)), fun z => (h7 (g2 ▸ z)).fr (a 8 (Or.inl rfl)) (c 1111 (Or.inl rfl)), fun z => (h8 (g3 ▸ z)).fr (a 9 (Or.inr rfl)) (c 1112 (Or.inr rfl)), fun z => (h9 (g3 ▸ z)).fr (a 9 (Or.inr rfl)) (c 1112 (Or.inr rfl))⟩
theorem hwS.c {i n g : Nat} {s t s1 t1 : uS} (h : hwS i n g s t) (h5 : s1.I (16 + 3 * i) 5 = nI (g ||| 2)) (hC : hwC i n s1 t1) (a : ∀ f : Nat, f = 6 ∨ f = 7 ∨ f = 9 → s1.I (16 + 3 * i) f = s.I (16 + 3 * i) f) (b : s1.F (18 + 3 * i) 9 = s.F (18 + 3 * i) 9) (c : ∀ r : Nat, r = 1109 ∨ r = 1110 ∨ r = 1112 → t1.F r n = t.F r n) : hwS i n (g ||| 2) s1 t1 := by
  obtain ⟨h1, h2, h3, h4, h6, h7, h8, h9⟩ := h
  obtain ⟨-, ⟨g1, g2, g3, g4⟩, -⟩ := g8 ⟨g, h2⟩
  exact ⟨h5, g4, fun z => (h3 (g2 ▸ z)).fr (a 6 (by omega)) b (c 1109 (by omega)), fun z => (h4 (g2 ▸ z)).fr (a 6 (by omega)) (a 7 (by omega)) (c 1109 (by omega)) (c 1110 (by omega)), fun z => absurd z g1, fun _ => hC, fun z => (h8 (g3 ▸ z)).fr (a 9 (by omega)) (c 1112 (by omega)), fun z => (h9 (g3 ▸ z)).fr (a 9 (by omega)) (c 1112 (by omega))⟩
theorem hwS.p {i n g : Nat} {s t s1 t1 : uS} (h : hwS i n g s t) (h5 : s1.I (16 + 3 * i) 5 = nI (g ||| 4)) (hP : hwP i n s1 t1) (a : ∀ f : Nat, f = 6 ∨ f = 7 ∨ f = 8 → s1.I (16 + 3 * i) f = s.I (16 + 3 * i) f) (b : ∀ f : Nat, f = 9 ∨ f = 10 → s1.F (18 + 3 * i) f = s.F (18 + 3 * i) f) (c : ∀ r : Nat, r = 1109 ∨ r = 1110 ∨ r = 1111 → t1.F r n = t.F r n) : hwS i n (g ||| 4) s1 t1 := by
  obtain ⟨h1, h2, h3, h4, h6, h7, h8, h9⟩ := h
  obtain ⟨-, -, g1, g2, g3, g4⟩ := g8 ⟨g, h2⟩
  exact ⟨h5, g4, fun z => (h3 (g2 ▸ z)).fr (a 6 (by omega)) (b 9 (by omega)) (c 1109 (by omega)), fun z => (h4 (g2 ▸ z)).fr (a 6 (by omega)) (a 7 (by omega)) (c 1109 (by omega)) (c 1110 (by omega)), fun z => (h6 (g3 ▸ z)).fr (a 8 (by omega)) (b 10 (by omega)) (c 1111 (by omega)), fun z => (h7 (g3 ▸ z)).fr (a 8 (by omega)) (c 1111 (by omega)), fun z => absurd z g1, fun _ => hP⟩
theorem re_th {i q l : Nat} (hq : 5 ≤ q ∧ q ≠ 11) (hl : l = 9 ∨ l = 10) {s s1 : uS} (h : out (reI i q) (reF i l) s s1) : out (thI i) (tgF i) s s1 := out_w h (fun k f z => by unfold reI at z; unfold thI; omega) (fun k f z => by unfold reF at z; unfold tgF; omega)
theorem rr_rt {n r j bg j1 bg1 : Nat} (hr : 1104 ≤ r ∧ r ≤ 1115) {t t1 : uS} (h : ol rLI (rrF n r j1 bg1) rNo t t1) (a : j ≤ j1) (c : bg ≤ bg1) : ol rLI (rtF n j bg) rNo t t1 := ol_w h (fun _ _ z => z) (fun k f z => by unfold rrF rLF at z; unfold rtF rLF; omega) (fun _ _ z => z)
theorem b41 {g : Nat} (h : g < 8) : (g ||| 1) &&& 4 ≠ 0 → g &&& 4 ≠ 0 := by
  have : ∀ g : Fin 8, (g.val ||| 1) &&& 4 ≠ 0 → g.val &&& 4 ≠ 0 := by decide
  exact this ⟨g, h⟩
theorem b42 {g : Nat} (h : g < 8) : (g ||| 2) &&& 4 ≠ 0 → g &&& 4 ≠ 0 := by
  have : ∀ g : Fin 8, (g.val ||| 2) &&& 4 ≠ 0 → g.val &&& 4 ≠ 0 := by decide
  exact this ⟨g, h⟩
theorem p_how {k fr : Nat} {x : List Nat} {i n : Nat} (hi : i < 320) (hn : n < 520) {κ : Nat} (hκ : 11 ≤ κ ∧ κ ≤ 14) {σ : List (Nat × Nat)} (hσ : σ.length ≤ 70) {N M cn ob dp rq : Nat} : ∀ (m fu : Nat) (ts : List (List Nat)) (bg b e T g : Nat) (s t : uS), x.length + 1 ≤ m + b → m + 1 ≤ fu → pj k fr x ts bg b e ((8, i) :: σ) N M cn ob dp rq T s t → s.I (16 + 3 * i) 0 = nI κ → t.F 1098 n = nI (κ + 9) → hwS i n g s t → (g &&& 4 ≠ 0 → κ = 12 ∨ κ = 13) → RU x s t (pd T s) (fn_X12_how_0 fu (nI n) t) (hwG k fr x ts bg b σ N M cn ob dp rq i n κ s t) := by
  intro m
  induction m using Nat.strongRecOn with
  | _ m ih =>
  intro fu ts bg b e T g s t hm hfu h h0 hk' hS hg4
  have hb := h.bl
  obtain ⟨k1, k2, k3, k4, k5, k6, k7, k8, k9, k10, k11, k12, k13⟩ := h.2.2.2
  obtain ⟨r1, r2, r3, r4, r5, r6, r7, r8⟩ := h.2.2.1
  have hl := h.1.l
  obtain ⟨fu', rfl⟩ : ∃ fu', fu = fu' + 1 := ⟨fu - 1, by omega⟩
  rw [pd_8 h]
  show RU x s t _ (fb_X12_how_0 (fn_X12_how_0 fu') (nI n) t) _
  have h2 : fn_X12_is 2 t = some (decide (s.I 7 2 = nI 1)) := h.is (c := 1) (by decide)
  by_cases c1 : s.I 7 2 = 1
  · rw [if_pos c1]
    rw [decide_eq_true (show s.I 7 2 = nI 1 from c1)] at h2
    obtain ⟨hbe, v, v1, v2, v3⟩ := h.tag1 c1
    obtain ⟨fu2, rfl⟩ : ∃ fu2, fu' = fu2 + 1 := ⟨fu' - 1, by omega⟩
    have hg : g < 8 := hS.2.1
    have h5l : s.I 6 5 = nI (σ.length + 1) := h.2.1.1
    rw [List.length_cons] at k5
    have cont : ∀ (new0 : List (List Nat)) (bg' b' e' T' g' : Nat) (s' t' : uS), e ≤ b' → bg ≤ bg' → pj k fr x (ts ++ new0) bg' b' e' ((8, i) :: σ) N M cn ob dp rq T' s' t' → hwS i n g' s' t' → (g' &&& 4 ≠ 0 → κ = 12 ∨ κ = 13) → out (thI i) (tgF i) s s' → ol rLI (rtF n ts.length bg) rNo t t' → RU x s' t' (pd T' s') (fn_X12_how_0 (fu2 + 1) (nI n) t') (hwG k fr x ts bg b σ N M cn ob dp rq i n κ s t) := by
      intro new0 bg' b' e' T' g' s' t' w1 w2 w3 w4 w4' w5 w6
      refine (ih (m - 1) (by omega) (fu2 + 1) (ts ++ new0) bg' b' e' T' g' s' t' (by omega) (by omega) w3 (by rw [w5.2.1 _ _ (by unfold thI; omega)]; exact h0) (by rw [w6.2.2.1 _ _ (by unfold rtF rLF; omega)]; exact hk') w4 w4').w ?_
      rintro s4 T4 t4 ⟨news, bg1, b1, e1, d1, d2, d3, d4, d5, d6, d7, d8⟩
      rw [List.append_assoc] at d3
      exact ⟨new0 ++ news, bg1, b1, e1, by omega, by omega, d3, d4, d5, d6, out_t w5 d7, ol_t w6 (rt_rt d8 (by rw [List.length_append]; omega) w2)⟩
    have bad : ∀ A : Option uS, (v = 17 ∨ TKn.getD κ 0 &&& TGn.getD v 0 = 0 ∨ ¬ g &&& TGn.getD v 0 = 0 ∨ ¬ rq &&& NBn.getD v 0 = NBn.getD v 0) → FU b t A → RU x s t ((fn_X4_takeTag (nI i) s).bind fun r => fn_X4_parse_13 (999999 - T) r.2 (nI T + 1) r.1) A (hwG k fr x ts bg b σ N M cn ob dp rq i n κ s t) := by
      intro A z f
      have : fn_X4_takeTag (nI i) s = some (s, 0) := by
        by_cases q : v = 17
        · exact c_tagN hi (by rw [v2, if_pos q])
        · rw [c_tag hi (show v < 17 by omega) (by omega) (by omega) (by rw [v2, if_neg q]) h0 hS.1 h.2.1.2.2.2.2.2 k12, if_pos (z.resolve_left q)]
      rw [this, Option.bind_some]
      exact h.RU out_r f
    have acc : v < 17 → ¬ (TKn.getD κ 0 &&& TGn.getD v 0 = 0 ∨ ¬ g &&& TGn.getD v 0 = 0 ∨ ¬ rq &&& NBn.getD v 0 = NBn.getD v 0) → fn_X4_takeTag (nI i) s = fb_X4_takeTag_115 (nI i) (16 + 3 * i) (nI v) (tagW s i κ v g) := by
      intro q z
      rw [c_tag hi q (by omega) (by omega) (by rw [v2, if_neg (by omega)]) h0 hS.1 h.2.1.2.2.2.2.2 k12, if_neg z]
    have fl213 : ∀ (a c : Int32) (d : Bool), FU b t (fb_X12_how_213 (fn_X12_how_0 (fu2 + 1)) (nI n) a c d true t) := by
      intro a c d
      unfold fb_X12_how_213
      rw [if_pos rfl]
      exact h.fl.uu fun t1 h1 => h1.hw228 hn
    have KT : κ = 11 ∨ κ = 12 ∨ κ = 13 ∨ κ = 14 := by omega
    by_cases q0 : v = 0
    · rw [hw_0 hn q0 h2 v3]
      rw [q0] at bad acc
      by_cases cg : g &&& 1 = 0
      · have lo := hS.2.2.1 cg
        rw [lo.1, if_neg (show ¬ (0 : Int32) ≤ -1 by decide)]
        unfold fb_X12_how_213 fb_X12_how_228
        rw [if_neg (show ¬ false = true by decide)]
        rw [if_pos (show (nI 0 : Int32) ≤ 2 by decide)]
        have hW : tagW s i κ 0 g = wI (wI s (16 + 3 * i) 5 (nI (g ||| 1))) (16 + 3 * i) 6 (nI 0) := by
          unfold tagW
          rw [if_pos (by decide)]; rfl
        have h5W : (wI (wI s (16 + 3 * i) 5 (nI (g ||| 1))) (16 + 3 * i) 6 (nI 0)).I 6 5 = nI (σ.length + 1) := by rw [wI_o (by omega), wI_o (by omega)]; exact h5l
        have hA : fn_X4_takeTag (nI i) s = some (wI (wI s (16 + 3 * i) 5 (nI (g ||| 1))) (16 + 3 * i) 6 (nI 0), 1) := by
          rw [acc (by decide) (show ¬ (TKn.getD κ 0 &&& TGn.getD 0 0 = 0 ∨ ¬ g &&& TGn.getD 0 0 = 0 ∨ ¬ rq &&& NBn.getD 0 0 = NBn.getD 0 0) by
          rintro (z | z | z)
          · revert z; rcases KT with z | z | z | z <;> rw [z] <;> decide
          · exact z cg
          · exact z (Nat.and_zero rq)), hW]
          exact c115_0 h5W (by omega)
        rw [hA, Option.bind_some]
        have oC : out cnI cnF s (wI (wI s (16 + 3 * i) 5 (nI (g ||| 1))) (16 + 3 * i) 6 (nI 0)) := out_I (out_I out_r (Or.inr ⟨by omega, by omega⟩)) (Or.inr ⟨by omega, by omega⟩)
        have oT : out (thI i) (tgF i) s (wI (wI s (16 + 3 * i) 5 (nI (g ||| 1))) (16 + 3 * i) 6 (nI 0)) := out_I (out_I out_r (Or.inr (Or.inr (Or.inr ⟨rfl, by omega⟩)))) (Or.inr (Or.inr (Or.inr ⟨rfl, by omega⟩)))
        unfold fb_X12_how_239
        refine RU.uu (G := fun s2 T2 t2 => ∃ b2 e2 : Nat, e ≤ b2 ∧ out lnI' lqF (wI (wI s (16 + 3 * i) 5 (nI (g ||| 1))) (16 + 3 * i) 6 (nI 0)) s2 ∧ out rnI (rqP bg) t t2 ∧ pj k fr x ts bg b2 e2 ((8, i) :: σ) N M cn ob dp rq T2 s2 t2) (pj_go h (by rw [c1]; decide) hbe oC ol_r ((show pm ((8, i) :: σ) N cn ob rq (wI (wI s (16 + 3 * i) 5 (nI (g ||| 1))) (16 + 3 * i) 6 (nI 0)) from h.2.1.fr (fun f => (wI_o (by omega)).trans (wI_o (by omega))) (fun _ _ _ => rfl))) h.2.2.1 (by simp only [List.length_cons]; omega) (by simp only [List.length_cons]; omega) k6 k7 k8 k9 k10 k11 k12 (fun s2 t2 b2 e2 q1 q2 q3 q4 => ⟨b2, e2, q1, q2, q3, q4⟩)) (fun p t2 h2 => ?_) ?_
        · rw [if_neg (show ¬ (nI 0 : Int32) < 0 by decide)]; exact (h2.p1109 hn).uu fun t3 h3 => h3.hw254 hn
        rintro s2 T2 t2 - - ⟨b2, e2, w1, w2, w3, w4⟩
        have qT : ol rLI (rtF n ts.length bg) rNo t t2 := rL_rt (rq_rL (j := ts.length) w3) (Nat.le_refl _) (Nat.le_refl _)
        have oS : out (thI i) (tgF i) s s2 := out_t oT (ln_th w2)
        have tF : ∀ r f : Nat, 1098 ≤ r → t2.F r f = t.F r f := fun r f hr => w3.2.2 _ _ (by unfold rqP; omega)
        unfold fb_X12_how_254 fb_X12_how_265 fb_X12_how_275
        rw [if_neg (show ¬ (nI 0 : Int32) < 0 by decide), p_1109 hn, Option.bind_some, if_pos (show (-1 : Int32) < 0 by decide), if_pos (show (nI 0 : Int32) ≤ 2 by decide), if_neg (show ¬ false = true by decide)]
        have w5 := w4.wF (r := 1109) (n := n) (v := nI 0) (by omega)
        have nS : hwS i n (g ||| 1) s2 (wF t2 1109 n (nI 0)) := by
          refine hS.m ?_ ⟨0, by omega, ?_, wF_e _ _ _ _, fun z => by omega⟩ ?_ ?_ ?_
          · rw [w2.2.1 _ _ (by unfold lnI'; omega), wI_o (by omega), wI_e]
          · rw [w2.2.1 _ _ (by unfold lnI'; omega), wI_e]
          · intro f hf; rw [w2.2.1 _ _ (by unfold lnI'; omega), wI_o (by omega), wI_o (by omega)]
          · rw [w2.2.2 _ _ (by unfold lqF; omega)]; rfl
          · intro r hr; rw [wF_o (by omega)]; exact tF r n (by omega)
        rw [← List.append_nil ts] at w5
        exact (cont [] bg b2 e2 T2 (g ||| 1) s2 (wF t2 1109 n (nI 0)) w1 (Nat.le_refl _) w5 nS (fun z => hg4 (b41 hg z)) oS (ol_F qT (Or.inr ⟨by omega, rfl⟩))).pre out_r (ol_F ol_r (by unfold rdF; omega))
      · obtain ⟨mm, mm1, mm2, mm3, -⟩ := hS.2.2.2.1 cg
        rw [mm3, if_pos (show (0 : Int32) ≤ nI mm from nI_le (a := 0) (Nat.zero_le _) (by omega))]
        exact bad _ (Or.inr (Or.inr (Or.inl cg))) (fl213 _ _ _)
    by_cases q1 : v = 1
    · rw [hw_1 hn q1 h2 v3]
      rw [q1] at bad acc
      by_cases cg : g &&& 1 = 0
      · have lo := hS.2.2.1 cg
        rw [lo.1, if_neg (show ¬ (0 : Int32) ≤ -1 by decide)]
        unfold fb_X12_how_213 fb_X12_how_228
        rw [if_neg (show ¬ false = true by decide)]
        rw [if_pos (show (nI 1 : Int32) ≤ 2 by decide)]
        have hW : tagW s i κ 1 g = wI (wI s (16 + 3 * i) 5 (nI (g ||| 1))) (16 + 3 * i) 6 (nI 1) := by
          unfold tagW
          rw [if_pos (by decide)]; rfl
        have h5W : (wI (wI s (16 + 3 * i) 5 (nI (g ||| 1))) (16 + 3 * i) 6 (nI 1)).I 6 5 = nI (σ.length + 1) := by rw [wI_o (by omega), wI_o (by omega)]; exact h5l
        have hA : fn_X4_takeTag (nI i) s = some (wI (wI s (16 + 3 * i) 5 (nI (g ||| 1))) (16 + 3 * i) 6 (nI 1), 1) := by
          rw [acc (by decide) (show ¬ (TKn.getD κ 0 &&& TGn.getD 1 0 = 0 ∨ ¬ g &&& TGn.getD 1 0 = 0 ∨ ¬ rq &&& NBn.getD 1 0 = NBn.getD 1 0) by
          rintro (z | z | z)
          · revert z; rcases KT with z | z | z | z <;> rw [z] <;> decide
          · exact z cg
          · exact z (Nat.and_zero rq)), hW]
          exact c115_1 h5W (by omega)
        rw [hA, Option.bind_some]
        have oC : out cnI cnF s (wI (wI s (16 + 3 * i) 5 (nI (g ||| 1))) (16 + 3 * i) 6 (nI 1)) := out_I (out_I out_r (Or.inr ⟨by omega, by omega⟩)) (Or.inr ⟨by omega, by omega⟩)
        have oT : out (thI i) (tgF i) s (wI (wI s (16 + 3 * i) 5 (nI (g ||| 1))) (16 + 3 * i) 6 (nI 1)) := out_I (out_I out_r (Or.inr (Or.inr (Or.inr ⟨rfl, by omega⟩)))) (Or.inr (Or.inr (Or.inr ⟨rfl, by omega⟩)))
        unfold fb_X12_how_239
        refine RU.uu (G := fun s2 T2 t2 => ∃ b2 e2 : Nat, e ≤ b2 ∧ out lnI' lqF (wI (wI s (16 + 3 * i) 5 (nI (g ||| 1))) (16 + 3 * i) 6 (nI 1)) s2 ∧ out rnI (rqP bg) t t2 ∧ pj k fr x ts bg b2 e2 ((8, i) :: σ) N M cn ob dp rq T2 s2 t2) (pj_go h (by rw [c1]; decide) hbe oC ol_r ((show pm ((8, i) :: σ) N cn ob rq (wI (wI s (16 + 3 * i) 5 (nI (g ||| 1))) (16 + 3 * i) 6 (nI 1)) from h.2.1.fr (fun f => (wI_o (by omega)).trans (wI_o (by omega))) (fun _ _ _ => rfl))) h.2.2.1 (by simp only [List.length_cons]; omega) (by simp only [List.length_cons]; omega) k6 k7 k8 k9 k10 k11 k12 (fun s2 t2 b2 e2 q1 q2 q3 q4 => ⟨b2, e2, q1, q2, q3, q4⟩)) (fun p t2 h2 => ?_) ?_
        · rw [if_neg (show ¬ (nI 1 : Int32) < 0 by decide)]; exact (h2.p1109 hn).uu fun t3 h3 => h3.hw254 hn
        rintro s2 T2 t2 - - ⟨b2, e2, w1, w2, w3, w4⟩
        have qT : ol rLI (rtF n ts.length bg) rNo t t2 := rL_rt (rq_rL (j := ts.length) w3) (Nat.le_refl _) (Nat.le_refl _)
        have oS : out (thI i) (tgF i) s s2 := out_t oT (ln_th w2)
        have tF : ∀ r f : Nat, 1098 ≤ r → t2.F r f = t.F r f := fun r f hr => w3.2.2 _ _ (by unfold rqP; omega)
        unfold fb_X12_how_254 fb_X12_how_265 fb_X12_how_275
        rw [if_neg (show ¬ (nI 1 : Int32) < 0 by decide), p_1109 hn, Option.bind_some, if_pos (show (-1 : Int32) < 0 by decide), if_pos (show (nI 1 : Int32) ≤ 2 by decide), if_neg (show ¬ false = true by decide)]
        have w5 := w4.wF (r := 1109) (n := n) (v := nI 1) (by omega)
        have nS : hwS i n (g ||| 1) s2 (wF t2 1109 n (nI 1)) := by
          refine hS.m ?_ ⟨1, by omega, ?_, wF_e _ _ _ _, fun z => by omega⟩ ?_ ?_ ?_
          · rw [w2.2.1 _ _ (by unfold lnI'; omega), wI_o (by omega), wI_e]
          · rw [w2.2.1 _ _ (by unfold lnI'; omega), wI_e]
          · intro f hf; rw [w2.2.1 _ _ (by unfold lnI'; omega), wI_o (by omega), wI_o (by omega)]
          · rw [w2.2.2 _ _ (by unfold lqF; omega)]; rfl
          · intro r hr; rw [wF_o (by omega)]; exact tF r n (by omega)
        rw [← List.append_nil ts] at w5
        exact (cont [] bg b2 e2 T2 (g ||| 1) s2 (wF t2 1109 n (nI 1)) w1 (Nat.le_refl _) w5 nS (fun z => hg4 (b41 hg z)) oS (ol_F qT (Or.inr ⟨by omega, rfl⟩))).pre out_r (ol_F ol_r (by unfold rdF; omega))
      · obtain ⟨mm, mm1, mm2, mm3, -⟩ := hS.2.2.2.1 cg
        rw [mm3, if_pos (show (0 : Int32) ≤ nI mm from nI_le (a := 0) (Nat.zero_le _) (by omega))]
        exact bad _ (Or.inr (Or.inr (Or.inl cg))) (fl213 _ _ _)
    by_cases q2 : v = 2
    · rw [hw_2 hn q2 h2 v3]
      rw [q2] at bad acc
      by_cases cg : g &&& 1 = 0
      · have lo := hS.2.2.1 cg
        rw [lo.1, if_neg (show ¬ (0 : Int32) ≤ -1 by decide)]
        unfold fb_X12_how_213 fb_X12_how_228
        rw [if_neg (show ¬ false = true by decide)]
        rw [if_pos (show (nI 2 : Int32) ≤ 2 by decide)]
        have hW : tagW s i κ 2 g = wI (wI s (16 + 3 * i) 5 (nI (g ||| 1))) (16 + 3 * i) 6 (nI 2) := by
          unfold tagW
          rw [if_pos (by decide)]; rfl
        have h5W : (wI (wI s (16 + 3 * i) 5 (nI (g ||| 1))) (16 + 3 * i) 6 (nI 2)).I 6 5 = nI (σ.length + 1) := by rw [wI_o (by omega), wI_o (by omega)]; exact h5l
        have hA : fn_X4_takeTag (nI i) s = some (wI (wI s (16 + 3 * i) 5 (nI (g ||| 1))) (16 + 3 * i) 6 (nI 2), 1) := by
          rw [acc (by decide) (show ¬ (TKn.getD κ 0 &&& TGn.getD 2 0 = 0 ∨ ¬ g &&& TGn.getD 2 0 = 0 ∨ ¬ rq &&& NBn.getD 2 0 = NBn.getD 2 0) by
          rintro (z | z | z)
          · revert z; rcases KT with z | z | z | z <;> rw [z] <;> decide
          · exact z cg
          · exact z (Nat.and_zero rq)), hW]
          exact c115_2 h5W (by omega)
        rw [hA, Option.bind_some]
        have oC : out cnI cnF s (wI (wI s (16 + 3 * i) 5 (nI (g ||| 1))) (16 + 3 * i) 6 (nI 2)) := out_I (out_I out_r (Or.inr ⟨by omega, by omega⟩)) (Or.inr ⟨by omega, by omega⟩)
        have oT : out (thI i) (tgF i) s (wI (wI s (16 + 3 * i) 5 (nI (g ||| 1))) (16 + 3 * i) 6 (nI 2)) := out_I (out_I out_r (Or.inr (Or.inr (Or.inr ⟨rfl, by omega⟩)))) (Or.inr (Or.inr (Or.inr ⟨rfl, by omega⟩)))
        unfold fb_X12_how_239
        refine RU.uu (G := fun s2 T2 t2 => ∃ b2 e2 : Nat, e ≤ b2 ∧ out lnI' lqF (wI (wI s (16 + 3 * i) 5 (nI (g ||| 1))) (16 + 3 * i) 6 (nI 2)) s2 ∧ out rnI (rqP bg) t t2 ∧ pj k fr x ts bg b2 e2 ((8, i) :: σ) N M cn ob dp rq T2 s2 t2) (pj_go h (by rw [c1]; decide) hbe oC ol_r ((show pm ((8, i) :: σ) N cn ob rq (wI (wI s (16 + 3 * i) 5 (nI (g ||| 1))) (16 + 3 * i) 6 (nI 2)) from h.2.1.fr (fun f => (wI_o (by omega)).trans (wI_o (by omega))) (fun _ _ _ => rfl))) h.2.2.1 (by simp only [List.length_cons]; omega) (by simp only [List.length_cons]; omega) k6 k7 k8 k9 k10 k11 k12 (fun s2 t2 b2 e2 q1 q2 q3 q4 => ⟨b2, e2, q1, q2, q3, q4⟩)) (fun p t2 h2 => ?_) ?_
        · rw [if_neg (show ¬ (nI 2 : Int32) < 0 by decide)]; exact (h2.p1109 hn).uu fun t3 h3 => h3.hw254 hn
        rintro s2 T2 t2 - - ⟨b2, e2, w1, w2, w3, w4⟩
        have qT : ol rLI (rtF n ts.length bg) rNo t t2 := rL_rt (rq_rL (j := ts.length) w3) (Nat.le_refl _) (Nat.le_refl _)
        have oS : out (thI i) (tgF i) s s2 := out_t oT (ln_th w2)
        have tF : ∀ r f : Nat, 1098 ≤ r → t2.F r f = t.F r f := fun r f hr => w3.2.2 _ _ (by unfold rqP; omega)
        unfold fb_X12_how_254 fb_X12_how_265 fb_X12_how_275
        rw [if_neg (show ¬ (nI 2 : Int32) < 0 by decide), p_1109 hn, Option.bind_some, if_pos (show (-1 : Int32) < 0 by decide), if_pos (show (nI 2 : Int32) ≤ 2 by decide), if_neg (show ¬ false = true by decide)]
        have w5 := w4.wF (r := 1109) (n := n) (v := nI 2) (by omega)
        have nS : hwS i n (g ||| 1) s2 (wF t2 1109 n (nI 2)) := by
          refine hS.m ?_ ⟨2, by omega, ?_, wF_e _ _ _ _, fun z => by omega⟩ ?_ ?_ ?_
          · rw [w2.2.1 _ _ (by unfold lnI'; omega), wI_o (by omega), wI_e]
          · rw [w2.2.1 _ _ (by unfold lnI'; omega), wI_e]
          · intro f hf; rw [w2.2.1 _ _ (by unfold lnI'; omega), wI_o (by omega), wI_o (by omega)]
          · rw [w2.2.2 _ _ (by unfold lqF; omega)]; rfl
          · intro r hr; rw [wF_o (by omega)]; exact tF r n (by omega)
        rw [← List.append_nil ts] at w5
        exact (cont [] bg b2 e2 T2 (g ||| 1) s2 (wF t2 1109 n (nI 2)) w1 (Nat.le_refl _) w5 nS (fun z => hg4 (b41 hg z)) oS (ol_F qT (Or.inr ⟨by omega, rfl⟩))).pre out_r (ol_F ol_r (by unfold rdF; omega))
      · obtain ⟨mm, mm1, mm2, mm3, -⟩ := hS.2.2.2.1 cg
        rw [mm3, if_pos (show (0 : Int32) ≤ nI mm from nI_le (a := 0) (Nat.zero_le _) (by omega))]
        exact bad _ (Or.inr (Or.inr (Or.inl cg))) (fl213 _ _ _)
    by_cases q3 : v = 3
    · rw [hw_3 hn q3 h2 v3]
      rw [q3] at bad acc
      by_cases cg : g &&& 1 = 0
      · have lo := hS.2.2.1 cg
        rw [lo.1, if_neg (show ¬ (0 : Int32) ≤ -1 by decide)]
        unfold fb_X12_how_213 fb_X12_how_228
        rw [if_neg (show ¬ false = true by decide)]
        rw [if_neg (show ¬ (nI 3 : Int32) ≤ 2 by decide), show (32 : Int32) = nI (2 ^ 5) from rfl, r_needs (j := 5) r5 k12 (by decide)]
        by_cases cr : rq &&& 32 = 32
        · rw [if_pos (show rq &&& 2 ^ 5 = 2 ^ 5 from cr), Option.bind_some]
          have hW : tagW s i κ 3 g = wI (wI s (16 + 3 * i) 5 (nI (g ||| 1))) (16 + 3 * i) 6 (nI 3) := by
            unfold tagW
            rw [if_pos (by decide)]; rfl
          have h5W : (wI (wI s (16 + 3 * i) 5 (nI (g ||| 1))) (16 + 3 * i) 6 (nI 3)).I 6 5 = nI (σ.length + 1) := by rw [wI_o (by omega), wI_o (by omega)]; exact h5l
          have hA : fn_X4_takeTag (nI i) s = some (psh (wI (wI s (16 + 3 * i) 5 (nI (g ||| 1))) (16 + 3 * i) 6 (nI 3)) (σ.length + 1) 10 (nI (12 * i + 9)), 1) := by
            rw [acc (by decide) (show ¬ (TKn.getD κ 0 &&& TGn.getD 3 0 = 0 ∨ ¬ g &&& TGn.getD 3 0 = 0 ∨ ¬ rq &&& NBn.getD 3 0 = NBn.getD 3 0) by
          rintro (z | z | z)
          · revert z; rcases KT with z | z | z | z <;> rw [z] <;> decide
          · exact z cg
          · exact z cr), hW]
            exact c115_3 h5W (by omega)
          rw [hA, Option.bind_some]
          have oC : out cnI cnF s (psh (wI (wI s (16 + 3 * i) 5 (nI (g ||| 1))) (16 + 3 * i) 6 (nI 3)) (σ.length + 1) 10 (nI (12 * i + 9))) := psh_o (out_I (out_I out_r (Or.inr ⟨by omega, by omega⟩)) (Or.inr ⟨by omega, by omega⟩)) (Or.inl rfl) (Or.inl rfl) (Or.inr (Or.inl rfl))
          have oT : out (thI i) (tgF i) s (psh (wI (wI s (16 + 3 * i) 5 (nI (g ||| 1))) (16 + 3 * i) 6 (nI 3)) (σ.length + 1) 10 (nI (12 * i + 9))) := psh_o (out_I (out_I out_r (Or.inr (Or.inr (Or.inr ⟨rfl, by omega⟩)))) (Or.inr (Or.inr (Or.inr ⟨rfl, by omega⟩)))) (Or.inl ⟨rfl, rfl⟩) (Or.inr (Or.inr (Or.inr (Or.inl rfl)))) (Or.inr (Or.inr (Or.inr (Or.inr (Or.inl rfl)))))
          unfold fb_X12_how_239
          refine RU.uu (G := fun s2 T2 t2 => ∃ b2 e2 : Nat, e ≤ b2 ∧ out lnI' lqF (psh (wI (wI s (16 + 3 * i) 5 (nI (g ||| 1))) (16 + 3 * i) 6 (nI 3)) (σ.length + 1) 10 (nI (12 * i + 9))) s2 ∧ out rnI (rqP bg) t t2 ∧ pj k fr x ts bg b2 e2 ((10, 12 * i + 9) :: (8, i) :: σ) N M cn ob dp rq T2 s2 t2) (pj_go h (by rw [c1]; decide) hbe oC ol_r (pm.psh (a := 10) (c := 12 * i + 9) (show pm ((8, i) :: σ) N cn ob rq (wI (wI s (16 + 3 * i) 5 (nI (g ||| 1))) (16 + 3 * i) 6 (nI 3)) from h.2.1.fr (fun f => (wI_o (by omega)).trans (wI_o (by omega))) (fun _ _ _ => rfl))) h.2.2.1 (by simp only [List.length_cons]; omega) (by simp only [List.length_cons]; omega) (k6.ps (by omega) (by omega) (fun z => by omega)) k7 k8 k9 k10 k11 k12 (fun s2 t2 b2 e2 q1 q2 q3 q4 => ⟨b2, e2, q1, q2, q3, q4⟩)) (fun p t2 h2 => ?_) ?_
          · rw [if_neg (show ¬ (nI 3 : Int32) < 0 by decide)]; exact (h2.p1109 hn).uu fun t3 h3 => h3.hw254 hn
          rintro s2 T2 t2 - - ⟨b2, e2, w1, w2, w3, w4⟩
          have qT : ol rLI (rtF n ts.length bg) rNo t t2 := rL_rt (rq_rL (j := ts.length) w3) (Nat.le_refl _) (Nat.le_refl _)
          have oS : out (thI i) (tgF i) s s2 := out_t oT (ln_th w2)
          have tF : ∀ r f : Nat, 1098 ≤ r → t2.F r f = t.F r f := fun r f hr => w3.2.2 _ _ (by unfold rqP; omega)
          unfold fb_X12_how_254 fb_X12_how_265 fb_X12_how_275
          rw [if_neg (show ¬ (nI 3 : Int32) < 0 by decide), p_1109 hn, Option.bind_some, if_pos (show (-1 : Int32) < 0 by decide), if_neg (show ¬ (nI 3 : Int32) ≤ 2 by decide)]
          have w5 := w4.wF (r := 1109) (n := n) (v := nI 3) (by omega)
          have a9 : s2.F (18 + 3 * i) 9 = nI 0 := by rw [w2.2.2 _ _ (by unfold lqF; omega), psh_F (by omega) (by omega)]; exact lo.2.2
          refine RU.pre (t := wF t2 1109 n (nI 3)) (RU.uu (p_rel w5 hi hn a9) (fun p t3 h3 => by rw [if_neg (show ¬ false = true by decide)]; exact h3.hw hn) ?_) out_r (ol_F ol_r (by unfold rdF; omega))
          rintro s3 T3 t3 - - ⟨str, rr, b3, e3, d1, d2, d3, d4, d5, d6, d7⟩
          rw [if_neg (show ¬ false = true by decide)]
          have hl2 := w4.1.l
          have nS : hwS i n (g ||| 1) s3 t3 := by
            refine hS.m ?_ ⟨3, by omega, ?_, ?_, fun z => ⟨rr, d1, d4, d5⟩⟩ ?_ ?_ ?_
            · rw [d6.2.1 _ _ (by unfold reI; omega), w2.2.1 _ _ (by unfold lnI'; omega), psh_I (by omega), wI_o (by omega), wI_e]
            · rw [d6.2.1 _ _ (by unfold reI; omega), w2.2.1 _ _ (by unfold lnI'; omega), psh_I (by omega), wI_e]
            · rw [d7.2.2.1 _ _ (by unfold rrF rLF; omega), wF_e]
            · intro f hf; rw [d6.2.1 _ _ (by unfold reI; omega), w2.2.1 _ _ (by unfold lnI'; omega), psh_I (by omega), wI_o (by omega), wI_o (by omega)]
            · rw [d6.2.2 _ _ (by unfold reF; omega), w2.2.2 _ _ (by unfold lqF; omega), psh_F (by omega) (by omega)]; rfl
            · intro r hr; rw [d7.2.2.1 _ _ (by unfold rrF rLF; omega), wF_o (by omega)]; exact tF r n (by omega)
          exact cont [str] (bg + str.length) b3 e3 T3 (g ||| 1) s3 t3 (by omega) (by omega) d3 nS (fun z => hg4 (b41 hg z)) (out_t oS (re_th (by omega) (Or.inl rfl) d6)) (ol_t (ol_F qT (Or.inr ⟨by omega, rfl⟩)) (rr_rt (by omega) d7 (Nat.le_refl _) (Nat.le_refl _)))
        · rw [if_neg (show ¬ rq &&& 2 ^ 5 = 2 ^ 5 from cr)]
          exact bad _ (Or.inr (Or.inr (Or.inr cr))) ((h.fl.uu fun t1 h1 => h1.U).uu fun t1 h1 => h1.hw239 hn)
      · obtain ⟨mm, mm1, mm2, mm3, -⟩ := hS.2.2.2.1 cg
        rw [mm3, if_pos (show (0 : Int32) ≤ nI mm from nI_le (a := 0) (Nat.zero_le _) (by omega))]
        exact bad _ (Or.inr (Or.inr (Or.inl cg))) (fl213 _ _ _)
    by_cases q4 : v = 4
    · rw [hw_4 hn q4 h2 v3]
      rw [q4] at bad acc
      by_cases cg : g &&& 1 = 0
      · have lo := hS.2.2.1 cg
        rw [lo.1, if_neg (show ¬ (0 : Int32) ≤ -1 by decide)]
        unfold fb_X12_how_213 fb_X12_how_228
        rw [if_neg (show ¬ false = true by decide)]
        rw [if_neg (show ¬ (nI 4 : Int32) ≤ 2 by decide), show (32 : Int32) = nI (2 ^ 5) from rfl, r_needs (j := 5) r5 k12 (by decide)]
        by_cases cr : rq &&& 32 = 32
        · rw [if_pos (show rq &&& 2 ^ 5 = 2 ^ 5 from cr), Option.bind_some]
          have hW : tagW s i κ 4 g = wI (wI s (16 + 3 * i) 5 (nI (g ||| 1))) (16 + 3 * i) 6 (nI 4) := by
            unfold tagW
            rw [if_pos (by decide)]; rfl
          have h5W : (wI (wI s (16 + 3 * i) 5 (nI (g ||| 1))) (16 + 3 * i) 6 (nI 4)).I 6 5 = nI (σ.length + 1) := by rw [wI_o (by omega), wI_o (by omega)]; exact h5l
          have hA : fn_X4_takeTag (nI i) s = some (psh (wI (wI s (16 + 3 * i) 5 (nI (g ||| 1))) (16 + 3 * i) 6 (nI 4)) (σ.length + 1) 10 (nI (12 * i + 9)), 1) := by
            rw [acc (by decide) (show ¬ (TKn.getD κ 0 &&& TGn.getD 4 0 = 0 ∨ ¬ g &&& TGn.getD 4 0 = 0 ∨ ¬ rq &&& NBn.getD 4 0 = NBn.getD 4 0) by
          rintro (z | z | z)
          · revert z; rcases KT with z | z | z | z <;> rw [z] <;> decide
          · exact z cg
          · exact z cr), hW]
            exact c115_4 h5W (by omega)
          rw [hA, Option.bind_some]
          have oC : out cnI cnF s (psh (wI (wI s (16 + 3 * i) 5 (nI (g ||| 1))) (16 + 3 * i) 6 (nI 4)) (σ.length + 1) 10 (nI (12 * i + 9))) := psh_o (out_I (out_I out_r (Or.inr ⟨by omega, by omega⟩)) (Or.inr ⟨by omega, by omega⟩)) (Or.inl rfl) (Or.inl rfl) (Or.inr (Or.inl rfl))
          have oT : out (thI i) (tgF i) s (psh (wI (wI s (16 + 3 * i) 5 (nI (g ||| 1))) (16 + 3 * i) 6 (nI 4)) (σ.length + 1) 10 (nI (12 * i + 9))) := psh_o (out_I (out_I out_r (Or.inr (Or.inr (Or.inr ⟨rfl, by omega⟩)))) (Or.inr (Or.inr (Or.inr ⟨rfl, by omega⟩)))) (Or.inl ⟨rfl, rfl⟩) (Or.inr (Or.inr (Or.inr (Or.inl rfl)))) (Or.inr (Or.inr (Or.inr (Or.inr (Or.inl rfl)))))
          unfold fb_X12_how_239
          refine RU.uu (G := fun s2 T2 t2 => ∃ b2 e2 : Nat, e ≤ b2 ∧ out lnI' lqF (psh (wI (wI s (16 + 3 * i) 5 (nI (g ||| 1))) (16 + 3 * i) 6 (nI 4)) (σ.length + 1) 10 (nI (12 * i + 9))) s2 ∧ out rnI (rqP bg) t t2 ∧ pj k fr x ts bg b2 e2 ((10, 12 * i + 9) :: (8, i) :: σ) N M cn ob dp rq T2 s2 t2) (pj_go h (by rw [c1]; decide) hbe oC ol_r (pm.psh (a := 10) (c := 12 * i + 9) (show pm ((8, i) :: σ) N cn ob rq (wI (wI s (16 + 3 * i) 5 (nI (g ||| 1))) (16 + 3 * i) 6 (nI 4)) from h.2.1.fr (fun f => (wI_o (by omega)).trans (wI_o (by omega))) (fun _ _ _ => rfl))) h.2.2.1 (by simp only [List.length_cons]; omega) (by simp only [List.length_cons]; omega) (k6.ps (by omega) (by omega) (fun z => by omega)) k7 k8 k9 k10 k11 k12 (fun s2 t2 b2 e2 q1 q2 q3 q4 => ⟨b2, e2, q1, q2, q3, q4⟩)) (fun p t2 h2 => ?_) ?_
          · rw [if_neg (show ¬ (nI 4 : Int32) < 0 by decide)]; exact (h2.p1109 hn).uu fun t3 h3 => h3.hw254 hn
          rintro s2 T2 t2 - - ⟨b2, e2, w1, w2, w3, w4⟩
          have qT : ol rLI (rtF n ts.length bg) rNo t t2 := rL_rt (rq_rL (j := ts.length) w3) (Nat.le_refl _) (Nat.le_refl _)
          have oS : out (thI i) (tgF i) s s2 := out_t oT (ln_th w2)
          have tF : ∀ r f : Nat, 1098 ≤ r → t2.F r f = t.F r f := fun r f hr => w3.2.2 _ _ (by unfold rqP; omega)
          unfold fb_X12_how_254 fb_X12_how_265 fb_X12_how_275
          rw [if_neg (show ¬ (nI 4 : Int32) < 0 by decide), p_1109 hn, Option.bind_some, if_pos (show (-1 : Int32) < 0 by decide), if_neg (show ¬ (nI 4 : Int32) ≤ 2 by decide)]
          have w5 := w4.wF (r := 1109) (n := n) (v := nI 4) (by omega)
          have a9 : s2.F (18 + 3 * i) 9 = nI 0 := by rw [w2.2.2 _ _ (by unfold lqF; omega), psh_F (by omega) (by omega)]; exact lo.2.2
          refine RU.pre (t := wF t2 1109 n (nI 4)) (RU.uu (p_rel w5 hi hn a9) (fun p t3 h3 => by rw [if_neg (show ¬ false = true by decide)]; exact h3.hw hn) ?_) out_r (ol_F ol_r (by unfold rdF; omega))
          rintro s3 T3 t3 - - ⟨str, rr, b3, e3, d1, d2, d3, d4, d5, d6, d7⟩
          rw [if_neg (show ¬ false = true by decide)]
          have hl2 := w4.1.l
          have nS : hwS i n (g ||| 1) s3 t3 := by
            refine hS.m ?_ ⟨4, by omega, ?_, ?_, fun z => ⟨rr, d1, d4, d5⟩⟩ ?_ ?_ ?_
            · rw [d6.2.1 _ _ (by unfold reI; omega), w2.2.1 _ _ (by unfold lnI'; omega), psh_I (by omega), wI_o (by omega), wI_e]
            · rw [d6.2.1 _ _ (by unfold reI; omega), w2.2.1 _ _ (by unfold lnI'; omega), psh_I (by omega), wI_e]
            · rw [d7.2.2.1 _ _ (by unfold rrF rLF; omega), wF_e]
            · intro f hf; rw [d6.2.1 _ _ (by unfold reI; omega), w2.2.1 _ _ (by unfold lnI'; omega), psh_I (by omega), wI_o (by omega), wI_o (by omega)]
            · rw [d6.2.2 _ _ (by unfold reF; omega), w2.2.2 _ _ (by unfold lqF; omega), psh_F (by omega) (by omega)]; rfl
            · intro r hr; rw [d7.2.2.1 _ _ (by unfold rrF rLF; omega), wF_o (by omega)]; exact tF r n (by omega)
          exact cont [str] (bg + str.length) b3 e3 T3 (g ||| 1) s3 t3 (by omega) (by omega) d3 nS (fun z => hg4 (b41 hg z)) (out_t oS (re_th (by omega) (Or.inl rfl) d6)) (ol_t (ol_F qT (Or.inr ⟨by omega, rfl⟩)) (rr_rt (by omega) d7 (Nat.le_refl _) (Nat.le_refl _)))
        · rw [if_neg (show ¬ rq &&& 2 ^ 5 = 2 ^ 5 from cr)]
          exact bad _ (Or.inr (Or.inr (Or.inr cr))) ((h.fl.uu fun t1 h1 => h1.U).uu fun t1 h1 => h1.hw239 hn)
      · obtain ⟨mm, mm1, mm2, mm3, -⟩ := hS.2.2.2.1 cg
        rw [mm3, if_pos (show (0 : Int32) ≤ nI mm from nI_le (a := 0) (Nat.zero_le _) (by omega))]
        exact bad _ (Or.inr (Or.inr (Or.inl cg))) (fl213 _ _ _)
    by_cases q5 : v = 5
    · rw [hw_5 hn q5 h2 v3]
      rw [q5] at bad acc
      by_cases cg : g &&& 2 = 0
      · have lo := hS.2.2.2.2.1 cg
        rw [lo.1, if_neg (show ¬ (0 : Int32) ≤ -1 by decide)]
        unfold fb_X12_how_213 fb_X12_how_228
        rw [if_neg (show ¬ false = true by decide)]
        rw [if_pos (show (-1 : Int32) ≤ 2 by decide)]
        have hW : tagW s i κ 5 g = wI s (16 + 3 * i) 5 (nI (g ||| 2)) := by
          unfold tagW
          rw [if_neg (by decide), if_neg (by omega)]; rfl
        have h5W : (wI s (16 + 3 * i) 5 (nI (g ||| 2))).I 6 5 = nI (σ.length + 1) := by rw [wI_o (by omega)]; exact h5l
        have hA : fn_X4_takeTag (nI i) s = some (psh (wI s (16 + 3 * i) 5 (nI (g ||| 2))) (σ.length + 1) 10 (nI (12 * i + 10)), 1) := by
          rw [acc (by decide) (show ¬ (TKn.getD κ 0 &&& TGn.getD 5 0 = 0 ∨ ¬ g &&& TGn.getD 5 0 = 0 ∨ ¬ rq &&& NBn.getD 5 0 = NBn.getD 5 0) by
          rintro (z | z | z)
          · revert z; rcases KT with z | z | z | z <;> rw [z] <;> decide
          · exact z cg
          · exact z (Nat.and_zero rq)), hW]
          exact c115_5 h5W (by omega)
        rw [hA, Option.bind_some]
        have oC : out cnI cnF s (psh (wI s (16 + 3 * i) 5 (nI (g ||| 2))) (σ.length + 1) 10 (nI (12 * i + 10))) := psh_o (out_I out_r (Or.inr ⟨by omega, by omega⟩)) (Or.inl rfl) (Or.inl rfl) (Or.inr (Or.inl rfl))
        have oT : out (thI i) (tgF i) s (psh (wI s (16 + 3 * i) 5 (nI (g ||| 2))) (σ.length + 1) 10 (nI (12 * i + 10))) := psh_o (out_I out_r (Or.inr (Or.inr (Or.inr ⟨rfl, by omega⟩)))) (Or.inl ⟨rfl, rfl⟩) (Or.inr (Or.inr (Or.inr (Or.inl rfl)))) (Or.inr (Or.inr (Or.inr (Or.inr (Or.inl rfl)))))
        unfold fb_X12_how_239
        refine RU.uu (G := fun s2 T2 t2 => ∃ b2 e2 : Nat, e ≤ b2 ∧ out lnI' lqF (psh (wI s (16 + 3 * i) 5 (nI (g ||| 2))) (σ.length + 1) 10 (nI (12 * i + 10))) s2 ∧ out rnI (rqP bg) t t2 ∧ pj k fr x ts bg b2 e2 ((10, 12 * i + 10) :: (8, i) :: σ) N M cn ob dp rq T2 s2 t2) (pj_go h (by rw [c1]; decide) hbe oC ol_r (pm.psh (a := 10) (c := 12 * i + 10) (show pm ((8, i) :: σ) N cn ob rq (wI s (16 + 3 * i) 5 (nI (g ||| 2))) from h.2.1.fr (fun f => wI_o (by omega)) (fun _ _ _ => rfl))) h.2.2.1 (by simp only [List.length_cons]; omega) (by simp only [List.length_cons]; omega) (k6.ps (by omega) (by omega) (fun z => by omega)) k7 k8 k9 k10 k11 k12 (fun s2 t2 b2 e2 q1 q2 q3 q4 => ⟨b2, e2, q1, q2, q3, q4⟩)) (fun p t2 h2 => ?_) ?_
        · rw [if_pos (show (-1 : Int32) < 0 by decide)]; exact h2.hw254 hn
        rintro s2 T2 t2 - - ⟨b2, e2, w1, w2, w3, w4⟩
        have qT : ol rLI (rtF n ts.length bg) rNo t t2 := rL_rt (rq_rL (j := ts.length) w3) (Nat.le_refl _) (Nat.le_refl _)
        have oS : out (thI i) (tgF i) s s2 := out_t oT (ln_th w2)
        have tF : ∀ r f : Nat, 1098 ≤ r → t2.F r f = t.F r f := fun r f hr => w3.2.2 _ _ (by unfold rqP; omega)
        unfold fb_X12_how_254 fb_X12_how_265 fb_X12_how_275
        rw [if_pos (show (-1 : Int32) < 0 by decide), if_pos (show (-1 : Int32) < 0 by decide), if_pos (show (-1 : Int32) ≤ 2 by decide), if_pos rfl]
        have a9 : s2.F (18 + 3 * i) 10 = nI 0 := by rw [w2.2.2 _ _ (by unfold lqF; omega), psh_F (by omega) (by omega)]; exact lo.2.2
        refine RU.uu (p_cmp w4 hi hn a9) (fun p t3 h3 => h3.hw hn) ?_
        rintro s3 T3 t3 - - ⟨str, rr, b3, e3, d1, d2, d3, d4, d5, d6, d7⟩
        have hl2 := w4.1.l
        have nS : hwS i n (g ||| 2) s3 t3 := by
          refine hS.c ?_ ⟨rr, d1, d4, d5⟩ ?_ ?_ ?_
          · rw [d6.2.1 _ _ (by unfold reI; omega), w2.2.1 _ _ (by unfold lnI'; omega), psh_I (by omega), wI_e]
          · intro f hf; rw [d6.2.1 _ _ (by unfold reI; omega), w2.2.1 _ _ (by unfold lnI'; omega), psh_I (by omega), wI_o (by omega)]
          · rw [d6.2.2 _ _ (by unfold reF; omega), w2.2.2 _ _ (by unfold lqF; omega), psh_F (by omega) (by omega)]; rfl
          · intro r hr; rw [d7.2.2.1 _ _ (by unfold rrF rLF; omega)]; exact tF r n (by omega)
        exact cont [str] (bg + str.length) b3 e3 T3 (g ||| 2) s3 t3 (by omega) (by omega) d3 nS (fun z => hg4 (b42 hg z)) (out_t oS (re_th (by omega) (Or.inr rfl) d6)) (ol_t qT (rr_rt (by omega) d7 (Nat.le_refl _) (Nat.le_refl _)))
      · obtain ⟨mm, mm1, mm2, mm3⟩ := hS.2.2.2.2.2.1 cg
        rw [mm3, if_pos (show (0 : Int32) ≤ nI (cmpM mm) from nI_le (a := 0) (Nat.zero_le _) (by have := cmpM_lt mm1; omega))]
        exact bad _ (Or.inr (Or.inr (Or.inl cg))) (fl213 _ _ _)
    by_cases q6 : v = 6
    · rw [hw_6 hn q6 h2 v3]
      rw [q6] at bad acc
      by_cases cg : g &&& 4 = 0
      · have lo := hS.2.2.2.2.2.2.1 cg
        rw [lo.1, if_neg (show ¬ (0 : Int32) ≤ -1 by decide), hk']
        by_cases ck : κ = 12 ∨ κ = 13
        · rw [if_neg (show ¬ nI (κ + 9) = 20 by show ¬ nI (κ + 9) = nI 20; rw [nI_eq (by omega) (by omega)]; omega), if_neg (show ¬ nI (κ + 9) = 23 by show ¬ nI (κ + 9) = nI 23; rw [nI_eq (by omega) (by omega)]; omega)]
          unfold fb_X12_how_213 fb_X12_how_228
          rw [if_neg (show ¬ false = true by decide)]
          rw [if_pos (show (-1 : Int32) ≤ 2 by decide)]
          have hW : tagW s i κ 6 g = wI s (16 + 3 * i) 5 (nI (g ||| 4)) := by
            unfold tagW
            rw [if_neg (by decide), if_neg (by omega)]; rfl
          have h5W : (wI s (16 + 3 * i) 5 (nI (g ||| 4))).I 6 5 = nI (σ.length + 1) := by rw [wI_o (by omega)]; exact h5l
          have hA : fn_X4_takeTag (nI i) s = some (wI (wI s (16 + 3 * i) 5 (nI (g ||| 4))) (16 + 3 * i) 9 (nI 0), 1) := by
            rw [acc (by decide) (show ¬ (TKn.getD κ 0 &&& TGn.getD 6 0 = 0 ∨ ¬ g &&& TGn.getD 6 0 = 0 ∨ ¬ rq &&& NBn.getD 6 0 = NBn.getD 6 0) by
            rintro (z | z | z)
            · revert z; rcases ck with z | z <;> rw [z] <;> decide
            · exact z cg
            · exact z (Nat.and_zero rq)), hW]
            exact c115_6 h5W (by omega)
          rw [hA, Option.bind_some]
          have oC : out cnI cnF s (wI (wI s (16 + 3 * i) 5 (nI (g ||| 4))) (16 + 3 * i) 9 (nI 0)) := out_I (out_I out_r (Or.inr ⟨by omega, by omega⟩)) (Or.inr ⟨by omega, by omega⟩)
          have oT : out (thI i) (tgF i) s (wI (wI s (16 + 3 * i) 5 (nI (g ||| 4))) (16 + 3 * i) 9 (nI 0)) := out_I (out_I out_r (Or.inr (Or.inr (Or.inr ⟨rfl, by omega⟩)))) (Or.inr (Or.inr (Or.inr ⟨rfl, by omega⟩)))
          unfold fb_X12_how_239
          refine RU.uu (G := fun s2 T2 t2 => ∃ b2 e2 : Nat, e ≤ b2 ∧ out lnI' lqF (wI (wI s (16 + 3 * i) 5 (nI (g ||| 4))) (16 + 3 * i) 9 (nI 0)) s2 ∧ out rnI (rqP bg) t t2 ∧ pj k fr x ts bg b2 e2 ((8, i) :: σ) N M cn ob dp rq T2 s2 t2) (pj_go h (by rw [c1]; decide) hbe oC ol_r ((show pm ((8, i) :: σ) N cn ob rq (wI (wI s (16 + 3 * i) 5 (nI (g ||| 4))) (16 + 3 * i) 9 (nI 0)) from h.2.1.fr (fun f => (wI_o (by omega)).trans (wI_o (by omega))) (fun _ _ _ => rfl))) h.2.2.1 (by simp only [List.length_cons]; omega) (by simp only [List.length_cons]; omega) k6 k7 k8 k9 k10 k11 k12 (fun s2 t2 b2 e2 q1 q2 q3 q4 => ⟨b2, e2, q1, q2, q3, q4⟩)) (fun p t2 h2 => ?_) ?_
          · rw [if_pos (show (-1 : Int32) < 0 by decide)]; exact h2.hw254 hn
          rintro s2 T2 t2 - - ⟨b2, e2, w1, w2, w3, w4⟩
          have qT : ol rLI (rtF n ts.length bg) rNo t t2 := rL_rt (rq_rL (j := ts.length) w3) (Nat.le_refl _) (Nat.le_refl _)
          have oS : out (thI i) (tgF i) s s2 := out_t oT (ln_th w2)
          have tF : ∀ r f : Nat, 1098 ≤ r → t2.F r f = t.F r f := fun r f hr => w3.2.2 _ _ (by unfold rqP; omega)
          unfold fb_X12_how_254 fb_X12_how_265 fb_X12_how_275
          rw [if_pos (show (-1 : Int32) < 0 by decide), if_neg (show ¬ (nI 0 : Int32) < 0 by decide), p_1112 hn, Option.bind_some, if_pos (show (-1 : Int32) ≤ 2 by decide), if_neg (show ¬ false = true by decide)]
          have w5 := w4.wF (r := 1112) (n := n) (v := nI 0) (by omega)
          have nS : hwS i n (g ||| 4) s2 (wF t2 1112 n (nI 0)) := by
            refine hS.p ?_ ⟨0, by omega, ?_, wF_e _ _ _ _⟩ ?_ ?_ ?_
            · rw [w2.2.1 _ _ (by unfold lnI'; omega), wI_o (by omega), wI_e]
            · rw [w2.2.1 _ _ (by unfold lnI'; omega), wI_e]
            · intro f hf; rw [w2.2.1 _ _ (by unfold lnI'; omega), wI_o (by omega), wI_o (by omega)]
            · intro f hf; rw [w2.2.2 _ _ (by unfold lqF; omega)]; rfl
            · intro r hr; rw [wF_o (by omega)]; exact tF r n (by omega)
          rw [← List.append_nil ts] at w5
          exact (cont [] bg b2 e2 T2 (g ||| 4) s2 (wF t2 1112 n (nI 0)) w1 (Nat.le_refl _) w5 nS (fun _ => ck) oS (ol_F qT (Or.inr ⟨by omega, rfl⟩))).pre out_r (ol_F ol_r (by unfold rdF; omega))
        · have fin : FU b t (if nI (κ + 9) = 20 then fb_X12_how_213 (fn_X12_how_0 (fu2 + 1)) (nI n) (-1) (nI 0) false true t else if nI (κ + 9) = 23 then fb_X12_how_213 (fn_X12_how_0 (fu2 + 1)) (nI n) (-1) (nI 0) false true t else fb_X12_how_213 (fn_X12_how_0 (fu2 + 1)) (nI n) (-1) (nI 0) false false t) := by
            have : κ = 11 ∨ κ = 14 := by omega
            rcases this with z | z <;> rw [z]
            · rw [if_pos (show nI (11 + 9) = 20 from rfl)]; exact fl213 _ _ _
            · rw [if_neg (show ¬ nI (14 + 9) = 20 by decide), if_pos (show nI (14 + 9) = 23 from rfl)]; exact fl213 _ _ _
          refine bad _ (Or.inr (Or.inl ?_)) fin
          have : κ = 11 ∨ κ = 14 := by omega
          rcases this with z | z <;> rw [z] <;> rfl
      · obtain ⟨mm, mm1, mm2, mm3⟩ := hS.2.2.2.2.2.2.2 cg
        rw [mm3, if_pos (show (0 : Int32) ≤ nI mm from nI_le (a := 0) (Nat.zero_le _) (by omega))]
        exact bad _ (Or.inr (Or.inr (Or.inl cg))) (fl213 _ _ _)
    by_cases q7 : v = 7
    · rw [hw_7 hn q7 h2 v3]
      rw [q7] at bad acc
      by_cases cg : g &&& 4 = 0
      · have lo := hS.2.2.2.2.2.2.1 cg
        rw [lo.1, if_neg (show ¬ (0 : Int32) ≤ -1 by decide), hk']
        by_cases ck : κ = 12 ∨ κ = 13
        · rw [if_neg (show ¬ nI (κ + 9) = 20 by show ¬ nI (κ + 9) = nI 20; rw [nI_eq (by omega) (by omega)]; omega), if_neg (show ¬ nI (κ + 9) = 23 by show ¬ nI (κ + 9) = nI 23; rw [nI_eq (by omega) (by omega)]; omega)]
          unfold fb_X12_how_213 fb_X12_how_228
          rw [if_neg (show ¬ false = true by decide)]
          rw [if_pos (show (-1 : Int32) ≤ 2 by decide)]
          have hW : tagW s i κ 7 g = wI s (16 + 3 * i) 5 (nI (g ||| 4)) := by
            unfold tagW
            rw [if_neg (by decide), if_neg (by omega)]; rfl
          have h5W : (wI s (16 + 3 * i) 5 (nI (g ||| 4))).I 6 5 = nI (σ.length + 1) := by rw [wI_o (by omega)]; exact h5l
          have hA : fn_X4_takeTag (nI i) s = some (wI (wI s (16 + 3 * i) 5 (nI (g ||| 4))) (16 + 3 * i) 9 (nI 1), 1) := by
            rw [acc (by decide) (show ¬ (TKn.getD κ 0 &&& TGn.getD 7 0 = 0 ∨ ¬ g &&& TGn.getD 7 0 = 0 ∨ ¬ rq &&& NBn.getD 7 0 = NBn.getD 7 0) by
            rintro (z | z | z)
            · revert z; rcases ck with z | z <;> rw [z] <;> decide
            · exact z cg
            · exact z (Nat.and_zero rq)), hW]
            exact c115_7 h5W (by omega)
          rw [hA, Option.bind_some]
          have oC : out cnI cnF s (wI (wI s (16 + 3 * i) 5 (nI (g ||| 4))) (16 + 3 * i) 9 (nI 1)) := out_I (out_I out_r (Or.inr ⟨by omega, by omega⟩)) (Or.inr ⟨by omega, by omega⟩)
          have oT : out (thI i) (tgF i) s (wI (wI s (16 + 3 * i) 5 (nI (g ||| 4))) (16 + 3 * i) 9 (nI 1)) := out_I (out_I out_r (Or.inr (Or.inr (Or.inr ⟨rfl, by omega⟩)))) (Or.inr (Or.inr (Or.inr ⟨rfl, by omega⟩)))
          unfold fb_X12_how_239
          refine RU.uu (G := fun s2 T2 t2 => ∃ b2 e2 : Nat, e ≤ b2 ∧ out lnI' lqF (wI (wI s (16 + 3 * i) 5 (nI (g ||| 4))) (16 + 3 * i) 9 (nI 1)) s2 ∧ out rnI (rqP bg) t t2 ∧ pj k fr x ts bg b2 e2 ((8, i) :: σ) N M cn ob dp rq T2 s2 t2) (pj_go h (by rw [c1]; decide) hbe oC ol_r ((show pm ((8, i) :: σ) N cn ob rq (wI (wI s (16 + 3 * i) 5 (nI (g ||| 4))) (16 + 3 * i) 9 (nI 1)) from h.2.1.fr (fun f => (wI_o (by omega)).trans (wI_o (by omega))) (fun _ _ _ => rfl))) h.2.2.1 (by simp only [List.length_cons]; omega) (by simp only [List.length_cons]; omega) k6 k7 k8 k9 k10 k11 k12 (fun s2 t2 b2 e2 q1 q2 q3 q4 => ⟨b2, e2, q1, q2, q3, q4⟩)) (fun p t2 h2 => ?_) ?_
          · rw [if_pos (show (-1 : Int32) < 0 by decide)]; exact h2.hw254 hn
          rintro s2 T2 t2 - - ⟨b2, e2, w1, w2, w3, w4⟩
          have qT : ol rLI (rtF n ts.length bg) rNo t t2 := rL_rt (rq_rL (j := ts.length) w3) (Nat.le_refl _) (Nat.le_refl _)
          have oS : out (thI i) (tgF i) s s2 := out_t oT (ln_th w2)
          have tF : ∀ r f : Nat, 1098 ≤ r → t2.F r f = t.F r f := fun r f hr => w3.2.2 _ _ (by unfold rqP; omega)
          unfold fb_X12_how_254 fb_X12_how_265 fb_X12_how_275
          rw [if_pos (show (-1 : Int32) < 0 by decide), if_neg (show ¬ (nI 1 : Int32) < 0 by decide), p_1112 hn, Option.bind_some, if_pos (show (-1 : Int32) ≤ 2 by decide), if_neg (show ¬ false = true by decide)]
          have w5 := w4.wF (r := 1112) (n := n) (v := nI 1) (by omega)
          have nS : hwS i n (g ||| 4) s2 (wF t2 1112 n (nI 1)) := by
            refine hS.p ?_ ⟨1, by omega, ?_, wF_e _ _ _ _⟩ ?_ ?_ ?_
            · rw [w2.2.1 _ _ (by unfold lnI'; omega), wI_o (by omega), wI_e]
            · rw [w2.2.1 _ _ (by unfold lnI'; omega), wI_e]
            · intro f hf; rw [w2.2.1 _ _ (by unfold lnI'; omega), wI_o (by omega), wI_o (by omega)]
            · intro f hf; rw [w2.2.2 _ _ (by unfold lqF; omega)]; rfl
            · intro r hr; rw [wF_o (by omega)]; exact tF r n (by omega)
          rw [← List.append_nil ts] at w5
          exact (cont [] bg b2 e2 T2 (g ||| 4) s2 (wF t2 1112 n (nI 1)) w1 (Nat.le_refl _) w5 nS (fun _ => ck) oS (ol_F qT (Or.inr ⟨by omega, rfl⟩))).pre out_r (ol_F ol_r (by unfold rdF; omega))
        · have fin : FU b t (if nI (κ + 9) = 20 then fb_X12_how_213 (fn_X12_how_0 (fu2 + 1)) (nI n) (-1) (nI 1) false true t else if nI (κ + 9) = 23 then fb_X12_how_213 (fn_X12_how_0 (fu2 + 1)) (nI n) (-1) (nI 1) false true t else fb_X12_how_213 (fn_X12_how_0 (fu2 + 1)) (nI n) (-1) (nI 1) false false t) := by
            have : κ = 11 ∨ κ = 14 := by omega
            rcases this with z | z <;> rw [z]
            · rw [if_pos (show nI (11 + 9) = 20 from rfl)]; exact fl213 _ _ _
            · rw [if_neg (show ¬ nI (14 + 9) = 20 by decide), if_pos (show nI (14 + 9) = 23 from rfl)]; exact fl213 _ _ _
          refine bad _ (Or.inr (Or.inl ?_)) fin
          have : κ = 11 ∨ κ = 14 := by omega
          rcases this with z | z <;> rw [z] <;> rfl
      · obtain ⟨mm, mm1, mm2, mm3⟩ := hS.2.2.2.2.2.2.2 cg
        rw [mm3, if_pos (show (0 : Int32) ≤ nI mm from nI_le (a := 0) (Nat.zero_le _) (by omega))]
        exact bad _ (Or.inr (Or.inr (Or.inl cg))) (fl213 _ _ _)
    by_cases q8 : v = 8
    · rw [hw_8 hn q8 h2 v3]
      rw [q8] at bad acc
      by_cases cg : g &&& 4 = 0
      · have lo := hS.2.2.2.2.2.2.1 cg
        rw [lo.1, if_neg (show ¬ (0 : Int32) ≤ -1 by decide), hk']
        by_cases ck : κ = 12 ∨ κ = 13
        · rw [if_neg (show ¬ nI (κ + 9) = 20 by show ¬ nI (κ + 9) = nI 20; rw [nI_eq (by omega) (by omega)]; omega), if_neg (show ¬ nI (κ + 9) = 23 by show ¬ nI (κ + 9) = nI 23; rw [nI_eq (by omega) (by omega)]; omega)]
          unfold fb_X12_how_213 fb_X12_how_228
          rw [if_neg (show ¬ false = true by decide)]
          rw [if_pos (show (-1 : Int32) ≤ 2 by decide)]
          have hW : tagW s i κ 8 g = wI s (16 + 3 * i) 5 (nI (g ||| 4)) := by
            unfold tagW
            rw [if_neg (by decide), if_neg (by omega)]; rfl
          have h5W : (wI s (16 + 3 * i) 5 (nI (g ||| 4))).I 6 5 = nI (σ.length + 1) := by rw [wI_o (by omega)]; exact h5l
          have hA : fn_X4_takeTag (nI i) s = some (wI (wI s (16 + 3 * i) 5 (nI (g ||| 4))) (16 + 3 * i) 9 (nI 2), 1) := by
            rw [acc (by decide) (show ¬ (TKn.getD κ 0 &&& TGn.getD 8 0 = 0 ∨ ¬ g &&& TGn.getD 8 0 = 0 ∨ ¬ rq &&& NBn.getD 8 0 = NBn.getD 8 0) by
            rintro (z | z | z)
            · revert z; rcases ck with z | z <;> rw [z] <;> decide
            · exact z cg
            · exact z (Nat.and_zero rq)), hW]
            exact c115_8 h5W (by omega)
          rw [hA, Option.bind_some]
          have oC : out cnI cnF s (wI (wI s (16 + 3 * i) 5 (nI (g ||| 4))) (16 + 3 * i) 9 (nI 2)) := out_I (out_I out_r (Or.inr ⟨by omega, by omega⟩)) (Or.inr ⟨by omega, by omega⟩)
          have oT : out (thI i) (tgF i) s (wI (wI s (16 + 3 * i) 5 (nI (g ||| 4))) (16 + 3 * i) 9 (nI 2)) := out_I (out_I out_r (Or.inr (Or.inr (Or.inr ⟨rfl, by omega⟩)))) (Or.inr (Or.inr (Or.inr ⟨rfl, by omega⟩)))
          unfold fb_X12_how_239
          refine RU.uu (G := fun s2 T2 t2 => ∃ b2 e2 : Nat, e ≤ b2 ∧ out lnI' lqF (wI (wI s (16 + 3 * i) 5 (nI (g ||| 4))) (16 + 3 * i) 9 (nI 2)) s2 ∧ out rnI (rqP bg) t t2 ∧ pj k fr x ts bg b2 e2 ((8, i) :: σ) N M cn ob dp rq T2 s2 t2) (pj_go h (by rw [c1]; decide) hbe oC ol_r ((show pm ((8, i) :: σ) N cn ob rq (wI (wI s (16 + 3 * i) 5 (nI (g ||| 4))) (16 + 3 * i) 9 (nI 2)) from h.2.1.fr (fun f => (wI_o (by omega)).trans (wI_o (by omega))) (fun _ _ _ => rfl))) h.2.2.1 (by simp only [List.length_cons]; omega) (by simp only [List.length_cons]; omega) k6 k7 k8 k9 k10 k11 k12 (fun s2 t2 b2 e2 q1 q2 q3 q4 => ⟨b2, e2, q1, q2, q3, q4⟩)) (fun p t2 h2 => ?_) ?_
          · rw [if_pos (show (-1 : Int32) < 0 by decide)]; exact h2.hw254 hn
          rintro s2 T2 t2 - - ⟨b2, e2, w1, w2, w3, w4⟩
          have qT : ol rLI (rtF n ts.length bg) rNo t t2 := rL_rt (rq_rL (j := ts.length) w3) (Nat.le_refl _) (Nat.le_refl _)
          have oS : out (thI i) (tgF i) s s2 := out_t oT (ln_th w2)
          have tF : ∀ r f : Nat, 1098 ≤ r → t2.F r f = t.F r f := fun r f hr => w3.2.2 _ _ (by unfold rqP; omega)
          unfold fb_X12_how_254 fb_X12_how_265 fb_X12_how_275
          rw [if_pos (show (-1 : Int32) < 0 by decide), if_neg (show ¬ (nI 2 : Int32) < 0 by decide), p_1112 hn, Option.bind_some, if_pos (show (-1 : Int32) ≤ 2 by decide), if_neg (show ¬ false = true by decide)]
          have w5 := w4.wF (r := 1112) (n := n) (v := nI 2) (by omega)
          have nS : hwS i n (g ||| 4) s2 (wF t2 1112 n (nI 2)) := by
            refine hS.p ?_ ⟨2, by omega, ?_, wF_e _ _ _ _⟩ ?_ ?_ ?_
            · rw [w2.2.1 _ _ (by unfold lnI'; omega), wI_o (by omega), wI_e]
            · rw [w2.2.1 _ _ (by unfold lnI'; omega), wI_e]
            · intro f hf; rw [w2.2.1 _ _ (by unfold lnI'; omega), wI_o (by omega), wI_o (by omega)]
            · intro f hf; rw [w2.2.2 _ _ (by unfold lqF; omega)]; rfl
            · intro r hr; rw [wF_o (by omega)]; exact tF r n (by omega)
          rw [← List.append_nil ts] at w5
          exact (cont [] bg b2 e2 T2 (g ||| 4) s2 (wF t2 1112 n (nI 2)) w1 (Nat.le_refl _) w5 nS (fun _ => ck) oS (ol_F qT (Or.inr ⟨by omega, rfl⟩))).pre out_r (ol_F ol_r (by unfold rdF; omega))
        · have fin : FU b t (if nI (κ + 9) = 20 then fb_X12_how_213 (fn_X12_how_0 (fu2 + 1)) (nI n) (-1) (nI 2) false true t else if nI (κ + 9) = 23 then fb_X12_how_213 (fn_X12_how_0 (fu2 + 1)) (nI n) (-1) (nI 2) false true t else fb_X12_how_213 (fn_X12_how_0 (fu2 + 1)) (nI n) (-1) (nI 2) false false t) := by
            have : κ = 11 ∨ κ = 14 := by omega
            rcases this with z | z <;> rw [z]
            · rw [if_pos (show nI (11 + 9) = 20 from rfl)]; exact fl213 _ _ _
            · rw [if_neg (show ¬ nI (14 + 9) = 20 by decide), if_pos (show nI (14 + 9) = 23 from rfl)]; exact fl213 _ _ _
          refine bad _ (Or.inr (Or.inl ?_)) fin
          have : κ = 11 ∨ κ = 14 := by omega
          rcases this with z | z <;> rw [z] <;> rfl
      · obtain ⟨mm, mm1, mm2, mm3⟩ := hS.2.2.2.2.2.2.2 cg
        rw [mm3, if_pos (show (0 : Int32) ≤ nI mm from nI_le (a := 0) (Nat.zero_le _) (by omega))]
        exact bad _ (Or.inr (Or.inr (Or.inl cg))) (fl213 _ _ _)
    rw [hw_99 hn (show 9 ≤ v by omega) h2 v3]
    refine bad _ ?_ (fl213 _ _ _)
    by_cases q : v = 17
    · exact Or.inl q
    · right; left
      have key : ∀ a : Fin 17, 9 ≤ a.1 → 7 &&& TGn.getD a.1 0 = 0 ∧ 3 &&& TGn.getD a.1 0 = 0 := by decide
      have := key ⟨v, by omega⟩ (show 9 ≤ v by omega)
      rcases KT with z | z | z | z <;> rw [z]
      · exact this.2
      · exact this.1
      · exact this.1
      · exact this.2
  · rw [decide_eq_false (show ¬ s.I 7 2 = nI 1 from c1)] at h2
    unfold fb_X12_how_0
    rw [if_neg c1, h2, Option.bind_some, if_neg (show ¬ false = true by decide), c_pop h.2.1, Option.bind_some]
    show RU x s t (fn_X4_parse_13 (999999 - T) 2 (nI T + 1) (wI s 6 5 (nI σ.length))) _ _
    rw [K_pass hb.2.1]
    have hp := h.pop
    obtain ⟨s1, s2, s3, s4, s5, s6, s7, s8⟩ := hS
    -- what the reference makes of the three fields
    have eM : ∃ mm : Nat, mm < 5 ∧ s.I (16 + 3 * i) 6 = nI mm ∧ (3 ≤ mm → ∃ r : Nat, r < 6 ∧ s.I (16 + 3 * i) 7 = nI r ∧ t.F 1110 n = nI r) ∧ ((iget 20 t 1109 (nI n)).bind fun v4 => if 0 ≤ v4 then ((iget 20 t 1109 (nI n)).bind fun v7 => fb_X12_how_312 (nI n) v7 (nI n) t) else (fb_X12_how_312 (nI n) 0 (nI n) t)) = fb_X12_how_312 (nI n) (nI mm) (nI n) t := by
      by_cases c : g &&& 1 = 0
      · obtain ⟨a1, a2, -⟩ := s3 c
        refine ⟨0, by omega, a2, fun z => by omega, ?_⟩
        rw [g_1109 hn, Option.bind_some, a1, if_neg (show ¬ (0 : Int32) ≤ -1 by decide)]; rfl
      · obtain ⟨mm, a1, a2, a3, a4⟩ := s4 c
        refine ⟨mm, a1, a2, a4, ?_⟩
        rw [g_1109 hn, Option.bind_some, a3, if_pos (show (0 : Int32) ≤ nI mm from nI_le (a := 0) (Nat.zero_le _) (by omega)), Option.bind_some]
    obtain ⟨mm, m1, m2, m3, m4⟩ := eM
    have eC : ∃ c : Nat, c < 3 ∧ s.I (16 + 3 * i) 8 = nI c ∧ fb_X12_how_312 (nI n) (nI mm) (nI n) t = fb_X12_how_337 (nI n) (nI (cmpM c)) (nI n) (wF t 1109 n (nI mm)) := by
      unfold fb_X12_how_312
      rw [p_1109 hn, Option.bind_some, g_1111 hn, Option.bind_some, wF_o (by omega)]
      by_cases c : g &&& 2 = 0
      · obtain ⟨a1, a2, -⟩ := s5 c
        refine ⟨0, by omega, a2, ?_⟩
        rw [a1, if_neg (show ¬ (0 : Int32) ≤ -1 by decide)]; rfl
      · obtain ⟨cc, a1, a2, a3⟩ := s6 c
        refine ⟨cc, a1, a2, ?_⟩
        have : cmpM cc < 3 := by (unfold cmpM; split <;> (try split) <;> omega)
        rw [a3, if_pos (show (0 : Int32) ≤ nI (cmpM cc) from nI_le (a := 0) (Nat.zero_le _) (by omega)), Option.bind_some]
    obtain ⟨cc, cc1, cc2, cc3⟩ := eC
    have eP : ∃ p : Nat, p < 3 ∧ s.I (16 + 3 * i) 9 = nI p ∧ fb_X12_how_337 (nI n) (nI (cmpM cc)) (nI n) (wF t 1109 n (nI mm)) = some (wF (wF (wF t 1109 n (nI mm)) 1111 n (nI (cmpM cc))) 1112 n (nI p)) := by
      unfold fb_X12_how_337
      rw [p_1111 hn, Option.bind_some, g_1112 hn, Option.bind_some, wF_o (by omega), wF_o (by omega)]
      by_cases c : g &&& 4 = 0
      · obtain ⟨a1, a2⟩ := s7 c
        refine ⟨0, by omega, a2, ?_⟩
        rw [a1, if_neg (show ¬ (0 : Int32) ≤ -1 by decide), p_1112 hn, Option.bind_some]; rfl
      · obtain ⟨pp, a1, a2, a3⟩ := s8 c
        refine ⟨pp, a1, a2, ?_⟩
        rw [a3, if_pos (show (0 : Int32) ≤ nI pp from nI_le (a := 0) (Nat.zero_le _) (by omega)), Option.bind_some, p_1112 hn, Option.bind_some]
    obtain ⟨pp, pp1, pp2, pp3⟩ := eP
    rw [m4, cc3, pp3]
    have q : ol rLI (rtF n ts.length bg) rNo t (wF (wF (wF t 1109 n (nI mm)) 1111 n (nI (cmpM cc))) 1112 n (nI pp)) := ol_F (ol_F (ol_F ol_r (Or.inr ⟨by omega, rfl⟩)) (Or.inr ⟨by omega, rfl⟩)) (Or.inr ⟨by omega, rfl⟩)
    refine Or.inr ⟨T + 1, _, _, rfl, rfl, out_I out_r ⟨by omega, by omega⟩, ol_F (ol_F (ol_F ol_r (by unfold rdF; omega)) (by unfold rdF; omega)) (by unfold rdF; omega), [], bg, b, e, Nat.le_refl _, Nat.le_refl _, ?_, ⟨mm, m1, ?_, ?_, fun z => ?_⟩, ⟨cc, cc1, ?_, ?_⟩, ⟨⟨pp, pp1, ?_, wF_e _ _ _ _⟩, ?_⟩, out_I out_r (Or.inl ⟨rfl, rfl⟩), q⟩
    · rw [List.append_nil]
      exact ((hp.wF (by omega)).wF (by omega)).wF (by omega)
    · rw [wI_o (by omega)]; exact m2
    · rw [wF_o (by omega), wF_o (by omega), wF_e]
    · obtain ⟨r, a1, a2, a3⟩ := m3 z
      exact ⟨r, a1, by rw [wI_o (by omega)]; exact a2, by rw [wF_o (by omega), wF_o (by omega), wF_o (by omega)]; exact a3⟩
    · rw [wI_o (by omega)]; exact cc2
    · rw [wF_o (by omega), wF_e]
    · rw [wI_o (by omega)]; exact pp2
    · intro y1 y2
      rw [wI_o (by omega)]
      by_cases c : g &&& 4 = 0
      · exact (s7 c).2
      · rcases hg4 c with y | y
        · exact absurd y y1
        · exact absurd y y2
