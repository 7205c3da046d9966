/-! vacation on both sides -/
def nfI (i k f : Nat) : Prop := (k = 6 ∧ f = 5) ∨ k = 7 ∨ k = 8 ∨ (k = 16 + 3 * i ∧ 5 ≤ f)
def nfF (i k _f : Nat) : Prop := k = 9 ∨ k = 10 ∨ k = 11 ∨ k = 14 ∨ k = 15 ∨ k = 17 + 3 * i ∨ k = 18 + 3 * i
def nrI (k f : Nat) : Prop := rLI k f ∨ (k = 1079 ∧ f = 21)
def nrF (n j bg k f : Nat) : Prop := rLF j bg k f ∨ ((1102 ≤ k ∧ k ≤ 1115) ∧ f = n) ∨ k = 1093
theorem tg_nd {i : Nat} {s s1 : uS} (h : out (tgI i) (tgF i) s s1) : out (nfI i) (nfF i) s s1 := out_w h (fun _ _ z => z) (fun k f z => by unfold tgF at z; unfold nfF; omega)
theorem cL_nd {i l : Nat} {s s1 : uS} (h : out (cLI i l) (cLF i l) s s1) : out (nfI i) (nfF i) s s1 := out_w h (fun k f z => by unfold cLI at z; unfold nfI; omega) (fun k f z => by unfold cLF at z; unfold nfF; omega)
theorem ln_nd {i : Nat} {s s1 : uS} (h : out lnI' lqF s s1) : out (nfI i) (nfF i) s s1 := out_w h (fun k f z => by unfold lnI' at z; unfold nfI; omega) (fun k f z => by unfold lqF at z; unfold nfF; omega)
theorem rt_nr {n j bg j1 bg1 : Nat} {t t1 : uS} (h : ol rLI (rtF n j1 bg1) rNo t t1) (a : j ≤ j1) (c : bg ≤ bg1) : ol nrI (nrF n j bg) rNo t t1 := ol_w h (fun _ _ z => Or.inl z) (fun k f z => by unfold rtF rLF at z; unfold nrF rLF; omega) (fun _ _ z => z)
theorem rL_nr {n j bg j1 bg1 : Nat} {t t1 : uS} (h : ol rLI (rLF j1 bg1) rNo t t1) (a : j ≤ j1) (c : bg ≤ bg1) : ol nrI (nrF n j bg) rNo t t1 := ol_w h (fun _ _ z => Or.inl z) (fun k f z => by unfold rLF at z; unfold nrF rLF; omega) (fun _ _ z => z)
theorem nr_nr {n j bg j1 bg1 : Nat} {t t1 : uS} (h : ol nrI (nrF n j1 bg1) rNo t t1) (a : j ≤ j1) (c : bg ≤ bg1) : ol nrI (nrF n j bg) rNo t t1 := ol_w h (fun _ _ z => z) (fun k f z => by unfold nrF rLF at *; omega) (fun _ _ z => z)
def vcD (i n : Nat) (s t : uS) : Prop := ∃ d : Nat, d < 2 ^ 31 ∧ s.I (16 + 3 * i) 10 = nI d ∧ t.F 1113 n = nI d
def vcT (l r i n u L : Nat) (s t : uS) : Prop := ∃ f : Nat, u ≤ f ∧ f < L ∧ s.F (17 + 3 * i) l = nI f ∧ t.F r n = nI f
def vcA (i n u L : Nat) (s t : uS) : Prop := ∃ f m : Nat, 1 ≤ m ∧ m ≤ 10 ∧ u ≤ f ∧ f + m ≤ L ∧ s.F (17 + 3 * i) 8 = nI f ∧ s.F (18 + 3 * i) 8 = nI m ∧ t.F 1104 n = nI f ∧ t.F 1105 n = nI m
def vct (l r i n : Nat) (s t : uS) : Prop := t.F r n = -1 ∧ s.F (18 + 3 * i) l = nI 0
def vca (i n : Nat) (s t : uS) : Prop := t.F 1104 n = -1 ∧ t.F 1105 n = 0 ∧ s.F (18 + 3 * i) 8 = nI 0
def vcd (n : Nat) (t : uS) : Prop := t.F 1113 n = -1
def vcS (i n g u L : Nat) (s t : uS) : Prop := s.I (16 + 3 * i) 5 = nI (32 * g) ∧ g < 16 ∧ (g &&& 1 = 0 → vcd n t) ∧ (g &&& 1 ≠ 0 → vcD i n s t) ∧ (g &&& 2 = 0 → vct 6 1114 i n s t) ∧ (g &&& 2 ≠ 0 → vcT 6 1114 i n u L s t) ∧ (g &&& 4 = 0 → vca i n s t) ∧ (g &&& 4 ≠ 0 → vcA i n u L s t) ∧ (g &&& 8 = 0 → vct 7 1115 i n s t) ∧ (g &&& 8 ≠ 0 → vcT 7 1115 i n u L s t)
theorem vcT.fr {l r i n u L L1 : Nat} {s t s1 t1 : uS} (h : vcT l r i n u L s t) (hL : L ≤ L1) (a : s1.F (17 + 3 * i) l = s.F (17 + 3 * i) l) (c : t1.F r n = t.F r n) : vcT l r i n u L1 s1 t1 := by
  obtain ⟨f, h0, h1, h2, h3⟩ := h
  exact ⟨f, h0, by omega, a.trans h2, c.trans h3⟩
theorem vct.fr {l r i n : Nat} {s t s1 t1 : uS} (h : vct l r i n s t) (a : s1.F (18 + 3 * i) l = s.F (18 + 3 * i) l) (c : t1.F r n = t.F r n) : vct l r i n s1 t1 := ⟨c.trans h.1, a.trans h.2⟩
theorem vcA.fr {i n u L L1 : Nat} {s t s1 t1 : uS} (h : vcA i n u L s t) (hL : L ≤ L1) (a : s1.F (17 + 3 * i) 8 = s.F (17 + 3 * i) 8) (b : s1.F (18 + 3 * i) 8 = s.F (18 + 3 * i) 8) (c : t1.F 1104 n = t.F 1104 n) (d : t1.F 1105 n = t.F 1105 n) : vcA i n u L1 s1 t1 := by
  obtain ⟨f, m, h1, h2, h0, h3, h4, h5, h6, h7⟩ := h
  exact ⟨f, m, h1, h2, h0, by omega, a.trans h4, b.trans h5, c.trans h6, d.trans h7⟩
theorem vca.fr {i n : Nat} {s t s1 t1 : uS} (h : vca i n s t) (b : s1.F (18 + 3 * i) 8 = s.F (18 + 3 * i) 8) (c : t1.F 1104 n = t.F 1104 n) (d : t1.F 1105 n = t.F 1105 n) : vca i n s1 t1 := ⟨c.trans h.1, d.trans h.2.1, b.trans h.2.2⟩
theorem vcD.fr {i n : Nat} {s t s1 t1 : uS} (h : vcD i n s t) (a : s1.I (16 + 3 * i) 10 = s.I (16 + 3 * i) 10) (c : t1.F 1113 n = t.F 1113 n) : vcD i n s1 t1 := by
  obtain ⟨f, h1, h2, h3⟩ := h
  exact ⟨f, h1, a.trans h2, c.trans h3⟩
theorem g16 : ∀ g : Fin 16, (32 * g.1 ||| 32 = 32 * (g.1 ||| 1) ∧ 32 * g.1 ||| 64 = 32 * (g.1 ||| 2) ∧ 32 * g.1 ||| 128 = 32 * (g.1 ||| 4) ∧ 32 * g.1 ||| 256 = 32 * (g.1 ||| 8)) ∧ ((32 * g.1 &&& 32 = 0 ↔ g.1 &&& 1 = 0) ∧ (32 * g.1 &&& 64 = 0 ↔ g.1 &&& 2 = 0) ∧ (32 * g.1 &&& 128 = 0 ↔ g.1 &&& 4 = 0) ∧ (32 * g.1 &&& 256 = 0 ↔ g.1 &&& 8 = 0)) := by decide
theorem g16b : ∀ g : Fin 16, ∀ a b : Fin 4, (g.1 ||| 2 ^ a.1 < 16) ∧ (a.1 ≠ b.1 → (g.1 ||| 2 ^ a.1) &&& 2 ^ b.1 = g.1 &&& 2 ^ b.1) ∧ (g.1 ||| 2 ^ a.1) &&& 2 ^ a.1 ≠ 0 := by decide
theorem vcS.fr {i n g u L L1 a : Nat} {s t s1 t1 : uS} (h : vcS i n g u L s t) (hL : L ≤ L1) (ha : a < 4) (h5 : s1.I (16 + 3 * i) 5 = nI (32 * (g ||| 2 ^ a))) (f0 : a ≠ 0 → s1.I (16 + 3 * i) 10 = s.I (16 + 3 * i) 10 ∧ t1.F 1113 n = t.F 1113 n) (f1 : a ≠ 1 → s1.F (17 + 3 * i) 6 = s.F (17 + 3 * i) 6 ∧ s1.F (18 + 3 * i) 6 = s.F (18 + 3 * i) 6 ∧ t1.F 1114 n = t.F 1114 n) (f2 : a ≠ 2 → s1.F (17 + 3 * i) 8 = s.F (17 + 3 * i) 8 ∧ s1.F (18 + 3 * i) 8 = s.F (18 + 3 * i) 8 ∧ t1.F 1104 n = t.F 1104 n ∧ t1.F 1105 n = t.F 1105 n) (f3 : a ≠ 3 → s1.F (17 + 3 * i) 7 = s.F (17 + 3 * i) 7 ∧ s1.F (18 + 3 * i) 7 = s.F (18 + 3 * i) 7 ∧ t1.F 1115 n = t.F 1115 n) (w0 : a = 0 → vcD i n s1 t1) (w1 : a = 1 → vcT 6 1114 i n u L1 s1 t1) (w2 : a = 2 → vcA i n u L1 s1 t1) (w3 : a = 3 → vcT 7 1115 i n u L1 s1 t1) : vcS i n (g ||| 2 ^ a) u L1 s1 t1 := by
  obtain ⟨h1, h2, h3, h4, h6, h7, h8, h9, h10, h11⟩ := h
  have key : ∀ b : Nat, b < 4 → (g ||| 2 ^ a < 16) ∧ (a ≠ b → (g ||| 2 ^ a) &&& 2 ^ b = g &&& 2 ^ b) ∧ (g ||| 2 ^ a) &&& 2 ^ a ≠ 0 := fun b hb => g16b ⟨g, h2⟩ ⟨a, ha⟩ ⟨b, hb⟩
  refine ⟨h5, (key 0 (by decide)).1, ?_, ?_, ?_, ?_, ?_, ?_, ?_, ?_⟩
  · by_cases c : a = 0
    · intro z
      have e := (key 0 (by decide)).2.2
      subst c
      exact absurd z e
    · have e : (g ||| 2 ^ a) &&& 1 = g &&& 1 := (key 0 (by decide)).2.1 c
      exact fun z => (f0 c).2.trans (h3 (e ▸ z))
  · by_cases c : a = 0
    · exact fun _ => w0 c
    · have e : (g ||| 2 ^ a) &&& 1 = g &&& 1 := (key 0 (by decide)).2.1 c
      exact fun z => (h4 (e ▸ z)).fr (f0 c).1 (f0 c).2
  · by_cases c : a = 1
    · intro z
      have e := (key 1 (by decide)).2.2
      subst c
      exact absurd z e
    · have e : (g ||| 2 ^ a) &&& 2 = g &&& 2 := (key 1 (by decide)).2.1 c
      exact fun z => (h6 (e ▸ z)).fr (f1 c).2.1 (f1 c).2.2
  · by_cases c : a = 1
    · exact fun _ => w1 c
    · have e : (g ||| 2 ^ a) &&& 2 = g &&& 2 := (key 1 (by decide)).2.1 c
      exact fun z => (h7 (e ▸ z)).fr hL (f1 c).1 (f1 c).2.2
  · by_cases c : a = 2
    · intro z
      have e := (key 2 (by decide)).2.2
      subst c
      exact absurd z e
    · have e : (g ||| 2 ^ a) &&& 4 = g &&& 4 := (key 2 (by decide)).2.1 c
      exact fun z => (h8 (e ▸ z)).fr (f2 c).2.1 (f2 c).2.2.1 (f2 c).2.2.2
  · by_cases c : a = 2
    · exact fun _ => w2 c
    · have e : (g ||| 2 ^ a) &&& 4 = g &&& 4 := (key 2 (by decide)).2.1 c
      exact fun z => (h9 (e ▸ z)).fr hL (f2 c).1 (f2 c).2.1 (f2 c).2.2.1 (f2 c).2.2.2
  · by_cases c : a = 3
    · intro z
      have e := (key 3 (by decide)).2.2
      subst c
      exact absurd z e
    · have e : (g ||| 2 ^ a) &&& 8 = g &&& 8 := (key 3 (by decide)).2.1 c
      exact fun z => (h10 (e ▸ z)).fr (f3 c).2.1 (f3 c).2.2
  · by_cases c : a = 3
    · exact fun _ => w3 c
    · have e : (g ||| 2 ^ a) &&& 8 = g &&& 8 := (key 3 (by decide)).2.1 c
      exact fun z => (h11 (e ▸ z)).fr hL (f3 c).1 (f3 c).2.2
theorem ab_11 {K : Int32 → uS → Option uS} {n v : Nat} {t : uS} (hn : n < 520) (hv : v = 11) (hi : fn_X12_is 2 t = some true) (w : ∀ (W : List Nat) (j : Nat), tagWd W j → ∀ U : uS, ol rnJ rnK rNo t U → fn_X12_wordIs W U = some (decide (v = j))) : fb_X12_absence_14 K (nI n) t = (if t.F 1113 n = -1 then fb_X12_absence_152 K (nI n) true false false t else fb_X12_absence_144 K (nI n) true false false t) := by
  have w11 : fn_X12_wordIs kW_96 t = some true := by rw [w kW_96 11 tw_96 t ol_r, decide_eq_true (by omega)]
  have w12 : fn_X12_wordIs kW_97 t = some false := by rw [w kW_97 12 tw_97 t ol_r, decide_eq_false (by omega)]
  have w13 : fn_X12_wordIs kW_98 t = some false := by rw [w kW_98 13 tw_98 t ol_r, decide_eq_false (by omega)]
  have w14 : fn_X12_wordIs kW_99 t = some false := by rw [w kW_99 14 tw_99 t ol_r, decide_eq_false (by omega)]
  unfold fb_X12_absence_14 fb_X12_absence_70 fb_X12_absence_84 fb_X12_absence_99 fb_X12_absence_119
  rw [hi, Option.bind_some, if_pos rfl, w11, Option.bind_some, w12, Option.bind_some, w13, Option.bind_some, w14, Option.bind_some]
  simp only [if_true, Bool.false_eq_true, if_false]
  rw [g_1113 hn, Option.bind_some]
theorem ab_12 {K : Int32 → uS → Option uS} {n v : Nat} {t : uS} (hn : n < 520) (hv : v = 12) (hi : fn_X12_is 2 t = some true) (w : ∀ (W : List Nat) (j : Nat), tagWd W j → ∀ U : uS, ol rnJ rnK rNo t U → fn_X12_wordIs W U = some (decide (v = j))) : fb_X12_absence_14 K (nI n) t = (if t.F 1114 n = -1 then fb_X12_absence_152 K (nI n) false true false t else fb_X12_absence_144 K (nI n) false true false t) := by
  have w11 : fn_X12_wordIs kW_96 t = some false := by rw [w kW_96 11 tw_96 t ol_r, decide_eq_false (by omega)]
  have w12 : fn_X12_wordIs kW_97 t = some true := by rw [w kW_97 12 tw_97 t ol_r, decide_eq_true (by omega)]
  have w13 : fn_X12_wordIs kW_98 t = some false := by rw [w kW_98 13 tw_98 t ol_r, decide_eq_false (by omega)]
  have w14 : fn_X12_wordIs kW_99 t = some false := by rw [w kW_99 14 tw_99 t ol_r, decide_eq_false (by omega)]
  unfold fb_X12_absence_14 fb_X12_absence_70 fb_X12_absence_84 fb_X12_absence_99 fb_X12_absence_119
  rw [hi, Option.bind_some, if_pos rfl, w11, Option.bind_some, w12, Option.bind_some, w13, Option.bind_some, w14, Option.bind_some]
  simp only [if_true, Bool.false_eq_true, if_false]
  rw [g_1114 hn, Option.bind_some]
theorem ab_13 {K : Int32 → uS → Option uS} {n v : Nat} {t : uS} (hn : n < 520) (hv : v = 13) (hi : fn_X12_is 2 t = some true) (w : ∀ (W : List Nat) (j : Nat), tagWd W j → ∀ U : uS, ol rnJ rnK rNo t U → fn_X12_wordIs W U = some (decide (v = j))) : fb_X12_absence_14 K (nI n) t = (if t.F 1104 n = -1 then fb_X12_absence_152 K (nI n) false false false t else fb_X12_absence_144 K (nI n) false false false t) := by
  have w11 : fn_X12_wordIs kW_96 t = some false := by rw [w kW_96 11 tw_96 t ol_r, decide_eq_false (by omega)]
  have w12 : fn_X12_wordIs kW_97 t = some false := by rw [w kW_97 12 tw_97 t ol_r, decide_eq_false (by omega)]
  have w13 : fn_X12_wordIs kW_98 t = some true := by rw [w kW_98 13 tw_98 t ol_r, decide_eq_true (by omega)]
  have w14 : fn_X12_wordIs kW_99 t = some false := by rw [w kW_99 14 tw_99 t ol_r, decide_eq_false (by omega)]
  unfold fb_X12_absence_14 fb_X12_absence_70 fb_X12_absence_84 fb_X12_absence_99 fb_X12_absence_119
  rw [hi, Option.bind_some, if_pos rfl, w11, Option.bind_some, w12, Option.bind_some, w13, Option.bind_some, w14, Option.bind_some]
  simp only [if_true, Bool.false_eq_true, if_false]
  rw [g_1104 hn, Option.bind_some]
theorem ab_14 {K : Int32 → uS → Option uS} {n v : Nat} {t : uS} (hn : n < 520) (hv : v = 14) (hi : fn_X12_is 2 t = some true) (w : ∀ (W : List Nat) (j : Nat), tagWd W j → ∀ U : uS, ol rnJ rnK rNo t U → fn_X12_wordIs W U = some (decide (v = j))) : fb_X12_absence_14 K (nI n) t = (if t.F 1115 n = -1 then fb_X12_absence_152 K (nI n) false false true t else fb_X12_absence_144 K (nI n) false false true t) := by
  have w11 : fn_X12_wordIs kW_96 t = some false := by rw [w kW_96 11 tw_96 t ol_r, decide_eq_false (by omega)]
  have w12 : fn_X12_wordIs kW_97 t = some false := by rw [w kW_97 12 tw_97 t ol_r, decide_eq_false (by omega)]
  have w13 : fn_X12_wordIs kW_98 t = some false := by rw [w kW_98 13 tw_98 t ol_r, decide_eq_false (by omega)]
  have w14 : fn_X12_wordIs kW_99 t = some true := by rw [w kW_99 14 tw_99 t ol_r, decide_eq_true (by omega)]
  unfold fb_X12_absence_14 fb_X12_absence_70 fb_X12_absence_84 fb_X12_absence_99 fb_X12_absence_119
  rw [hi, Option.bind_some, if_pos rfl, w11, Option.bind_some, w12, Option.bind_some, w13, Option.bind_some, w14, Option.bind_some]
  simp only [if_true, Bool.false_eq_true, if_false]
  rw [g_1115 hn, Option.bind_some]
theorem ab_99 {K : Int32 → uS → Option uS} {n v : Nat} {t : uS} (hn : n < 520) (hv : v ≠ 11 ∧ v ≠ 12 ∧ v ≠ 13 ∧ v ≠ 14) (hi : fn_X12_is 2 t = some true) (w : ∀ (W : List Nat) (j : Nat), tagWd W j → ∀ U : uS, ol rnJ rnK rNo t U → fn_X12_wordIs W U = some (decide (v = j))) : fb_X12_absence_14 K (nI n) t = (fb_X12_absence_144 K (nI n) false false false t) := by
  have w11 : fn_X12_wordIs kW_96 t = some false := by rw [w kW_96 11 tw_96 t ol_r, decide_eq_false (by omega)]
  have w12 : fn_X12_wordIs kW_97 t = some false := by rw [w kW_97 12 tw_97 t ol_r, decide_eq_false (by omega)]
  have w13 : fn_X12_wordIs kW_98 t = some false := by rw [w kW_98 13 tw_98 t ol_r, decide_eq_false (by omega)]
  have w14 : fn_X12_wordIs kW_99 t = some false := by rw [w kW_99 14 tw_99 t ol_r, decide_eq_false (by omega)]
  unfold fb_X12_absence_14 fb_X12_absence_70 fb_X12_absence_84 fb_X12_absence_99 fb_X12_absence_119
  rw [hi, Option.bind_some, if_pos rfl, w11, Option.bind_some, w12, Option.bind_some, w13, Option.bind_some, w14, Option.bind_some]
  simp only [if_true, Bool.false_eq_true, if_false]
def vcG (k fr : Nat) (x : List Nat) (ts : List (List Nat)) (bg b : Nat) (σ : List (Nat × Nat)) (N M cn ob dp rq i n u : Nat) (s t : uS) (s1 : uS) (T1 : Nat) (t1 : uS) : Prop := ∃ (news : List (List Nat)) (bg1 b1 e1 g1 : Nat), bg ≤ bg1 ∧ b ≤ b1 ∧ pj k fr x (ts ++ news) bg1 b1 e1 σ N M cn ob dp rq T1 s1 t1 ∧ vcS i n g1 u (ts ++ news).length s1 t1 ∧ vcT 5 1102 i n u (ts ++ news).length s1 t1 ∧ out (nfI i) (nfF i) s s1 ∧ ol nrI (nrF n ts.length bg) rNo t t1
theorem vcS.len {i n g u L L1 : Nat} {s t : uS} (h : vcS i n g u L s t) (hL : L ≤ L1) : vcS i n g u L1 s t := by
  obtain ⟨h1, h2, h3, h4, h6, h7, h8, h9, h10, h11⟩ := h
  exact ⟨h1, h2, h3, h4, h6, fun z => (h7 z).fr hL rfl rfl, h8, fun z => (h9 z).fr hL rfl rfl rfl rfl, h10, fun z => (h11 z).fr hL rfl rfl⟩
theorem vcS.same {i n g u L : Nat} {s t s1 t1 : uS} (h : vcS i n g u L s t) (a : s1.I (16 + 3 * i) 5 = s.I (16 + 3 * i) 5) (b : s1.I (16 + 3 * i) 10 = s.I (16 + 3 * i) 10) (c : ∀ r f : Nat, r = 17 + 3 * i ∨ r = 18 + 3 * i → 6 ≤ f → s1.F r f = s.F r f) (d : ∀ r : Nat, r = 1104 ∨ r = 1105 ∨ r = 1113 ∨ r = 1114 ∨ r = 1115 → t1.F r n = t.F r n) : vcS i n g u L s1 t1 := by
  obtain ⟨h1, h2, h3, h4, h6, h7, h8, h9, h10, h11⟩ := h
  exact ⟨a.trans h1, h2, fun z => (d 1113 (by omega)).trans (h3 z), fun z => (h4 z).fr b (d 1113 (by omega)), fun z => (h6 z).fr (c _ _ (Or.inr rfl) (by omega)) (d 1114 (by omega)), fun z => (h7 z).fr (Nat.le_refl _) (c _ _ (Or.inl rfl) (by omega)) (d 1114 (by omega)), fun z => (h8 z).fr (c _ _ (Or.inr rfl) (by omega)) (d 1104 (by omega)) (d 1105 (by omega)), fun z => (h9 z).fr (Nat.le_refl _) (c _ _ (Or.inl rfl) (by omega)) (c _ _ (Or.inr rfl) (by omega)) (d 1104 (by omega)) (d 1105 (by omega)), fun z => (h10 z).fr (c _ _ (Or.inr rfl) (by omega)) (d 1115 (by omega)), fun z => (h11 z).fr (Nat.le_refl _) (c _ _ (Or.inl rfl) (by omega)) (d 1115 (by omega))⟩
/-- a number on both sides -/
theorem pj.num {k fr : Nat} {x : List Nat} {ts : List (List Nat)} {bg b e : Nat} {σ : List (Nat × Nat)} {N M cn ob dp rq T : Nat} {s t : uS} (h : pj k fr x ts bg b e σ N M cn ob dp rq T s t) (hq : s.I 7 2 = 2) : b < e ∧ ∃ d : Nat, d < 2 ^ 31 ∧ s.I 7 3 = nI d ∧ t.I 1079 35 = nI d := by
  rcases h.1 with h | h | h | h | h | h
  · rw [h.2.2.2.1] at hq; exact absurd hq (by decide)
  · rw [h.2.2.1] at hq; exact absurd hq (by decide)
  · rw [h.2.2.1] at hq; exact absurd hq (by decide)
  · obtain ⟨a1, a2, a3, a4, v, a5, a6, a7⟩ := h
    exact ⟨a1, v, a5, a6, a7⟩
  · rw [h.2.2.2.1] at hq; exact absurd hq (by decide)
  · obtain ⟨a, str, -, -, -, -, -, -, -, -, -, z, -⟩ := h
    rw [z] at hq; exact absurd hq (by decide)
theorem c_nmb {σ : List (Nat × Nat)} {N cn ob rq i : Nat} {p : Nat × Nat} {s : uS} (hi : i < 320) (hm : pm (p :: σ) N cn ob rq s) (h2 : s.I 7 2 = 2) (h0 : s.I (16 + 3 * i) 0 ≠ 16 ∨ (s.I (16 + 3 * i) 5 &&& 512) ≠ 0) : fn_X4_takeNumber (nI i) s = some (wI (wI s (16 + 3 * i) 10 (s.I 7 3)) 6 5 (nI σ.length), 1) := by
  have e : (wI s (16 + 3 * i) 10 (s.I 7 3)).I 6 5 - 1 = nI σ.length := by rw [wI_o (by omega)]; exact hm.h1
  unfold fn_X4_takeNumber fb_X4_takeNumber_39 fn_X4_pop fn_X3_has
  rw [pgt_nod hi, Option.bind_some, if_pos (so_nod hi), if_pos h2, e, Option.bind_some]
  by_cases c : s.I (16 + 3 * i) 0 = 16
  · rw [if_pos c, if_neg (h0.resolve_left (fun z => z c)), Option.bind_some, if_pos rfl]
  · rw [if_neg c]
theorem c_nmbN {i : Nat} {s : uS} (hi : i < 320) (h2 : s.I 7 2 ≠ 2 ∨ (s.I (16 + 3 * i) 0 = 16 ∧ (s.I (16 + 3 * i) 5 &&& 512) = 0)) : fn_X4_takeNumber (nI i) s = some (s, 0) := by
  unfold fn_X4_takeNumber fn_X3_has
  rw [pgt_nod hi, Option.bind_some, if_pos (so_nod hi)]
  by_cases c : s.I 7 2 = 2
  · obtain ⟨a, b⟩ := h2.resolve_left (fun z => z c)
    rw [if_pos c, if_pos a, if_pos b, Option.bind_some, if_neg (show ¬ false = true by decide)]
  · rw [if_neg c]
theorem p_abs {k fr : Nat} {x : List Nat} {i n : Nat} (hi : i < 320) (hn : n < 520) {σ : List (Nat × Nat)} (hσ : σ.length ≤ 70) {N M cn ob dp rq u : Nat} : ∀ (m fu : Nat) (ts : List (List Nat)) (bg b e T g : Nat) (s t : uS), x.length + 1 ≤ m + b → m + 1 ≤ fu → u ≤ ts.length → pj k fr x ts bg b e ((8, i) :: (10, 12 * i + 5) :: σ) N M cn ob dp rq T s t → s.I (16 + 3 * i) 0 = nI 10 → s.F (18 + 3 * i) 5 = nI 0 → s.I (16 + 3 * i) 11 = nI 0 → vcS i n g u ts.length s t → RU x s t (pd T s) (fn_X12_absence_14 fu (nI n) t) (vcG k fr x ts bg b σ N M cn ob dp rq i n u s t) := by
  intro m
  induction m using Nat.strongRecOn with
  | _ m ih =>
  intro fu ts bg b e T g s t hm hfu hu h h0 hr5 hf11 hS
  have hb := h.bl
  obtain ⟨k1, k2, k3, k4, k5, k6, k7, k8, k9, k10, k11, k12, k13⟩ := h.2.2.2
  obtain ⟨r1, r2, r3, r4, r5, r6, r7, r8⟩ := h.2.2.1
  have hl := h.1.l
  obtain ⟨fu', rfl⟩ : ∃ fu', fu = fu' + 1 := ⟨fu - 1, by omega⟩
  rw [pd_8 h]
  show RU x s t _ (fb_X12_absence_14 (fn_X12_absence_14 fu') (nI n) t) _
  have h2 : fn_X12_is 2 t = some (decide (s.I 7 2 = nI 1)) := h.is (c := 1) (by decide)
  by_cases c1 : s.I 7 2 = 1
  · rw [if_pos c1]
    rw [decide_eq_true (show s.I 7 2 = nI 1 from c1)] at h2
    obtain ⟨hbe, v, v1, v2, v3⟩ := h.tag1 c1
    obtain ⟨fu2, rfl⟩ : ∃ fu2, fu' = fu2 + 1 := ⟨fu' - 1, by omega⟩
    have hg : g < 16 := hS.2.1
    have hG16 : (32 * g ||| 32 = 32 * (g ||| 1) ∧ 32 * g ||| 64 = 32 * (g ||| 2) ∧ 32 * g ||| 128 = 32 * (g ||| 4) ∧ 32 * g ||| 256 = 32 * (g ||| 8)) ∧ ((32 * g &&& 32 = 0 ↔ g &&& 1 = 0) ∧ (32 * g &&& 64 = 0 ↔ g &&& 2 = 0) ∧ (32 * g &&& 128 = 0 ↔ g &&& 4 = 0) ∧ (32 * g &&& 256 = 0 ↔ g &&& 8 = 0)) := g16 ⟨g, hg⟩
    have h5l : s.I 6 5 = nI (((8, i) :: (10, 12 * i + 5) :: σ).length) := h.2.1.1
    simp only [List.length_cons] at h5l k5
    have cont : ∀ (new0 : List (List Nat)) (bg' b' e' T' g' : Nat) (s' t' : uS), e ≤ b' → bg ≤ bg' → pj k fr x (ts ++ new0) bg' b' e' ((8, i) :: (10, 12 * i + 5) :: σ) N M cn ob dp rq T' s' t' → vcS i n g' u (ts ++ new0).length s' t' → out (tgI i) (tgF i) s s' → s'.I (16 + 3 * i) 11 = nI 0 → ol rLI (rtF n ts.length bg) rNo t t' → RU x s' t' (pd T' s') (fn_X12_absence_14 (fu2 + 1) (nI n) t') (vcG k fr x ts bg b σ N M cn ob dp rq i n u s t) := by
      intro new0 bg' b' e' T' g' s' t' w1 w2 w3 w4 w5 w5' w6
      refine (ih (m - 1) (by omega) (fu2 + 1) (ts ++ new0) bg' b' e' T' g' s' t' (by omega) (by omega) (by rw [List.length_append]; omega) w3 (by rw [w5.2.1 _ _ (by unfold tgI; omega)]; exact h0) (by rw [w5.2.2 _ _ (by unfold tgF; omega)]; exact hr5) w5' w4).w ?_
      rintro s4 T4 t4 ⟨news, bg1, b1, e1, g1, d1, d2, d3, d4, d5, d7, d8⟩
      rw [List.append_assoc] at d3 d4 d5
      exact ⟨new0 ++ news, bg1, b1, e1, g1, by omega, by omega, d3, d4, d5, out_t (tg_nd w5) d7, ol_t (rt_nr w6 (Nat.le_refl _) (Nat.le_refl _)) (nr_nr d8 (by rw [List.length_append]; omega) w2)⟩
    have bad : ∀ A : Option uS, (v = 17 ∨ TKn.getD 10 0 &&& TGn.getD v 0 = 0 ∨ ¬ 32 * g &&& TGn.getD v 0 = 0 ∨ ¬ rq &&& NBn.getD v 0 = NBn.getD v 0) → FU b t A → RU x s t ((fn_X4_takeTag (nI i) s).bind fun r => fn_X4_parse_13 (999999 - T) r.2 (nI T + 1) r.1) A (vcG k fr x ts bg b σ N M cn ob dp rq i n u s t) := by
      intro A z f
      have : fn_X4_takeTag (nI i) s = some (s, 0) := by
        by_cases q : v = 17
        · exact c_tagN hi (by rw [v2, if_pos q])
        · rw [c_tag hi (show v < 17 by omega) (by omega) (by omega) (by rw [v2, if_neg q]) h0 hS.1 h.2.1.2.2.2.2.2 k12, if_pos (z.resolve_left q)]
      rw [this, Option.bind_some]
      exact h.RU out_r f
    have acc : v < 17 → ¬ (TKn.getD 10 0 &&& TGn.getD v 0 = 0 ∨ ¬ 32 * g &&& TGn.getD v 0 = 0 ∨ ¬ rq &&& NBn.getD v 0 = NBn.getD v 0) → fn_X4_takeTag (nI i) s = fb_X4_takeTag_115 (nI i) (16 + 3 * i) (nI v) (tagW s i 10 v (32 * g)) := by
      intro q z
      rw [c_tag hi q (by omega) (by omega) (by rw [v2, if_neg (by omega)]) h0 hS.1 h.2.1.2.2.2.2.2 k12, if_neg z]
    have fl144 : ∀ (a c d : Bool), FU b t (fb_X12_absence_144 (fn_X12_absence_14 (fu2 + 1)) (nI n) a c d t) := by
      intro a c d
      unfold fb_X12_absence_144
      exact h.fl.uu fun t1 h1 => h1.ab152 hn
    by_cases q11 : v = 11
    · rw [ab_11 hn q11 h2 v3]
      rw [q11] at bad acc
      by_cases cg : g &&& 1 = 0
      · rw [if_pos (show t.F 1113 n = -1 from hS.2.2.1 cg)]
        unfold fb_X12_absence_152
        have hW : tagW s i 10 11 (32 * g) = wI s (16 + 3 * i) 5 (nI (32 * (g ||| 1))) := by
          unfold tagW
          rw [if_neg (by decide), if_neg (by decide), show TGn.getD 11 0 = 32 from rfl, hG16.1.1]
        have h5W : (wI s (16 + 3 * i) 5 (nI (32 * (g ||| 1)))).I 6 5 = nI (σ.length + 2) := by rw [wI_o (by omega)]; exact h5l
        have hA : fn_X4_takeTag (nI i) s = some (psh (wI s (16 + 3 * i) 5 (nI (32 * (g ||| 1)))) (σ.length + 2) 9 (nI (i)), 1) := by
          rw [acc (by decide) (show ¬ (TKn.getD 10 0 &&& TGn.getD 11 0 = 0 ∨ ¬ 32 * g &&& TGn.getD 11 0 = 0 ∨ ¬ rq &&& NBn.getD 11 0 = NBn.getD 11 0) by
            rintro (z | z | z)
            · revert z; decide
            · exact z (hG16.2.1.mpr cg)
            · exact z (Nat.and_zero rq)), hW]
          exact c115_11 h5W (by omega)
        rw [hA, Option.bind_some]
        have oC : out cnI cnF s (psh (wI s (16 + 3 * i) 5 (nI (32 * (g ||| 1)))) (σ.length + 2) 9 (nI (i))) := psh_o (out_I out_r (Or.inr ⟨by omega, by omega⟩)) (Or.inl rfl) (Or.inl rfl) (Or.inr (Or.inl rfl))
        have oT : out (tgI i) (tgF i) s (psh (wI s (16 + 3 * i) 5 (nI (32 * (g ||| 1)))) (σ.length + 2) 9 (nI (i))) := psh_o (out_I out_r (Or.inr (Or.inr (Or.inr ⟨rfl, by omega⟩)))) (Or.inl ⟨rfl, rfl⟩) (Or.inr (Or.inr (Or.inr (Or.inl rfl)))) (Or.inr (Or.inr (Or.inr (Or.inr (Or.inl rfl)))))
        refine RU.uu (G := fun s2 T2 t2 => ∃ b2 e2 : Nat, e ≤ b2 ∧ out lnI' lqF (psh (wI s (16 + 3 * i) 5 (nI (32 * (g ||| 1)))) (σ.length + 2) 9 (nI (i))) s2 ∧ out rnI (rqP bg) t t2 ∧ pj k fr x ts bg b2 e2 ((9, i) :: (8, i) :: (10, 12 * i + 5) :: σ) N M cn ob dp rq T2 s2 t2) (pj_go h (by rw [c1]; decide) hbe oC ol_r (pm.psh (a := 9) (c := i) (show pm ((8, i) :: (10, 12 * i + 5) :: σ) N cn ob rq (wI s (16 + 3 * i) 5 (nI (32 * (g ||| 1)))) from h.2.1.fr (fun f => wI_o (by omega)) (fun _ _ _ => rfl))) h.2.2.1 (by simp only [List.length_cons]; omega) (by simp only [List.length_cons]; omega) (k6.ps (by omega) (by omega) (fun z => by omega)) k7 k8 k9 k10 k11 k12 (fun s2 t2 b2 e2 q1 q2 q3 q4 => ⟨b2, e2, q1, q2, q3, q4⟩)) (fun p t2 h2 => ?_) ?_
        · have := h2.ab152 (n := fu2) (b2 := true) (b3 := false) (b5 := false) hn
          unfold fb_X12_absence_152 at this
          rw [h2.nx, Option.bind_some] at this
          exact this
        rintro s2 T2 t2 - - ⟨b2, e2, w1, w2, w3, w4⟩
        have qT : ol rLI (rtF n ts.length bg) rNo t t2 := rL_rt (rq_rL (j := ts.length) w3) (Nat.le_refl _) (Nat.le_refl _)
        have oS : out (tgI i) (tgF i) s s2 := out_t oT (ln_tg w2)
        have tF : ∀ r f : Nat, 1098 ≤ r → t2.F r f = t.F r f := fun r f hr => w3.2.2 _ _ (by unfold rqP; omega)
        have sF : ∀ r f : Nat, r = 17 + 3 * i ∨ r = 18 + 3 * i → s2.F r f = s.F r f := by
          intro r f hr
          rw [w2.2.2 _ _ (by unfold lqF; omega), psh_F (by omega) (by omega)]; rfl
        have s5 : s2.I (16 + 3 * i) 5 = nI (32 * (g ||| 1)) := by rw [w2.2.1 _ _ (by unfold lnI'; omega), psh_I (by omega), wI_e]
        have s10 : ∀ f : Nat, f ≠ 5 → s2.I (16 + 3 * i) f = s.I (16 + 3 * i) f := by
          intro f hf
          rw [w2.2.1 _ _ (by unfold lnI'; omega), psh_I (by omega), wI_o (by omega)]
        have hl2 := w4.1.l
        rw [if_pos rfl]
        have is3 : fn_X12_is 3 t2 = some (decide (s2.I 7 2 = nI 2)) := w4.is (c := 2) (by decide)
        rw [is3, Option.bind_some, pd_9 w4]
        by_cases cn2 : s2.I 7 2 = 2
        · rw [decide_eq_true (show s2.I 7 2 = nI 2 from cn2), if_pos rfl]
          obtain ⟨nbe, d, d1, d2, d3⟩ := w4.num cn2
          rw [c_nmb hi w4.2.1 cn2 (Or.inl (by rw [s10 0 (by omega), h0]; decide)), Option.bind_some, d2]
          unfold fb_X12_absence_176
          rw [p_1113 hn, Option.bind_some, d3]
          have hm2 : pm ((9, i) :: (8, i) :: (10, 12 * i + 5) :: σ) N cn ob rq (wI s2 (16 + 3 * i) 10 (nI d)) := w4.2.1.fr (fun f => wI_o (by omega)) (fun _ _ _ => rfl)
          obtain ⟨kk1, kk2, kk3, kk4, kk5, kk6, kk7, kk8, kk9, kk10, kk11, kk12, kk13⟩ := w4.2.2.2
          simp only [List.length_cons] at kk5
          refine RU.uu (G := fun s3 T3 t3 => ∃ b3 e3 : Nat, e2 ≤ b3 ∧ out lnI' lqF (wI (wI s2 (16 + 3 * i) 10 (nI d)) 6 5 (nI ((8, i) :: (10, 12 * i + 5) :: σ).length)) s3 ∧ out rnI (rqP bg) (wF t2 1113 n (nI d)) t3 ∧ pj k fr x ts bg b3 e3 ((8, i) :: (10, 12 * i + 5) :: σ) N M cn ob dp rq T3 s3 t3) (pj_go w4 (by rw [cn2]; decide) nbe (out_I (out_I out_r (Or.inr ⟨by omega, by omega⟩)) (Or.inl rfl)) (ol_F ol_r (Or.inr ⟨by omega, by omega⟩)) hm2.pop (w4.2.2.1.wF (by omega)) (by simp only [List.length_cons]; omega) (by simp only [List.length_cons]; omega) kk6.tl kk7 kk8 kk9 kk10 kk11 kk12 (fun s2 t2 b2 e2 q1 q2 q3 q4 => ⟨b2, e2, q1, q2, q3, q4⟩)) (fun p t3 h3 => h3.ab hn) ?_
          rintro s3 T3 t3 - - ⟨b3, e3, y1, y2, y3, y4⟩
          have sI3 : ∀ f : Nat, f ≠ 10 → s3.I (16 + 3 * i) f = s2.I (16 + 3 * i) f := by
            intro f hf
            rw [y2.2.1 _ _ (by unfold lnI'; omega), wI_o (by omega), wI_o (by omega)]
          have sF3 : ∀ r f : Nat, r = 17 + 3 * i ∨ r = 18 + 3 * i → s3.F r f = s.F r f := by
            intro r f hr
            rw [y2.2.2 _ _ (by unfold lqF; omega)]; exact sF r f hr
          have tF3 : ∀ r : Nat, 1098 ≤ r → r ≠ 1113 → t3.F r n = t.F r n := by
            intro r h1 h2
            rw [y3.2.2 _ _ (by unfold rqP; omega), wF_o (by omega)]; exact tF r n h1
          have nS : vcS i n (g ||| 2 ^ 0) u (ts ++ []).length s3 t3 := by
            rw [List.append_nil]
            refine hS.fr (Nat.le_refl _) (by decide) ((sI3 5 (by omega)).trans s5) (fun z => absurd rfl z) (fun _ => ⟨sF3 _ _ (Or.inl rfl), sF3 _ _ (Or.inr rfl), tF3 _ (by omega) (by omega)⟩) (fun _ => ⟨sF3 _ _ (Or.inl rfl), sF3 _ _ (Or.inr rfl), tF3 _ (by omega) (by omega), tF3 _ (by omega) (by omega)⟩) (fun _ => ⟨sF3 _ _ (Or.inl rfl), sF3 _ _ (Or.inr rfl), tF3 _ (by omega) (by omega)⟩) (fun _ => ⟨d, d1, ?_, ?_⟩) (fun z => by cases z) (fun z => by cases z) (fun z => by cases z)
            · rw [y2.2.1 _ _ (by unfold lnI'; omega), wI_o (by omega), wI_e]
            · rw [y3.2.2 _ _ (by unfold rqP; omega), wF_e]
          rw [← List.append_nil ts] at y4
          exact cont [] bg b3 e3 T3 (g ||| 2 ^ 0) s3 t3 (by omega) (Nat.le_refl _) y4 nS (out_t oS (out_t (out_I (out_I out_r (Or.inr (Or.inr (Or.inr ⟨rfl, by omega⟩)))) (Or.inl ⟨rfl, rfl⟩)) (ln_tg y2))) (by rw [sI3 11 (by omega), s10 11 (by omega)]; exact hf11) (ol_t (ol_F qT (Or.inr ⟨by omega, rfl⟩)) (rL_rt (rq_rL (j := ts.length) y3) (Nat.le_refl _) (Nat.le_refl _)))
        · rw [decide_eq_false (show ¬ s2.I 7 2 = nI 2 from cn2), if_neg (show ¬ false = true by decide), c_nmbN hi (Or.inl cn2), Option.bind_some]
          exact w4.RU out_r (w4.fl.uu fun t3 h3 => h3.ab176 hn)
      · obtain ⟨d, d1, d2, d3⟩ := hS.2.2.2.1 cg
        rw [d3, if_neg (nI_nm (by omega))]
        exact bad _ (Or.inr (Or.inr (Or.inl (fun z => cg (hG16.2.1.mp z))))) (fl144 _ _ _)
    by_cases q12 : v = 12
    · rw [ab_12 hn q12 h2 v3]
      rw [q12] at bad acc
      by_cases cg : g &&& 2 = 0
      · rw [if_pos ((hS.2.2.2.2.1 cg).1)]
        unfold fb_X12_absence_152
        have hW : tagW s i 10 12 (32 * g) = wI s (16 + 3 * i) 5 (nI (32 * (g ||| 2))) := by
          unfold tagW
          rw [if_neg (by decide), if_neg (by decide), show TGn.getD 12 0 = 64 from rfl, hG16.1.2.1]
        have h5W : (wI s (16 + 3 * i) 5 (nI (32 * (g ||| 2)))).I 6 5 = nI (σ.length + 2) := by rw [wI_o (by omega)]; exact h5l
        have hA : fn_X4_takeTag (nI i) s = some (psh (wI s (16 + 3 * i) 5 (nI (32 * (g ||| 2)))) (σ.length + 2) 10 (nI (12 * i + 6)), 1) := by
          rw [acc (by decide) (show ¬ (TKn.getD 10 0 &&& TGn.getD 12 0 = 0 ∨ ¬ 32 * g &&& TGn.getD 12 0 = 0 ∨ ¬ rq &&& NBn.getD 12 0 = NBn.getD 12 0) by
            rintro (z | z | z)
            · revert z; decide
            · exact z (hG16.2.2.1.mpr cg)
            · exact z (Nat.and_zero rq)), hW]
          exact c115_12 h5W (by omega)
        rw [hA, Option.bind_some]
        have oC : out cnI cnF s (psh (wI s (16 + 3 * i) 5 (nI (32 * (g ||| 2)))) (σ.length + 2) 10 (nI (12 * i + 6))) := psh_o (out_I out_r (Or.inr ⟨by omega, by omega⟩)) (Or.inl rfl) (Or.inl rfl) (Or.inr (Or.inl rfl))
        have oT : out (tgI i) (tgF i) s (psh (wI s (16 + 3 * i) 5 (nI (32 * (g ||| 2)))) (σ.length + 2) 10 (nI (12 * i + 6))) := psh_o (out_I out_r (Or.inr (Or.inr (Or.inr ⟨rfl, by omega⟩)))) (Or.inl ⟨rfl, rfl⟩) (Or.inr (Or.inr (Or.inr (Or.inl rfl)))) (Or.inr (Or.inr (Or.inr (Or.inr (Or.inl rfl)))))
        refine RU.uu (G := fun s2 T2 t2 => ∃ b2 e2 : Nat, e ≤ b2 ∧ out lnI' lqF (psh (wI s (16 + 3 * i) 5 (nI (32 * (g ||| 2)))) (σ.length + 2) 10 (nI (12 * i + 6))) s2 ∧ out rnI (rqP bg) t t2 ∧ pj k fr x ts bg b2 e2 ((10, 12 * i + 6) :: (8, i) :: (10, 12 * i + 5) :: σ) N M cn ob dp rq T2 s2 t2) (pj_go h (by rw [c1]; decide) hbe oC ol_r (pm.psh (a := 10) (c := 12 * i + 6) (show pm ((8, i) :: (10, 12 * i + 5) :: σ) N cn ob rq (wI s (16 + 3 * i) 5 (nI (32 * (g ||| 2)))) from h.2.1.fr (fun f => wI_o (by omega)) (fun _ _ _ => rfl))) h.2.2.1 (by simp only [List.length_cons]; omega) (by simp only [List.length_cons]; omega) (k6.ps (by omega) (by omega) (fun z => by omega)) k7 k8 k9 k10 k11 k12 (fun s2 t2 b2 e2 q1 q2 q3 q4 => ⟨b2, e2, q1, q2, q3, q4⟩)) (fun p t2 h2 => ?_) ?_
        · have := h2.ab152 (n := fu2) (b2 := false) (b3 := true) (b5 := false) hn
          unfold fb_X12_absence_152 at this
          rw [h2.nx, Option.bind_some] at this
          exact this
        rintro s2 T2 t2 - - ⟨b2, e2, w1, w2, w3, w4⟩
        have qT : ol rLI (rtF n ts.length bg) rNo t t2 := rL_rt (rq_rL (j := ts.length) w3) (Nat.le_refl _) (Nat.le_refl _)
        have oS : out (tgI i) (tgF i) s s2 := out_t oT (ln_tg w2)
        have tF : ∀ r f : Nat, 1098 ≤ r → t2.F r f = t.F r f := fun r f hr => w3.2.2 _ _ (by unfold rqP; omega)
        have sF : ∀ r f : Nat, r = 17 + 3 * i ∨ r = 18 + 3 * i → s2.F r f = s.F r f := by
          intro r f hr
          rw [w2.2.2 _ _ (by unfold lqF; omega), psh_F (by omega) (by omega)]; rfl
        have s5 : s2.I (16 + 3 * i) 5 = nI (32 * (g ||| 2)) := by rw [w2.2.1 _ _ (by unfold lnI'; omega), psh_I (by omega), wI_e]
        have s10 : ∀ f : Nat, f ≠ 5 → s2.I (16 + 3 * i) f = s.I (16 + 3 * i) f := by
          intro f hf
          rw [w2.2.1 _ _ (by unfold lnI'; omega), psh_I (by omega), wI_o (by omega)]
        have hl2 := w4.1.l
        rw [if_neg (show ¬ false = true by decide), if_pos rfl]
        have am : s2.F (18 + 3 * i) 6 = nI 0 := (sF _ _ (Or.inr rfl)).trans ((hS.2.2.2.2.1 cg).2)
        have h4 : fn_X12_is 4 t2 = some (decide (s2.I 7 2 = nI 3)) := w4.is (c := 3) (by decide)
        have ch0 : chk (nI 0) t2 = some t2 := by
          unfold chk
          rw [h4, Option.bind_some, if_neg (show ¬ nI 0 = 10 by decide), ite_self]
        have hp := p_str w4 hi (l := 6) (Or.inr (Or.inr (Or.inr (Or.inr (Or.inl rfl))))) am (by omega) ((s10 11 (by omega)).trans hf11) (by decide)
        rw [ch0, Option.bind_some, ← pd_10 w4] at hp
        refine RV.vu hp (fun p t3 v hv h3 => (h3.p1114 hn).uu fun t4 h4 => h4.ab hn) ?_
        rintro s3 T3 t3 v3' - - ⟨z1, -, str, b3, e3, y1, y2, y3, y4, y5, y6, y7, y8⟩
        show RU x s3 t3 _ ((iput 20 t3 1114 (nI n) (nI v3')).bind _) _
        rw [p_1114 hn, Option.bind_some, z1]
        have y2' := y2.wF (r := 1114) (n := n) (v := nI ts.length) (by omega)
        have sI3 : ∀ f : Nat, s3.I (16 + 3 * i) f = s2.I (16 + 3 * i) f := by
          intro f
          exact y3.2.1 _ _ (by unfold cLI; omega)
        have sF3 : ∀ r f : Nat, r = 17 + 3 * i ∨ r = 18 + 3 * i → f ≠ 6 → s3.F r f = s.F r f := by
          intro r f hr hf
          rw [y3.2.2 _ _ (by unfold cLF; omega)]; exact sF r f hr
        have tF3 : ∀ r : Nat, 1098 ≤ r ∧ r ≤ 1115 → r ≠ 1114 → (wF t3 1114 n (nI ts.length)).F r n = t.F r n := by
          intro r h1 h2
          rw [wF_o (by omega), y4.2.2.1 _ _ (by unfold rLF; omega)]; exact tF r n h1.1
        have nS : vcS i n (g ||| 2 ^ 1) u (ts ++ [str]).length s3 (wF t3 1114 n (nI ts.length)) := by
          refine hS.fr (by rw [List.length_append]; omega) (by decide) ((sI3 5).trans s5) (fun _ => ⟨(sI3 10).trans (s10 10 (by omega)), tF3 _ (by omega) (by omega)⟩) (fun z => absurd rfl z) (fun _ => ⟨sF3 _ _ (Or.inl rfl) (by omega), sF3 _ _ (Or.inr rfl) (by omega), tF3 _ (by omega) (by omega), tF3 _ (by omega) (by omega)⟩) (fun _ => ⟨sF3 _ _ (Or.inl rfl) (by omega), sF3 _ _ (Or.inr rfl) (by omega), tF3 _ (by omega) (by omega)⟩) (fun z => by cases z) (fun _ => ⟨ts.length, hu, by rw [List.length_append]; show _ < _ + 1; omega, ?_, ?_⟩) (fun z => by cases z) (fun z => by cases z)
          · rw [y6, if_pos rfl]
          · rw [wF_e]
        exact (cont [str] (bg + str.length) b3 e3 T3 (g ||| 2 ^ 1) s3 _ (by omega) (by omega) y2' nS (out_t oS (cL_tg (by omega) y3)) (by rw [sI3 11, s10 11 (by omega)]; exact hf11) (ol_F (ol_t qT (rL_rt y4 (Nat.le_refl _) (Nat.le_refl _))) (Or.inr ⟨by omega, rfl⟩))).pre out_r (ol_F ol_r (by unfold rdF; omega))
      · obtain ⟨d, d0, d1, d2, d3⟩ := hS.2.2.2.2.2.1 cg
        rw [d3, if_neg (nI_nm (by omega))]
        exact bad _ (Or.inr (Or.inr (Or.inl (fun z => cg (hG16.2.2.1.mp z))))) (fl144 _ _ _)
    by_cases q13 : v = 13
    · rw [ab_13 hn q13 h2 v3]
      rw [q13] at bad acc
      by_cases cg : g &&& 4 = 0
      · rw [if_pos ((hS.2.2.2.2.2.2.1 cg).1)]
        unfold fb_X12_absence_152
        have hW : tagW s i 10 13 (32 * g) = wI s (16 + 3 * i) 5 (nI (32 * (g ||| 4))) := by
          unfold tagW
          rw [if_neg (by decide), if_neg (by decide), show TGn.getD 13 0 = 128 from rfl, hG16.1.2.2.1]
        have h5W : (wI s (16 + 3 * i) 5 (nI (32 * (g ||| 4)))).I 6 5 = nI (σ.length + 2) := by rw [wI_o (by omega)]; exact h5l
        have hA : fn_X4_takeTag (nI i) s = some (psh (wI s (16 + 3 * i) 5 (nI (32 * (g ||| 4)))) (σ.length + 2) 11 (nI (12 * i + 8)), 1) := by
          rw [acc (by decide) (show ¬ (TKn.getD 10 0 &&& TGn.getD 13 0 = 0 ∨ ¬ 32 * g &&& TGn.getD 13 0 = 0 ∨ ¬ rq &&& NBn.getD 13 0 = NBn.getD 13 0) by
            rintro (z | z | z)
            · revert z; decide
            · exact z (hG16.2.2.2.1.mpr cg)
            · exact z (Nat.and_zero rq)), hW]
          exact c115_13 h5W (by omega)
        rw [hA, Option.bind_some]
        have oC : out cnI cnF s (psh (wI s (16 + 3 * i) 5 (nI (32 * (g ||| 4)))) (σ.length + 2) 11 (nI (12 * i + 8))) := psh_o (out_I out_r (Or.inr ⟨by omega, by omega⟩)) (Or.inl rfl) (Or.inl rfl) (Or.inr (Or.inl rfl))
        have oT : out (tgI i) (tgF i) s (psh (wI s (16 + 3 * i) 5 (nI (32 * (g ||| 4)))) (σ.length + 2) 11 (nI (12 * i + 8))) := psh_o (out_I out_r (Or.inr (Or.inr (Or.inr ⟨rfl, by omega⟩)))) (Or.inl ⟨rfl, rfl⟩) (Or.inr (Or.inr (Or.inr (Or.inl rfl)))) (Or.inr (Or.inr (Or.inr (Or.inr (Or.inl rfl)))))
        refine RU.uu (G := fun s2 T2 t2 => ∃ b2 e2 : Nat, e ≤ b2 ∧ out lnI' lqF (psh (wI s (16 + 3 * i) 5 (nI (32 * (g ||| 4)))) (σ.length + 2) 11 (nI (12 * i + 8))) s2 ∧ out rnI (rqP bg) t t2 ∧ pj k fr x ts bg b2 e2 ((11, 12 * i + 8) :: (8, i) :: (10, 12 * i + 5) :: σ) N M cn ob dp rq T2 s2 t2) (pj_go h (by rw [c1]; decide) hbe oC ol_r (pm.psh (a := 11) (c := 12 * i + 8) (show pm ((8, i) :: (10, 12 * i + 5) :: σ) N cn ob rq (wI s (16 + 3 * i) 5 (nI (32 * (g ||| 4)))) from h.2.1.fr (fun f => wI_o (by omega)) (fun _ _ _ => rfl))) h.2.2.1 (by simp only [List.length_cons]; omega) (by simp only [List.length_cons]; omega) (k6.ps (by omega) (by omega) (fun z => by omega)) k7 k8 k9 k10 k11 k12 (fun s2 t2 b2 e2 q1 q2 q3 q4 => ⟨b2, e2, q1, q2, q3, q4⟩)) (fun p t2 h2 => ?_) ?_
        · have := h2.ab152 (n := fu2) (b2 := false) (b3 := false) (b5 := false) hn
          unfold fb_X12_absence_152 at this
          rw [h2.nx, Option.bind_some] at this
          exact this
        rintro s2 T2 t2 - - ⟨b2, e2, w1, w2, w3, w4⟩
        have qT : ol rLI (rtF n ts.length bg) rNo t t2 := rL_rt (rq_rL (j := ts.length) w3) (Nat.le_refl _) (Nat.le_refl _)
        have oS : out (tgI i) (tgF i) s s2 := out_t oT (ln_tg w2)
        have tF : ∀ r f : Nat, 1098 ≤ r → t2.F r f = t.F r f := fun r f hr => w3.2.2 _ _ (by unfold rqP; omega)
        have sF : ∀ r f : Nat, r = 17 + 3 * i ∨ r = 18 + 3 * i → s2.F r f = s.F r f := by
          intro r f hr
          rw [w2.2.2 _ _ (by unfold lqF; omega), psh_F (by omega) (by omega)]; rfl
        have s5 : s2.I (16 + 3 * i) 5 = nI (32 * (g ||| 4)) := by rw [w2.2.1 _ _ (by unfold lnI'; omega), psh_I (by omega), wI_e]
        have s10 : ∀ f : Nat, f ≠ 5 → s2.I (16 + 3 * i) f = s.I (16 + 3 * i) f := by
          intro f hf
          rw [w2.2.1 _ _ (by unfold lnI'; omega), psh_I (by omega), wI_o (by omega)]
        have hl2 := w4.1.l
        rw [if_neg (show ¬ false = true by decide), if_neg (show ¬ false = true by decide), if_neg (show ¬ false = true by decide), p_1104 hn, Option.bind_some]
        have am : s2.F (18 + 3 * i) 8 = nI 0 := (sF _ _ (Or.inr rfl)).trans (hS.2.2.2.2.2.2.1 cg).2.2
        have r61 : t2.I 1079 61 = nI ts.length := w4.2.2.1.2.2.2.2.2.1
        have w5 := w4.wF (r := 1104) (n := n) (v := t2.I 1079 61) (by omega)
        have pl := p_list w5 hi (l := 8) (Or.inr (Or.inr (Or.inr (Or.inr (Or.inr (Or.inr rfl)))))) (by simp only [List.length_cons]; omega) am ((s10 11 (by omega)).trans hf11) (by decide)
        refine RU.pre (t := wF t2 1104 n (t2.I 1079 61)) (RV.vu pl (fun p t3 v hv h3 => (h3.p1105 hn).uu fun t4 h4 => h4.ab hn) ?_) out_r (ol_F ol_r (by unfold rdF; omega))
        rintro s3 T3 t3 v3' - - ⟨news, b3, e3, bg3, d1, d2, d3, d4, d5, d6, d7, d8, d9, d10, d11, d12⟩
        show RU x s3 t3 _ ((iput 20 t3 1105 (nI n) (nI v3')).bind _) _
        rw [p_1105 hn, Option.bind_some]
        have d6' := d6.wF (r := 1105) (n := n) (v := nI v3') (by omega)
        have sI3 : ∀ f : Nat, s3.I (16 + 3 * i) f = s2.I (16 + 3 * i) f := by
          intro f
          exact d7.2.1 _ _ (by unfold cLI; omega)
        have sF3 : ∀ r f : Nat, r = 17 + 3 * i ∨ r = 18 + 3 * i → f ≠ 8 → s3.F r f = s.F r f := by
          intro r f hr hf
          rw [d7.2.2 _ _ (by unfold cLF; omega)]; exact sF r f hr
        have tF3 : ∀ r : Nat, 1098 ≤ r ∧ r ≤ 1115 → r ≠ 1104 → r ≠ 1105 → (wF t3 1105 n (nI v3')).F r n = t.F r n := by
          intro r h1 h2 h3
          rw [wF_o (by omega), d8.2.2.1 _ _ (by unfold rLF; omega), wF_o (by omega)]; exact tF r n h1.1
        have nS : vcS i n (g ||| 2 ^ 2) u (ts ++ news).length s3 (wF t3 1105 n (nI v3')) := by
          refine hS.fr (by rw [List.length_append]; omega) (by decide) ((sI3 5).trans s5) (fun _ => ⟨(sI3 10).trans (s10 10 (by omega)), tF3 _ (by omega) (by omega) (by omega)⟩) (fun _ => ⟨sF3 _ _ (Or.inl rfl) (by omega), sF3 _ _ (Or.inr rfl) (by omega), tF3 _ (by omega) (by omega) (by omega)⟩) (fun z => absurd rfl z) (fun _ => ⟨sF3 _ _ (Or.inl rfl) (by omega), sF3 _ _ (Or.inr rfl) (by omega), tF3 _ (by omega) (by omega) (by omega)⟩) (fun z => by cases z) (fun z => by cases z) (fun _ => ⟨ts.length, news.length, d2, by omega, hu, by rw [List.length_append]; omega, ?_, ?_, ?_, ?_⟩) (fun z => by cases z)
          · rw [d10, if_pos rfl]
          · rw [d9, d1, Nat.zero_add]
          · rw [wF_o (by omega), d8.2.2.1 _ _ (by unfold rLF; omega), wF_e, r61]
          · rw [wF_e, d1, Nat.zero_add]
        exact (cont news bg3 b3 e3 T3 (g ||| 2 ^ 2) s3 _ (by omega) d4 d6' nS (out_t oS (cL_tg (by omega) d7)) (by rw [sI3 11, s10 11 (by omega)]; exact hf11) (ol_F (ol_t (ol_F qT (Or.inr ⟨by omega, rfl⟩)) (rL_rt d8 (Nat.le_refl _) (Nat.le_refl _))) (Or.inr ⟨by omega, rfl⟩))).pre out_r (ol_F ol_r (by unfold rdF; omega))
      · obtain ⟨d, d', d1, d2, d0, d3, d4, d5, d6, d7⟩ := hS.2.2.2.2.2.2.2.1 cg
        rw [d6, if_neg (nI_nm (by omega))]
        exact bad _ (Or.inr (Or.inr (Or.inl (fun z => cg (hG16.2.2.2.1.mp z))))) (fl144 _ _ _)
    by_cases q14 : v = 14
    · rw [ab_14 hn q14 h2 v3]
      rw [q14] at bad acc
      by_cases cg : g &&& 8 = 0
      · rw [if_pos ((hS.2.2.2.2.2.2.2.2.1 cg).1)]
        unfold fb_X12_absence_152
        have hW : tagW s i 10 14 (32 * g) = wI s (16 + 3 * i) 5 (nI (32 * (g ||| 8))) := by
          unfold tagW
          rw [if_neg (by decide), if_neg (by decide), show TGn.getD 14 0 = 256 from rfl, hG16.1.2.2.2]
        have h5W : (wI s (16 + 3 * i) 5 (nI (32 * (g ||| 8)))).I 6 5 = nI (σ.length + 2) := by rw [wI_o (by omega)]; exact h5l
        have hA : fn_X4_takeTag (nI i) s = some (psh (wI s (16 + 3 * i) 5 (nI (32 * (g ||| 8)))) (σ.length + 2) 10 (nI (12 * i + 7)), 1) := by
          rw [acc (by decide) (show ¬ (TKn.getD 10 0 &&& TGn.getD 14 0 = 0 ∨ ¬ 32 * g &&& TGn.getD 14 0 = 0 ∨ ¬ rq &&& NBn.getD 14 0 = NBn.getD 14 0) by
            rintro (z | z | z)
            · revert z; decide
            · exact z (hG16.2.2.2.2.mpr cg)
            · exact z (Nat.and_zero rq)), hW]
          exact c115_14 h5W (by omega)
        rw [hA, Option.bind_some]
        have oC : out cnI cnF s (psh (wI s (16 + 3 * i) 5 (nI (32 * (g ||| 8)))) (σ.length + 2) 10 (nI (12 * i + 7))) := psh_o (out_I out_r (Or.inr ⟨by omega, by omega⟩)) (Or.inl rfl) (Or.inl rfl) (Or.inr (Or.inl rfl))
        have oT : out (tgI i) (tgF i) s (psh (wI s (16 + 3 * i) 5 (nI (32 * (g ||| 8)))) (σ.length + 2) 10 (nI (12 * i + 7))) := psh_o (out_I out_r (Or.inr (Or.inr (Or.inr ⟨rfl, by omega⟩)))) (Or.inl ⟨rfl, rfl⟩) (Or.inr (Or.inr (Or.inr (Or.inl rfl)))) (Or.inr (Or.inr (Or.inr (Or.inr (Or.inl rfl)))))
        refine RU.uu (G := fun s2 T2 t2 => ∃ b2 e2 : Nat, e ≤ b2 ∧ out lnI' lqF (psh (wI s (16 + 3 * i) 5 (nI (32 * (g ||| 8)))) (σ.length + 2) 10 (nI (12 * i + 7))) s2 ∧ out rnI (rqP bg) t t2 ∧ pj k fr x ts bg b2 e2 ((10, 12 * i + 7) :: (8, i) :: (10, 12 * i + 5) :: σ) N M cn ob dp rq T2 s2 t2) (pj_go h (by rw [c1]; decide) hbe oC ol_r (pm.psh (a := 10) (c := 12 * i + 7) (show pm ((8, i) :: (10, 12 * i + 5) :: σ) N cn ob rq (wI s (16 + 3 * i) 5 (nI (32 * (g ||| 8)))) from h.2.1.fr (fun f => wI_o (by omega)) (fun _ _ _ => rfl))) h.2.2.1 (by simp only [List.length_cons]; omega) (by simp only [List.length_cons]; omega) (k6.ps (by omega) (by omega) (fun z => by omega)) k7 k8 k9 k10 k11 k12 (fun s2 t2 b2 e2 q1 q2 q3 q4 => ⟨b2, e2, q1, q2, q3, q4⟩)) (fun p t2 h2 => ?_) ?_
        · have := h2.ab152 (n := fu2) (b2 := false) (b3 := false) (b5 := true) hn
          unfold fb_X12_absence_152 at this
          rw [h2.nx, Option.bind_some] at this
          exact this
        rintro s2 T2 t2 - - ⟨b2, e2, w1, w2, w3, w4⟩
        have qT : ol rLI (rtF n ts.length bg) rNo t t2 := rL_rt (rq_rL (j := ts.length) w3) (Nat.le_refl _) (Nat.le_refl _)
        have oS : out (tgI i) (tgF i) s s2 := out_t oT (ln_tg w2)
        have tF : ∀ r f : Nat, 1098 ≤ r → t2.F r f = t.F r f := fun r f hr => w3.2.2 _ _ (by unfold rqP; omega)
        have sF : ∀ r f : Nat, r = 17 + 3 * i ∨ r = 18 + 3 * i → s2.F r f = s.F r f := by
          intro r f hr
          rw [w2.2.2 _ _ (by unfold lqF; omega), psh_F (by omega) (by omega)]; rfl
        have s5 : s2.I (16 + 3 * i) 5 = nI (32 * (g ||| 8)) := by rw [w2.2.1 _ _ (by unfold lnI'; omega), psh_I (by omega), wI_e]
        have s10 : ∀ f : Nat, f ≠ 5 → s2.I (16 + 3 * i) f = s.I (16 + 3 * i) f := by
          intro f hf
          rw [w2.2.1 _ _ (by unfold lnI'; omega), psh_I (by omega), wI_o (by omega)]
        have hl2 := w4.1.l
        rw [if_neg (show ¬ false = true by decide), if_neg (show ¬ false = true by decide), if_pos rfl]
        have am : s2.F (18 + 3 * i) 7 = nI 0 := (sF _ _ (Or.inr rfl)).trans ((hS.2.2.2.2.2.2.2.2.1 cg).2)
        have h4 : fn_X12_is 4 t2 = some (decide (s2.I 7 2 = nI 3)) := w4.is (c := 3) (by decide)
        have ch0 : chk (nI 0) t2 = some t2 := by
          unfold chk
          rw [h4, Option.bind_some, if_neg (show ¬ nI 0 = 10 by decide), ite_self]
        have hp := p_str w4 hi (l := 7) (Or.inr (Or.inr (Or.inr (Or.inr (Or.inr (Or.inl rfl)))))) am (by omega) ((s10 11 (by omega)).trans hf11) (by decide)
        rw [ch0, Option.bind_some, ← pd_10 w4] at hp
        refine RV.vu hp (fun p t3 v hv h3 => (h3.p1115 hn).uu fun t4 h4 => h4.ab hn) ?_
        rintro s3 T3 t3 v3' - - ⟨z1, -, str, b3, e3, y1, y2, y3, y4, y5, y6, y7, y8⟩
        show RU x s3 t3 _ ((iput 20 t3 1115 (nI n) (nI v3')).bind _) _
        rw [p_1115 hn, Option.bind_some, z1]
        have y2' := y2.wF (r := 1115) (n := n) (v := nI ts.length) (by omega)
        have sI3 : ∀ f : Nat, s3.I (16 + 3 * i) f = s2.I (16 + 3 * i) f := by
          intro f
          exact y3.2.1 _ _ (by unfold cLI; omega)
        have sF3 : ∀ r f : Nat, r = 17 + 3 * i ∨ r = 18 + 3 * i → f ≠ 7 → s3.F r f = s.F r f := by
          intro r f hr hf
          rw [y3.2.2 _ _ (by unfold cLF; omega)]; exact sF r f hr
        have tF3 : ∀ r : Nat, 1098 ≤ r ∧ r ≤ 1115 → r ≠ 1115 → (wF t3 1115 n (nI ts.length)).F r n = t.F r n := by
          intro r h1 h2
          rw [wF_o (by omega), y4.2.2.1 _ _ (by unfold rLF; omega)]; exact tF r n h1.1
        have nS : vcS i n (g ||| 2 ^ 3) u (ts ++ [str]).length s3 (wF t3 1115 n (nI ts.length)) := by
          refine hS.fr (by rw [List.length_append]; omega) (by decide) ((sI3 5).trans s5) (fun _ => ⟨(sI3 10).trans (s10 10 (by omega)), tF3 _ (by omega) (by omega)⟩) (fun _ => ⟨sF3 _ _ (Or.inl rfl) (by omega), sF3 _ _ (Or.inr rfl) (by omega), tF3 _ (by omega) (by omega)⟩) (fun _ => ⟨sF3 _ _ (Or.inl rfl) (by omega), sF3 _ _ (Or.inr rfl) (by omega), tF3 _ (by omega) (by omega), tF3 _ (by omega) (by omega)⟩) (fun z => absurd rfl z) (fun z => by cases z) (fun z => by cases z) (fun z => by cases z) (fun _ => ⟨ts.length, hu, by rw [List.length_append]; show _ < _ + 1; omega, ?_, ?_⟩)
          · rw [y6, if_pos rfl]
          · rw [wF_e]
        exact (cont [str] (bg + str.length) b3 e3 T3 (g ||| 2 ^ 3) s3 _ (by omega) (by omega) y2' nS (out_t oS (cL_tg (by omega) y3)) (by rw [sI3 11, s10 11 (by omega)]; exact hf11) (ol_F (ol_t qT (rL_rt y4 (Nat.le_refl _) (Nat.le_refl _))) (Or.inr ⟨by omega, rfl⟩))).pre out_r (ol_F ol_r (by unfold rdF; omega))
      · obtain ⟨d, d0, d1, d2, d3⟩ := hS.2.2.2.2.2.2.2.2.2 cg
        rw [d3, if_neg (nI_nm (by omega))]
        exact bad _ (Or.inr (Or.inr (Or.inl (fun z => cg (hG16.2.2.2.2.mp z))))) (fl144 _ _ _)
    rw [ab_99 hn (show v ≠ 11 ∧ v ≠ 12 ∧ v ≠ 13 ∧ v ≠ 14 from ⟨q11, q12, q13, q14⟩) h2 v3]
    refine bad _ ?_ (fl144 _ _ _)
    by_cases q : v = 17
    · exact Or.inl q
    · right; left
      have key : ∀ a : Fin 17, a.1 ≠ 11 → a.1 ≠ 12 → a.1 ≠ 13 → a.1 ≠ 14 → TKn.getD 10 0 &&& TGn.getD a.1 0 = 0 := by decide
      exact key ⟨v, by omega⟩ q11 q12 q13 q14
  · rw [decide_eq_false (show ¬ s.I 7 2 = nI 1 from c1)] at h2
    unfold fb_X12_absence_14
    rw [if_neg c1, h2, Option.bind_some, if_neg (show ¬ false = true by decide), c_pop h.2.1, Option.bind_some]
    show RU x s t (fn_X4_parse_13 (999999 - T) 2 (nI T + 1) (wI s 6 5 (nI ((10, 12 * i + 5) :: σ).length))) _ _
    rw [K_pass hb.2.1]
    have hp := h.pop
    have h4 : fn_X12_is 4 t = some (decide ((wI s 6 5 (nI ((10, 12 * i + 5) :: σ).length)).I 7 2 = nI 3)) := hp.is (c := 3) (by decide)
    have ch0 : chk (nI 0) t = some t := by
      unfold chk
      rw [h4, Option.bind_some, if_neg (show ¬ nI 0 = 10 by decide), ite_self]
    have pp := p_str hp hi (l := 5) (Or.inr (Or.inr (Or.inr (Or.inl rfl)))) hr5 (by omega) ((wI_o (by omega)).trans hf11) (by decide)
    rw [ch0, Option.bind_some, ← pd_10 hp] at pp
    refine RU.pre (s := wI s 6 5 (nI ((10, 12 * i + 5) :: σ).length)) (RV.vu pp (fun p t3 v hv h3 => (h3.p1102 hn).uu fun t4 h4 => h4.U) ?_) (out_I out_r ⟨by omega, by omega⟩) ol_r
    rintro s3 T3 t3 v3' - - ⟨z1, -, str, b3, e3, y1, y2, y3, y4, y5, y6, y7, y8⟩
    show RU x s3 t3 _ ((iput 20 t3 1102 (nI n) (nI v3')).bind _) _
    rw [p_1102 hn, Option.bind_some, z1]
    refine Or.inr ⟨T3, s3, _, rfl, rfl, out_r, ol_F ol_r (by unfold rdF; omega), [str], bg + str.length, b3, e3, g, by omega, by omega, y2.wF (by omega), ?_, ⟨ts.length, hu, by rw [List.length_append]; show _ < _ + 1; omega, ?_, wF_e _ _ _ _⟩, out_t (out_I out_r (Or.inl ⟨rfl, rfl⟩)) (cL_nd y3), ol_F (rL_nr y4 (Nat.le_refl _) (Nat.le_refl _)) (Or.inr (Or.inl ⟨by omega, rfl⟩))⟩
    · refine (hS.len (by rw [List.length_append]; omega)).same ?_ ?_ ?_ ?_
      · rw [y3.2.1 _ _ (by unfold cLI; omega), wI_o (by omega)]
      · rw [y3.2.1 _ _ (by unfold cLI; omega), wI_o (by omega)]
      · intro r f hr hf
        rw [y3.2.2 _ _ (by unfold cLF; omega)]; rfl
      · intro r hr
        rw [wF_o (by omega), y4.2.2.1 _ _ (by unfold rLF; omega)]
    · rw [y6, if_pos rfl]
