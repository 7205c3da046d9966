/-! commands of a session: what they keep and what they may change -/
def ol (PI PF PL : Nat → Nat → Prop) (s s1 : uS) : Prop := (s1.c = s.c ∧ s1.R = s.R ∧ s1.P = s.P ∧ s1.n = s.n ∧ s1.m = s.m) ∧ (∀ k f : Nat, ¬ PI k f → s1.I k f = s.I k f) ∧ (∀ k f : Nat, ¬ PF k f → s1.F k f = s.F k f) ∧ ∀ k f : Nat, ¬ PL k f → s1.L k f = s.L k f
theorem ol_r {PI PF PL : Nat → Nat → Prop} {s : uS} : ol PI PF PL s s := ⟨⟨rfl, rfl, rfl, rfl, rfl⟩, fun _ _ _ => rfl, fun _ _ _ => rfl, fun _ _ _ => rfl⟩
theorem ol_t {PI PF PL : Nat → Nat → Prop} {s s1 s2 : uS} (h : ol PI PF PL s s1) (g : ol PI PF PL s1 s2) : ol PI PF PL s s2 := by
  obtain ⟨⟨a1, a2, a4, a5, a6⟩, a7, a8, a9⟩ := h
  obtain ⟨⟨b1, b2, b4, b5, b6⟩, b7, b8, b9⟩ := g
  exact ⟨⟨b1.trans a1, b2.trans a2, b4.trans a4, b5.trans a5, b6.trans a6⟩, fun k f h => (b7 k f h).trans (a7 k f h), fun k f h => (b8 k f h).trans (a8 k f h), fun k f h => (b9 k f h).trans (a9 k f h)⟩
theorem ol_w {PI PF PL QI QF QL : Nat → Nat → Prop} {s s1 : uS} (h : ol PI PF PL s s1) (hI : ∀ k f, PI k f → QI k f) (hF : ∀ k f, PF k f → QF k f) (hL : ∀ k f, PL k f → QL k f) : ol QI QF QL s s1 := ⟨h.1, fun k f a => h.2.1 k f (fun e => a (hI k f e)), fun k f a => h.2.2.1 k f (fun e => a (hF k f e)), fun k f a => h.2.2.2 k f (fun e => a (hL k f e))⟩
theorem ol_out {PI PF PL : Nat → Nat → Prop} {s s1 : uS} (h : out PI PF s s1) : ol PI PF PL s s1 := by
  obtain ⟨⟨a1, a2, a3, a4, a5, a6⟩, a7, a8⟩ := h
  exact ⟨⟨a1, a2, a4, a5, a6⟩, a7, a8, fun k f _ => by rw [a3]⟩
theorem ol_I {PI PF PL : Nat → Nat → Prop} {s s1 : uS} {k f : Nat} {v : Int32} (h : ol PI PF PL s s1) (hk : PI k f) : ol PI PF PL s (wI s1 k f v) := by
  refine ⟨h.1, ?_, h.2.2.1, h.2.2.2⟩
  intro a b hab
  rw [wI_I, if_neg (fun e => hab (by rw [e.1, e.2]; exact hk))]
  exact h.2.1 a b hab
theorem ol_F {PI PF PL : Nat → Nat → Prop} {s s1 : uS} {k f : Nat} {v : Int32} (h : ol PI PF PL s s1) (hk : PF k f) : ol PI PF PL s (wF s1 k f v) := by
  refine ⟨h.1, h.2.1, ?_, h.2.2.2⟩
  intro a b hab
  rw [wF_F, if_neg (fun e => hab (by rw [e.1, e.2]; exact hk))]
  exact h.2.2.1 a b hab
theorem ol_L {PI PF PL : Nat → Nat → Prop} {s s1 : uS} {k f : Nat} {v : Int64} (h : ol PI PF PL s s1) (hk : PL k f) : ol PI PF PL s (wL s1 k f v) := by
  refine ⟨h.1, h.2.1, h.2.2.1, ?_⟩
  intro a b hab
  rw [wL_L, if_neg (fun e => hab (by rw [e.1, e.2]; exact hk))]
  exact h.2.2.2 a b hab
/-- one of the user's scripts -/
def isScr (s : uS) (u k : Nat) : Prop := ∃ i : Nat, i < 4 ∧ nI i < s.I (985 + 16 * u) 3 ∧ s.P (985 + 16 * u + 1) i = some k
def cmI (u k f : Nat) : Prop := (k = 0 ∧ (f = 14 ∨ f = 15)) ∨ (6 ≤ k ∧ k < 976) ∨ qC u k f ∨ (k = 985 + 16 * u ∧ f = 3)
def cmF (u k f : Nat) : Prop := (6 ≤ k ∧ k < 976) ∨ qC u k f
def cmR (s : uS) (u k f : Nat) : Prop := (6 ≤ k ∧ k < 976) ∨ (k = 985 + 16 * u ∧ f = 5) ∨ isScr s u k
def cmP (u k _f : Nat) : Prop := (6 ≤ k ∧ k < 976) ∨ k = 985 + 16 * u + 1
def scI (k f : Nat) : Prop := k = 1079 ∧ (f = 21 ∨ f = 29 ∨ (30 ≤ f ∧ f ≤ 42) ∨ f = 61 ∨ (64 ≤ f ∧ f ≤ 67))
def rmI (k f : Nat) : Prop := (k = 1079 ∧ (f = 2 ∨ f = 3)) ∨ scI k f
def scF (k _f : Nat) : Prop := k = 1093 ∨ (1096 ≤ k ∧ k ≤ 1117)
def rmF (u k f : Nat) : Prop := scF k f ∨ qR u k f ∨ ((k = 1149 ∨ k = 1150) ∧ f = u) ∨ ((k = 1151 ∨ k = 1153 ∨ k = 1155) ∧ 4 * u ≤ f ∧ f < 4 * u + 4) ∨ (k = 1152 ∧ 80 * u ≤ f ∧ f < 80 * u + 80)
def rmL (u k f : Nat) : Prop := k = 1154 ∧ 1000 * u ≤ f ∧ f < 1000 * u + 1000
theorem isScr.fr {s s1 : uS} {u k : Nat} (h : isScr s1 u k) (hI : s1.I (985 + 16 * u) 3 = s.I (985 + 16 * u) 3) (hP : s1.P (985 + 16 * u + 1) = s.P (985 + 16 * u + 1)) : isScr s u k := by
  obtain ⟨i, a, b, c⟩ := h
  exact ⟨i, a, by rw [← hI]; exact b, by rw [← hP]; exact c⟩
theorem qk_lt {u : Nat} (h : u < 5) : 976 ≤ qk u ∧ qk u ≤ 1040 := by unfold qk; split <;> omega
theorem qk_u {u : Nat} (h : u < 4) : qk u = 976 + 16 * u := by unfold qk; rw [if_pos h]
theorem cSc.fr {s s1 : uS} {u : Nat} {es : List Nat} {scs : List (List Nat × List Nat)} {ac : Option Nat} (h : cSc s u es scs ac) (hn : s.n ≤ s1.n) (hc : ∀ k : Nat, k < s.n → s1.c k = s.c k) (hI : s1.I (985 + 16 * u) 3 = s.I (985 + 16 * u) 3) (hP : s1.P (985 + 16 * u + 1) = s.P (985 + 16 * u + 1)) (hR : s1.R (985 + 16 * u) 5 = s.R (985 + 16 * u) 5) (hE : ∀ i : Nat, i < scs.length → s1.R (es.getD i 0) = s.R (es.getD i 0)) (hB : ∀ k : Nat, 1171 ≤ k → k < s.n → s1.F k = s.F k) : cSc s1 u es scs ac := by
  obtain ⟨a1, a2, a3, a4, a5, a6⟩ := h
  refine ⟨a1, a2, hI.trans a3, ?_, a5, by rw [hR]; exact a6⟩
  intro i hi
  obtain ⟨b1, b2, b3, b4, ⟨nb, c1, c2, c3⟩, tb, d1, d2⟩ := a4 i hi
  refine ⟨by rw [hP]; exact b1, by omega, b3, by rw [hc _ b2]; exact b4, ⟨nb, by rw [hE i hi]; exact c1, c2, c3.fr hn (hc _ c3.1) (hB _ c3.2.1 c3.1)⟩, tb, by rw [hE i hi]; exact d1, d2.fr hn (hc _ d2.1) (hB _ d2.2.1 d2.1)⟩
theorem rSe.fr {t t1 : uS} {sl : Nat} {x : List Nat × List Nat} (h : rSe t sl x) (h1 : t1.F 1153 sl = t.F 1153 sl) (h2 : ∀ j : Nat, j < 20 → t1.F 1152 (20 * sl + j) = t.F 1152 (20 * sl + j)) (h3 : t1.F 1155 sl = t.F 1155 sl) (h4 : ∀ j : Nat, j < 250 → t1.L 1154 (250 * sl + j) = t.L 1154 (250 * sl + j)) : rSe t1 sl x := by
  obtain ⟨⟨a1, a2, a3, a4⟩, a5, a6, a7, a8⟩ := h
  refine ⟨⟨a1, a2, h1.trans a3, fun j hj => (h2 j (by omega)).trans (a4 j hj)⟩, a5, a6, h3.trans a7, fun j hj => ?_⟩
  unfold rSb
  rw [h4 (j / 8) (by omega)]
  exact a8 j hj
theorem rSc.fr {t t1 : uS} {u : Nat} {sl : List Nat} {scs : List (List Nat × List Nat)} {ac : Option Nat} (h : rSc t u sl scs ac) (h1 : t1.F 1149 u = t.F 1149 u) (h2 : t1.F 1150 u = t.F 1150 u) (h3 : ∀ f : Nat, 4 * u ≤ f → f < 4 * u + 4 → t1.F 1151 f = t.F 1151 f ∧ t1.F 1153 f = t.F 1153 f ∧ t1.F 1155 f = t.F 1155 f) (h4 : ∀ f : Nat, 80 * u ≤ f → f < 80 * u + 80 → t1.F 1152 f = t.F 1152 f) (h5 : ∀ f : Nat, 1000 * u ≤ f → f < 1000 * u + 1000 → t1.L 1154 f = t.L 1154 f) : rSc t1 u sl scs ac := by
  obtain ⟨a1, a2, a3, a4, a5, a6⟩ := h
  refine ⟨a1, a2, h1.trans a3, ?_, a5, by rw [h2]; exact a6⟩
  intro i hi
  obtain ⟨b1, b2, b3, b4⟩ := a4 i hi
  refine ⟨(h3 _ (by omega) (by omega)).1.trans b1, b2, b3, b4.fr (h3 _ b2 b3).2.1 (fun j hj => h4 _ (by omega) (by omega)) (h3 _ b2 b3).2.2 (fun j hj => h5 _ (by omega) (by omega))⟩
/-- power, queue, scripts of user u at s', t', which come from s, t -/
def pMid (u : Nat) (s t s1 t1 : uS) : Prop := (∃ dy cm ct : Nat, cN s1 true dy cm ct ∧ rN t1 true dy cm ct) ∧ pQ1 u s1 t1 ∧ pT u s1 t1 ∧ oc (cmI u) (cmF u) (cmR s u) (cmP u) s s1 ∧ ol rmI (rmF u) (rmL u) t t1 ∧ ∀ k : Nat, k < s.n → isScr s1 u k → isScr s u k
theorem pMid.q {u : Nat} (hu : u < 4) {s t s1 t1 s2 t2 : uS} (h : pMid u s t s1 t1) (hs : 1171 ≤ s.n) (g : pQo u s1 t1 s2 t2) : pMid u s t s2 t2 ∧ s2.n = s1.n ∧ s2.m = s1.m := by
  obtain ⟨⟨dy, cm, ct, h1, h2⟩, h3, ⟨scs, ac, ⟨es, h4⟩, sl, h5⟩, h6, h7, h8⟩ := h
  obtain ⟨g1, g2, g3⟩ := g
  have hq := qk_u hu
  refine ⟨⟨⟨dy, cm, ct, ?_, ?_⟩, g1, ⟨scs, ac, ⟨es, ?_⟩, sl, ?_⟩, oc_t h6 (oc_w (oc_out g2) ?_ ?_ (fun _ _ h => h) (fun _ _ h => h)), ol_t h7 (ol_w (ol_out g3) (fun _ _ h => h.elim) (fun _ _ h => Or.inr (Or.inl h)) (fun _ _ h => h)), fun k hk z => h8 k hk (z.fr (g2.2.1 _ _ (by unfold qC; omega)) (by rw [g2.1.2.2.2.1]))⟩, g2.1.2.2.2.2.1, g2.1.2.2.2.2.2⟩
  · obtain ⟨a1, a2, a3, a4, a5⟩ := h1
    exact ⟨(g2.2.1 _ _ (by unfold qC; omega)).trans a1, (g2.2.1 _ _ (by unfold qC; omega)).trans a2, (g2.2.1 _ _ (by unfold qC; omega)).trans a3, (g2.2.1 _ _ (by unfold qC; omega)).trans a4, a5⟩
  · obtain ⟨a1, a2, a3, a4, a5⟩ := h2
    exact ⟨(g3.2.1 _ _ (fun h => h)).trans a1, (g3.2.1 _ _ (fun h => h)).trans a2, (g3.2.1 _ _ (fun h => h)).trans a3, (g3.2.1 _ _ (fun h => h)).trans a4, a5⟩
  · refine h4.fr (Nat.le_of_eq g2.1.2.2.2.2.1.symm) (fun k _ => by rw [g2.1.1]) (g2.2.1 _ _ (by unfold qC; omega)) (by rw [g2.1.2.2.2.1]) (by rw [g2.1.2.1]) (fun i hi => by rw [g2.1.2.1]) (fun k hk _ => funext fun f => g2.2.2 _ _ (by unfold qC; omega))
  · exact h5.fr (g3.2.2 _ _ (by unfold qR; omega)) (g3.2.2 _ _ (by unfold qR; omega)) (fun f _ _ => ⟨g3.2.2 _ _ (by unfold qR; omega), g3.2.2 _ _ (by unfold qR; omega), g3.2.2 _ _ (by unfold qR; omega)⟩) (fun f _ _ => g3.2.2 _ _ (by unfold qR; omega)) (fun f _ _ => by rw [g3.1.2.2.1])
  · exact fun k f h => Or.inr (Or.inr (Or.inl h))
  · exact fun k f h => Or.inr h
/-- the power goes -/
def pLost (s t s1 t1 : uS) : Prop := (∃ dy cm : Nat, cN s true dy cm 1 ∧ rN t true dy cm 1) ∧ s1 = c_lose (wI s 0 15 0) ∧ t1 = r_lose t
theorem mid_commit {u : Nat} (hu : u < 4) {s t s1 t1 : uS} (h : pMid u s t s1 t1) : (∃ a b : Int32, fn_X11_commit s1 = some (wI (wI s1 0 15 a) 0 14 b, true) ∧ fn_X12_commit t1 = some (wI (wI t1 1079 3 a) 1079 2 b, true) ∧ pMid u s t (wI (wI s1 0 15 a) 0 14 b) (wI (wI t1 1079 3 a) 1079 2 b)) ∨ ∃ s2 t2 : uS, fn_X11_commit s1 = some (s2, false) ∧ fn_X12_commit t1 = some (t2, false) ∧ pLost s1 t1 s2 t2 := by
  obtain ⟨⟨dy, cm, ct, h1, h2⟩, h3, ⟨scs, ac, ⟨es, h4⟩, sl, h5⟩, h6, h7, h8⟩ := h
  by_cases c : ct = 1
  · subst c
    exact Or.inr ⟨_, _, c_cutoff h1, r_cutoff h2, ⟨dy, cm, h1, h2⟩, rfl, rfl⟩
  · refine Or.inl ⟨_, _, c_commit h1 c, r_commit h2 c, ⟨dy, cm + 1, ct - 1, ?_, ?_⟩, ?_, ⟨scs, ac, ⟨es, ?_⟩, sl, ?_⟩, oc_I (oc_I h6 (Or.inl (Or.inl ⟨rfl, Or.inr rfl⟩))) (Or.inl (Or.inl ⟨rfl, Or.inl rfl⟩)), ol_I (ol_I h7 (Or.inl ⟨rfl, Or.inr rfl⟩)) (Or.inl ⟨rfl, Or.inl rfl⟩), fun k hk z => h8 k hk (z.fr ((wI_o (by omega)).trans (wI_o (by omega))) rfl)⟩
    · obtain ⟨a1, a2, a3, a4, a5⟩ := h1
      exact ⟨by rw [wI_o (by omega), wI_o (by omega)]; exact a1, by rw [wI_o (by omega), wI_o (by omega)]; exact a2, by rw [wI_e], by rw [wI_o (by omega), wI_e], by omega⟩
    · obtain ⟨a1, a2, a3, a4, a5⟩ := h2
      exact ⟨by rw [wI_o (by omega), wI_o (by omega)]; exact a1, by rw [wI_o (by omega), wI_o (by omega)]; exact a2, by rw [wI_e], by rw [wI_o (by omega), wI_e], by omega⟩
    · obtain ⟨xs, q1, q2, q3⟩ := h3
      have hq := qk_u hu
      exact ⟨xs, q1.fr ((wI_r (by omega)).trans (wI_r (by omega))) rfl, q2.fr rfl rfl, q3⟩
    · exact h4.fr (Nat.le_refl _) (fun _ _ => rfl) ((wI_o (by omega)).trans (wI_o (by omega))) rfl rfl (fun _ _ => rfl) (fun _ _ _ => rfl)
    · exact h5.fr rfl rfl (fun _ _ _ => ⟨rfl, rfl, rfl⟩) (fun _ _ _ => rfl) (fun _ _ _ => rfl)
/-- what a command has done -/
def cmdR (u : Nat) (s t s1 t1 : uS) (b : Bool) : Prop := (b = true ∧ pMid u s t s1 t1 ∨ b = false ∧ ∃ s' t' : uS, pMid u s t s' t' ∧ pLost s' t' s1 t1) ∧ s1.n ≤ s.n + 3 ∧ s1.m ≤ s.m + 2030
theorem lose_nm (s : uS) : (c_lose s).n = s.n ∧ (c_lose s).m = s.m := ⟨by simp only [c_lose, c_rst, c_cls, wI_n], by simp only [c_lose, c_rst, c_cls, wI_m]⟩
theorem cmdR.lost {u : Nat} {s t s' t' s1 t1 : uS} (h : pMid u s t s' t') (h2 : pLost s' t' s1 t1) (hn : s'.n ≤ s.n + 3) (hm : s'.m ≤ s.m + 2030) : cmdR u s t s1 t1 false := by
  have h3 := h2.2.1
  refine ⟨Or.inr ⟨rfl, s', t', h, h2⟩, ?_, ?_⟩
  · rw [h3, (lose_nm _).1, wI_n]; exact hn
  · rw [h3, (lose_nm _).2, wI_m]; exact hm
/-- a command that ends with a line -/
theorem cmd_line {u : Nat} (hu : u < 4) {s t s1 t1 : uS} {w : List Nat} (hw : w.length < 900000) (h : pMid u s t s1 t1) (hs : 1171 ≤ s.n) (hn : s1.n ≤ s.n + 3) (hm : s1.m ≤ s.m + 2030) : ∃ s2 t2 : uS, fn_X5_line (qk u) w s1 = some s2 ∧ fn_X12_line (nI u) w t1 = some t2 ∧ cmdR u s t s2 t2 true := by
  obtain ⟨s2, t2, a1, a2, a3⟩ := q_lineP (show u < 5 by omega) hw h.2.1
  obtain ⟨b1, b2, b3⟩ := h.q hu hs a3
  exact ⟨s2, t2, a1, a2, Or.inl ⟨rfl, b1⟩, by omega, by omega⟩
theorem cmd_no {u : Nat} (hu : u < 4) {s t s1 t1 : uS} {w : List Nat} (hw : w.length < 900000) (h : pMid u s t s1 t1) (hs : 1171 ≤ s.n) (hn : s1.n ≤ s.n + 3) (hm : s1.m ≤ s.m + 2030) : ∃ s2 t2 : uS, fn_X5_refusal (qk u) w s1 = some s2 ∧ fn_X12_no (nI u) w t1 = some t2 ∧ cmdR u s t s2 t2 true := by
  obtain ⟨s2, t2, a1, a2, a3⟩ := q_no (show u < 5 by omega) hw h.2.1
  obtain ⟨b1, b2, b3⟩ := h.q hu hs a3
  exact ⟨s2, t2, a1, a2, Or.inl ⟨rfl, b1⟩, by omega, by omega⟩
