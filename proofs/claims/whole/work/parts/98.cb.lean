/-! the lexers: a token -/
def lnI' (k f : Nat) : Prop := (k = 7 ∧ (f = 2 ∨ f = 3 ∨ f = 6 ∨ f = 7 ∨ f = 8)) ∨ k = 8
def rnI (k f : Nat) : Prop := k = 1079 ∧ ((30 ≤ f ∧ f ≤ 35) ∨ (37 ≤ f ∧ f ≤ 40))
def rqP (bg k f : Nat) : Prop := k = 1097 ∧ bg ≤ f
abbrev sgn (c : Nat) : Prop := c = 59 ∨ c = 44 ∨ c = 40 ∨ c = 41 ∨ c = 91 ∨ c = 93 ∨ c = 123 ∨ c = 125
/-- states at a token that is fine: it begins at b and ends at e -/
def tkG (k fr : Nat) (x : List Nat) (ts : List (List Nat)) (bg b e : Nat) (s t : uS) : Prop := lxC s k fr x e ∧ lxR t x e ∧ cTz s 8 2000 301 ts bg [] ∧ t.I 1079 37 = nI bg ∧ t.I 1079 40 = -1 ∧ s.I 7 6 = nI (fr + b) ∧ t.I 1079 32 = nI b
def tkE (k fr : Nat) (x : List Nat) (ts : List (List Nat)) (bg b e : Nat) (s t : uS) : Prop := b = x.length ∧ e = b ∧ tkG k fr x ts bg b e s t ∧ s.I 7 2 = 5 ∧ t.I 1079 31 = 0
def tkW (k fr : Nat) (x : List Nat) (ts : List (List Nat)) (bg b e : Nat) (s t : uS) : Prop := b < e ∧ tkG k fr x ts bg b e s t ∧ s.I 7 2 = 0 ∧ t.I 1079 31 = 1 ∧ s.I 7 7 = nI (fr + b) ∧ t.I 1079 33 = nI b ∧ t.I 1079 34 = nI (e - b)
def tkT (k fr : Nat) (x : List Nat) (ts : List (List Nat)) (bg b e : Nat) (s t : uS) : Prop := b + 1 < e ∧ tkG k fr x ts bg b e s t ∧ s.I 7 2 = 1 ∧ t.I 1079 31 = 2 ∧ s.I 7 7 = nI (fr + (b + 1)) ∧ t.I 1079 33 = nI (b + 1) ∧ t.I 1079 34 = nI (e - (b + 1))
def tkN (k fr : Nat) (x : List Nat) (ts : List (List Nat)) (bg b e : Nat) (s t : uS) : Prop := b < e ∧ tkG k fr x ts bg b e s t ∧ s.I 7 2 = 2 ∧ t.I 1079 31 = 3 ∧ ∃ v : Nat, v < 2 ^ 31 ∧ s.I 7 3 = nI v ∧ t.I 1079 35 = nI v
def tkS (k fr : Nat) (x : List Nat) (ts : List (List Nat)) (bg b e : Nat) (s t : uS) : Prop := e = b + 1 ∧ b < x.length ∧ tkG k fr x ts bg b e s t ∧ s.I 7 2 = 4 ∧ t.I 1079 31 = nI (100 + x.getD b 0) ∧ sgn (x.getD b 0)
def tkQ (k fr : Nat) (x : List Nat) (ts : List (List Nat)) (bg b e : Nat) (s t : uS) : Prop := b < e ∧ ∃ str : List Nat, lxC s k fr x e ∧ rStr t x bg e str ∧ cTz s 8 2000 301 (ts ++ [str]) (bg + str.length) [] ∧ bg + str.length ≤ e ∧ str.length ≤ 1000 ∧ bys str ∧ t.I 1079 40 = -1 ∧ s.I 7 6 = nI (fr + b) ∧ t.I 1079 32 = nI b ∧ s.I 7 2 = 3 ∧ t.I 1079 31 = 4
def tkB (k fr : Nat) (x : List Nat) (ts : List (List Nat)) (bg b e : Nat) (s t : uS) : Prop := b ≤ x.length ∧ s.R 7 1 = some k ∧ rdC s k fr x ∧ s.I 7 4 = nI fr ∧ s.I 7 6 = nI (fr + b) ∧ t.I 1079 40 = nI b ∧ t.I 1079 31 = 0 ∧ (s.I 7 2 = 6 ∨ s.I 7 2 = 0 ∧ b < e ∧ lxC s k fr x e ∧ s.I 7 7 = nI (fr + b) ∧ eqW (sub x b e) kW_75 = true)
def tok (k fr : Nat) (x : List Nat) (ts : List (List Nat)) (bg b e : Nat) (s t : uS) : Prop := tkE k fr x ts bg b e s t ∨ tkW k fr x ts bg b e s t ∨ tkT k fr x ts bg b e s t ∨ tkN k fr x ts bg b e s t ∨ tkS k fr x ts bg b e s t ∨ tkQ k fr x ts bg b e s t ∨ tkB k fr x ts bg b e s t
/-- the reference at a token's end -/
def rBad (t : uS) (q n : Nat) : uS := wI (wI (wI (wI t 1079 31 5) 1079 40 (nI q)) 1079 31 0) 1079 30 (nI n)
theorem r_fin5 {t : uS} {q n : Nat} (h32 : t.I 1079 32 = nI q) (h40 : t.I 1079 40 = -1) (h29 : t.I 1079 29 = nI n) : fb_X12_next_34 5 t = some (rBad t q n) := by
  unfold fb_X12_next_34 fn_X12_fail fb_X12_fail_12
  rw [wI_e, if_pos rfl, wI_o (show ¬ (1079 = 1079 ∧ 40 = 31) by decide), h40, if_neg (show ¬ (0 : Int32) ≤ -1 by decide), wI_o (show ¬ (1079 = 1079 ∧ 32 = 31) by decide), h32, wI_o (show ¬ (1079 = 1079 ∧ 29 = 31) by decide), wI_o (show ¬ (1079 = 1079 ∧ 29 = 40) by decide), wI_o (show ¬ (1079 = 1079 ∧ 29 = 31) by decide), h29, Option.bind_some]
  rfl
theorem r_fin {t : uS} {v : Int32} (h : v ≠ 5) : fb_X12_next_34 v t = some (wI t 1079 31 v) := by
  unfold fb_X12_next_34
  rw [wI_e, if_neg h]
theorem rBad_out {t : uS} {q n : Nat} : out rnI rNo t (rBad t q n) := by
  unfold rBad
  exact out_I (out_I (out_I (out_I out_r ⟨rfl, by omega⟩) ⟨rfl, by omega⟩) ⟨rfl, by omega⟩) ⟨rfl, by omega⟩
theorem rBad_v {t : uS} {q n : Nat} : (rBad t q n).I 1079 40 = nI q ∧ (rBad t q n).I 1079 31 = 0 := by
  unfold rBad
  exact ⟨by rw [wI_o (by omega), wI_o (by omega), wI_e], by rw [wI_o (by omega), wI_e]⟩
theorem rqW {t t1 : uS} {bg : Nat} (h : out rqI rqF t t1) (g : ∀ j : Nat, j < bg → t1.F 1097 j = t.F 1097 j) : out rnI (rqP bg) t t1 := by
  refine ⟨h.1, fun k f z => h.2.1 k f (fun y => z (by unfold rqI at y; unfold rnI; omega)), fun k f z => ?_⟩
  by_cases c : k = 1097
  · subst c
    exact g f (Nat.lt_of_not_le fun y => z ⟨rfl, y⟩)
  · exact h.2.2 k f c
theorem lqW {s s1 : uS} (h : out lqI lqF s s1) : out lnI' lqF s s1 := out_w h (fun k f z => by unfold lqI at z; unfold lnI'; omega) (fun _ _ z => z)
/-- what stands at the beginning of a token, behind the skip -/
def tk0 (k fr : Nat) (x : List Nat) (ts : List (List Nat)) (bg q : Nat) (s t : uS) : Prop := tkG k fr x ts bg q q s t ∧ (uCl s k).2 ≤ 10000 ∧ 976 ≤ k ∧ ts.length ≤ 300 ∧ bg ≤ q
theorem tkG.B {k fr : Nat} {x : List Nat} {ts : List (List Nat)} {bg q : Nat} {s t s1 t1 : uS} (h : tkG k fr x ts bg q q s t) (hk : 976 ≤ k) (o : out lnI' lqF s s1) (h6 : s1.I 7 6 = s.I 7 6) (h2 : s1.I 7 2 = 6) (h40 : t1.I 1079 40 = nI q) (h31 : t1.I 1079 31 = 0) : tok k fr x ts bg q q s1 t1 := by
  refine Or.inr (Or.inr (Or.inr (Or.inr (Or.inr (Or.inr ⟨h.1.2.2.2.2.2.2.2, by rw [o.1.2.1]; exact h.1.1, h.1.2.1.fr o.1.1 o.1.2.2.2.2.1 (funext fun f => o.2.2 _ _ (by unfold lqF; omega)), ?_, h6.trans h.2.2.2.2.2.1, h40, h31, Or.inl h2⟩)))))
  rw [o.2.1 _ _ (by unfold lnI'; omega)]
  exact h.1.2.2.2.2.1
/-- a number -/
theorem n_num {k fr : Nat} {x : List Nat} {ts : List (List Nat)} {bg q : Nat} {s t : uS} (h : tk0 k fr x ts bg q s t) (hq : q < x.length) (hd : isDb (x.getD q 0) = true) : ∃ (s1 t1 t2 : uS) (v : Int32) (e : Nat), fn_X2_readNumber s = some s1 ∧ fn_X12_digits t = some (t1, v) ∧ fb_X12_next_34 v t1 = some t2 ∧ out lnI' lqF s s1 ∧ out rnI (rqP bg) t t2 ∧ tok k fr x ts bg q e s1 t2 := by
  obtain ⟨hg, h1, h2, h3, h4⟩ := h
  have hgg := hg
  obtain ⟨g1, g2, g3, g4, g5, g6, g7⟩ := hg
  have hx := g1.2.2.1
  have hdm : den x uFu q 0 = de x q := by
    show den x 1000000 q 0 = _
    rw [show 1000000 = x.length + (1000000 - x.length) by omega]
    exact den_add _
  have c1 := c_numL uFu q 0 s g1 (by show _ < q + 1000000; omega)
  rw [hdm] at c1
  obtain ⟨w1, r1, r2, r3⟩ := r_numL uFu q 0 0 t g2 (by show _ < q + 1000000; omega) (Or.inl rfl) (by decide)
  rw [hdm] at r1 r3
  have hle : q ≤ (de x q).1 ∧ (de x q).1 ≤ x.length := den_le (by omega)
  have hlt : q < (de x q).1 := by
    have e1 : de x q = den x (x.length + 1) q 0 := (den_mono x.length q 0 (by omega)).symm
    have e2 : den x (x.length + 1) q 0 = den x x.length (q + 1) (10 * 0 + x.getD q 0 - 48) := if_pos ⟨hq, hd⟩
    have e3 := den_le (x := x) (n := x.length) (p := q + 1) (v := 10 * 0 + x.getD q 0 - 48) (by omega)
    rw [e1, e2]; omega
  obtain ⟨y, c2, c3⟩ := c_num (v := (de x q).2) (g1.to hle.2)
  have r4 := r_num (v := (de x q).2) (g2.to hle.2) r2 r1
  rw [wI_wI] at c2 r4
  have hne := nen_le (x := x) hle.2
  have c1' : fn_X2_readNumber s = _ := c1
  have r3' : fn_X12_digits t = _ := r3
  rw [c1', c2, r3', r4]
  have oc1 : out lnI' lqF s (wI (wI (wI s 7 8 (nI (fr + nen x (de x q).1))) 7 2 (if nok x (de x q).1 (de x q).2 = true then 2 else 6)) 7 3 y) := out_I (out_I (out_I out_r (Or.inl ⟨rfl, by omega⟩)) (Or.inl ⟨rfl, by omega⟩)) (Or.inl ⟨rfl, by omega⟩)
  by_cases c : nok x (de x q).1 (de x q).2 = true
  · have hv : (de x q).2 * 2 ^ nsh x (de x q).1 ≤ 2147483647 := by
      unfold nok at c
      rw [Bool.and_eq_true, decide_eq_true_eq] at c
      exact c.2
    rw [if_pos c, if_pos c]
    rw [if_pos c] at oc1
    refine ⟨_, _, _, _, nen x (de x q).1, rfl, rfl, r_fin (by decide), oc1, out_I (out_I (out_I out_r ⟨rfl, by omega⟩) ⟨rfl, by omega⟩) ⟨rfl, by omega⟩, Or.inr (Or.inr (Or.inr (Or.inl ⟨by omega, ⟨?_, ?_, ?_, ?_, ?_, ?_, ?_⟩, ?_, ?_, (de x q).2 * 2 ^ nsh x (de x q).1, by omega, ?_, ?_⟩)))⟩
    · exact ((g1.to hne.2).I (by decide)).I (by decide)
    · exact g2.fr ((wI_o (by omega)).trans ((wI_o (by omega)).trans (wI_o (by omega)))) rfl ((wI_o (by omega)).trans ((wI_o (by omega)).trans (wI_e _ _ _ _))) hne.2
    · exact g3.fr ((wI_o (by omega)).trans ((wI_o (by omega)).trans (wI_o (by omega)))) ((wI_o (by omega)).trans ((wI_o (by omega)).trans (wI_o (by omega)))) ((wI_o (by omega)).trans ((wI_o (by omega)).trans (wI_o (by omega)))) rfl rfl rfl
    · exact ((wI_o (by omega)).trans ((wI_o (by omega)).trans (wI_o (by omega)))).trans g4
    · exact ((wI_o (by omega)).trans ((wI_o (by omega)).trans (wI_o (by omega)))).trans g5
    · exact ((wI_o (by omega)).trans ((wI_o (by omega)).trans (wI_o (by omega)))).trans g6
    · exact ((wI_o (by omega)).trans ((wI_o (by omega)).trans (wI_o (by omega)))).trans g7
    · exact (wI_o (by omega)).trans (wI_e _ _ _ _)
    · exact wI_e _ _ _ _
    · rw [wI_e]; exact c3 c
    · rw [wI_o (by omega), wI_e]
  · rw [if_neg c, if_neg c]
    rw [if_neg c] at oc1
    refine ⟨_, _, _, _, q, rfl, rfl, r_fin5 (q := q) (n := x.length) ((wI_o (by omega)).trans g7) ((wI_o (by omega)).trans g5) ((wI_o (by omega)).trans g2.1), oc1, out_t (out_I out_r ⟨rfl, by omega⟩) (out_w rBad_out (fun _ _ z => z) (fun _ _ z => z.elim)), hgg.B h2 oc1 ((wI_o (by omega)).trans ((wI_o (by omega)).trans (wI_o (by omega)))) ((wI_o (by omega)).trans (wI_e _ _ _ _)) rBad_v.1 rBad_v.2⟩
