/-! what a function may have changed, told by places of numbers alone -/
def out (PI PF : Nat → Nat → Prop) (s s1 : uS) : Prop := (s1.c = s.c ∧ s1.R = s.R ∧ s1.L = s.L ∧ s1.P = s.P ∧ s1.n = s.n ∧ s1.m = s.m) ∧ (∀ k f : Nat, ¬ PI k f → s1.I k f = s.I k f) ∧ ∀ k f : Nat, ¬ PF k f → s1.F k f = s.F k f
theorem out_r {PI PF : Nat → Nat → Prop} {s : uS} : out PI PF s s := ⟨⟨rfl, rfl, rfl, rfl, rfl, rfl⟩, fun _ _ _ => rfl, fun _ _ _ => rfl⟩
theorem out_I {PI PF : Nat → Nat → Prop} {s s1 : uS} {k f : Nat} {v : Int32} (h : out PI PF s s1) (hk : PI k f) : out PI PF s (wI s1 k f v) := by
  refine ⟨h.1, ?_, h.2.2⟩
  intro a b hab
  rw [wI_I, if_neg (fun e => hab (by rw [e.1, e.2]; exact hk))]
  exact h.2.1 a b hab
theorem out_F {PI PF : Nat → Nat → Prop} {s s1 : uS} {k f : Nat} {v : Int32} (h : out PI PF s s1) (hk : PF k f) : out PI PF s (wF s1 k f v) := by
  refine ⟨h.1, h.2.1, ?_⟩
  intro a b hab
  rw [wF_F, if_neg (fun e => hab (by rw [e.1, e.2]; exact hk))]
  exact h.2.2 a b hab
theorem out_t {PI PF : Nat → Nat → Prop} {s s1 s2 : uS} (h : out PI PF s s1) (h2 : out PI PF s1 s2) : out PI PF s s2 := by
  obtain ⟨⟨a1, a2, a3, a4, a5, a6⟩, a7, a8⟩ := h
  obtain ⟨⟨b1, b2, b3, b4, b5, b6⟩, b7, b8⟩ := h2
  exact ⟨⟨b1.trans a1, b2.trans a2, b3.trans a3, b4.trans a4, b5.trans a5, b6.trans a6⟩, fun k f h => (b7 k f h).trans (a7 k f h), fun k f h => (b8 k f h).trans (a8 k f h)⟩
theorem out_w {PI PF QI QF : Nat → Nat → Prop} {s s1 : uS} (h : out PI PF s s1) (hI : ∀ k f, PI k f → QI k f) (hF : ∀ k f, PF k f → QF k f) : out QI QF s s1 := ⟨h.1, fun k f a => h.2.1 k f (fun e => a (hI k f e)), fun k f a => h.2.2 k f (fun e => a (hF k f e))⟩
theorem bind_id {α β : Type} (x : Option (α × β)) : (x.bind fun r => some (r.1, r.2)) = x := by cases x <;> rfl
theorem bind_id1 {α : Type} (x : Option α) : (x.bind fun r => some r) = x := by cases x <;> rfl
/-! the sessions for scripts: K the class's, u the reference's number -/
def kOk (K : Nat) : Prop := uTx (K + 1) 6000 3 ∧ ucl (K + 5) = (20, 3) ∧ ucl (K + 6) = (21, 13) ∧ K + 6 < 1171
theorem kOk_u {u : Nat} (hu : u < 4) : kOk (978 + 16 * u) := by
  have : ∀ u, u < 4 → (978 + 16 * u + 1 + 3 < 1171 ∧ ucl (978 + 16 * u + 1 + 1) = (21, 6000) ∧ ucl (978 + 16 * u + 1 + 2) = (20, 3) ∧ ucl (978 + 16 * u + 1 + 3) = (20, 3) ∧ 6000 ≤ 10000 ∧ 3 ≤ 10000) ∧ ucl (978 + 16 * u + 5) = (20, 3) ∧ ucl (978 + 16 * u + 6) = (21, 13) ∧ 978 + 16 * u + 6 < 1171 := by decide +kernel
  exact this u hu
def rmd (st : Nat) : Nat := [0, 2, 3, 4, 10, 5, 6, 7, 8, 9, 1, 11, 12].getD st 0
def nums : List (Nat × List Nat) → Nat
  | [] => 0
  | p :: ps => (if p.1 = 3 then 1 else 0) + 2 * nums ps
theorem nums_app (p : Nat × List Nat) : ∀ ps : List (Nat × List Nat), nums (ps ++ [p]) = nums ps + (if p.1 = 3 then 2 ^ ps.length else 0) := by
  intro ps
  induction ps with
  | nil => show (if p.1 = 3 then 1 else 0) + 2 * 0 = 0 + _; split <;> rfl
  | cons q ps ih =>
    show (if q.1 = 3 then 1 else 0) + 2 * nums (ps ++ [p]) = (if q.1 = 3 then 1 else 0) + 2 * nums ps + _
    rw [ih, List.length_cons, Nat.pow_succ]
    split <;> split <;> omega
theorem nums_lt : ∀ ps : List (Nat × List Nat), nums ps < 2 ^ ps.length := by
  intro ps
  induction ps with
  | nil => decide
  | cons q ps ih =>
    show (if q.1 = 3 then 1 else 0) + 2 * nums ps < _
    rw [List.length_cons, Nat.pow_succ]
    split <;> omega
theorem nums_or {n m : Nat} (hm : m < 3) (hn : n < 2 ^ m) : nI n ||| ((1 : Int32) <<< (nI m &&& 31)) = nI (n + 2 ^ m) := by
  have : ∀ m, m < 3 → ∀ n, n < 2 ^ m → nI n ||| ((1 : Int32) <<< (nI m &&& 31)) = nI (n + 2 ^ m) := by decide +kernel
  exact this m hm n hn
def pk0 : Nat × List Nat := (0, [])
def pA (K u : Nat) (s t : uS) (st v d : Nat) (pc : Bool) : Prop := st ≤ 12 ∧ s.I K 5 = nI st ∧ t.F 1156 u = nI (rmd st) ∧ s.I K 1 = nI v ∧ t.F 1161 u = nI v ∧ s.I K 6 = nI d ∧ t.F 1162 u = nI d ∧ d ≤ 9 ∧ v < 10 ^ d ∧ s.I K 7 = bI pc ∧ t.F 1163 u = bI pc
/-- the word -/
def pW (K u : Nat) (s t : uS) (w : List Nat) : Prop := w.length ≤ 21 ∧ bys w ∧ s.I K 4 = nI (min 13 w.length) ∧ (∀ j : Nat, j < 13 → j < w.length → s.F (K + 6) j = sb (w.getD j 0)) ∧ t.F 1157 u = nI w.length ∧ ∀ j : Nat, j < 20 → j < w.length → t.F 1158 (20 * u + j) = nI (w.getD j 0)
/-- the parts -/
def pD (K u : Nat) (s t : uS) (ps : List (Nat × List Nat)) (bg : Nat) (cur : List Nat) : Prop := cTz s (K + 1) 6000 3 (ps.map Prod.snd) bg cur ∧ bg ≤ 2000 * ps.length ∧ (∀ i : Nat, i < ps.length → s.F (K + 5) i = nI (ps.getD i pk0).1 ∧ ((ps.getD i pk0).1 = 2 ∨ (ps.getD i pk0).1 = 3 ∧ (ps.getD i pk0).2 = []) ∧ (ps.getD i pk0).2.length ≤ 2000) ∧ t.F 1160 u = nI ps.length ∧ t.F 1166 u = nI (nums ps) ∧ ∀ p : Nat, p < 2 → p < ps.length → t.F 1164 (2 * u + p) = nI (ps.getD p pk0).2.length ∧ ∀ j : Nat, j < (ps.getD p pk0).2.length → t.F (1167 + u) (2000 * p + j) = nI ((ps.getD p pk0).2.getD j 0)
/-- the reference's open part -/
def pR (u : Nat) (t : uS) (p : Nat) (cur : List Nat) : Prop := if p = 2 then t.F 1165 u = nI cur.length else t.F 1164 (2 * u + p) = nI cur.length ∧ ∀ j : Nat, j < cur.length → t.F (1167 + u) (2000 * p + j) = nI (cur.getD j 0)
def pE (u : Nat) (t : uS) (st v : Nat) (w : List Nat) (ps : List (Nat × List Nat)) (cur : List Nat) : Prop :=
  if st = 0 then ps = [] ∧ cur = [] else t.F 1159 u = oI (wix w ordW 0) ∧
  if st = 1 then ps.length < 3 ∧ cur = [] else
  if st = 10 ∨ st = 11 then cur = [] else
  ps.length < 3 ∧ pR u t ps.length cur ∧ (if st ≤ 3 then cur.length ≤ 200 else if st = 9 then cur.length < v ∧ v ≤ 2000 else cur = [])
def pS (u : Nat) (s t : uS) : Prop := ∃ (st v d : Nat) (pc : Bool), pA (978 + 16 * u) u s t st v d pc ∧ (st = 12 ∨ ∃ (w : List Nat) (ps : List (Nat × List Nat)) (bg : Nat) (cur : List Nat), pW (978 + 16 * u) u s t w ∧ pD (978 + 16 * u) u s t ps bg cur ∧ pE u t st v w ps cur)
/-- places of a session -/
def sPl (K : Nat) (k _f : Nat) : Prop := K ≤ k ∧ k ≤ K + 6
def rPl (u k f : Nat) : Prop := (1156 ≤ k ∧ k ≤ 1166 ∧ k ≠ 1158 ∧ k ≠ 1164 ∧ f = u) ∨ (k = 1158 ∧ 20 * u ≤ f ∧ f < 20 * u + 20) ∨ (k = 1164 ∧ 2 * u ≤ f ∧ f < 2 * u + 2) ∨ k = 1167 + u
def rNo (_ _ : Nat) : Prop := False
theorem pA.v {K u : Nat} {s t : uS} {st v d : Nat} {pc : Bool} (h : pA K u s t st v d pc) : v < 1000000000 := by
  have h1 := h.2.2.2.2.2.2.2.1
  have h2 := h.2.2.2.2.2.2.2.2.1
  have : 10 ^ d ≤ 10 ^ 9 := Nat.pow_le_pow_right (by decide) h1
  omega
/-- a step to another state -/
theorem pA_go {K u : Nat} {s t : uS} {st v d : Nat} {pc : Bool} (h : pA K u s t st v d pc) {st1 : Nat} (h1 : st1 ≤ 12) : pA K u (wI s K 5 (nI st1)) (wF t 1156 u (nI (rmd st1))) st1 v d pc := by
  obtain ⟨a1, a2, a3, a4, a5, a6, a7, a8, a9, a10, a11⟩ := h
  refine ⟨h1, wI_e _ _ _ _, wF_e _ _ _ _, ?_, ?_, ?_, ?_, a8, a9, ?_, ?_⟩
  · rw [wI_o (by omega)]; exact a4
  · rw [wF_o (by omega)]; exact a5
  · rw [wI_o (by omega)]; exact a6
  · rw [wF_o (by omega)]; exact a7
  · rw [wI_o (by omega)]; exact a10
  · rw [wF_o (by omega)]; exact a11
theorem pW.fr {K u : Nat} {s t s1 t1 : uS} {w : List Nat} (h : pW K u s t w) (h1 : s1.I K 4 = s.I K 4) (h2 : s1.F (K + 6) = s.F (K + 6)) (h3 : t1.F 1157 u = t.F 1157 u) (h4 : t1.F 1158 = t.F 1158) : pW K u s1 t1 w := by
  unfold pW
  rw [h1, h2, h3, h4]
  exact h
theorem pD.fr {K u : Nat} {s t s1 t1 : uS} {ps : List (Nat × List Nat)} {bg : Nat} {cur : List Nat} (h : pD K u s t ps bg cur) (i1 : s1.I (K + 1) = s.I (K + 1)) (f2 : s1.F (K + 2) = s.F (K + 2)) (f3 : s1.F (K + 3) = s.F (K + 3)) (f4 : s1.F (K + 4) = s.F (K + 4)) (f5 : s1.F (K + 5) = s.F (K + 5)) (g1 : t1.F 1160 u = t.F 1160 u) (g2 : t1.F 1166 u = t.F 1166 u) (g3 : ∀ p : Nat, p < 2 → p < ps.length → t1.F 1164 (2 * u + p) = t.F 1164 (2 * u + p)) (g4 : ∀ p j : Nat, p < 2 → p < ps.length → j < 2000 → t1.F (1167 + u) (2000 * p + j) = t.F (1167 + u) (2000 * p + j)) : pD K u s1 t1 ps bg cur := by
  obtain ⟨h1, h2, h3, h4, h5, h6⟩ := h
  refine ⟨h1.fr (by rw [i1]) (by rw [i1]) (by rw [i1]) f2 f3 f4, h2, ?_, ?_, ?_, ?_⟩
  · rw [f5]; exact h3
  · rw [g1]; exact h4
  · rw [g2]; exact h5
  · intro p hp hq
    obtain ⟨a, b⟩ := h6 p hp hq
    refine ⟨by rw [g3 p hp hq]; exact a, ?_⟩
    intro j hj
    have := (h3 p hq).2.2
    rw [g4 p j hp hq (by omega)]
    exact b j hj
/-- passing over: all else is of no account -/
theorem pS_pass {u : Nat} (hu : u < 4) {s t : uS} {st v d : Nat} {pc : Bool} (h : pA (978 + 16 * u) u s t st v d pc) (b : Nat) : ∃ s1 t1 : uS, fn_X8_passOver (978 + 16 * u) (nI b) s = some (s1, 0) ∧ fn_X12_pass (nI u) (nI b) t = some (t1, true) ∧ out (sPl (978 + 16 * u)) (sPl (978 + 16 * u)) s s1 ∧ out rNo (rPl u) t t1 ∧ pS u s1 t1 := by
  refine ⟨_, _, c_pass _ _ _, r_pass hu _, out_I (out_I out_r ⟨by omega, by omega⟩) ⟨by omega, by omega⟩, out_F (out_F out_r (by unfold rPl; omega)) (by unfold rPl; omega), ?_⟩
  obtain ⟨a1, a2, a3, a4, a5, a6, a7, a8, a9, a10, a11⟩ := h
  refine ⟨12, v, d, decide (nI b = 13), ⟨by omega, wI_e _ _ _ _, ?_, ?_, ?_, ?_, ?_, a8, a9, ?_, ?_⟩, Or.inl rfl⟩
  · rw [wF_o (by omega), wF_e]; rfl
  · rw [wI_o (by omega), wI_o (by omega)]; exact a4
  · rw [wF_o (by omega), wF_o (by omega)]; exact a5
  · rw [wI_o (by omega), wI_o (by omega)]; exact a6
  · rw [wF_o (by omega), wF_o (by omega)]; exact a7
  · rw [wI_o (by omega), wI_e]
  · rw [wF_e]
/-- what a byte does to a session: on, a command, or a fault of its form -/
def pGo (u : Nat) (s t s1 t1 : uS) : Prop := out (sPl (978 + 16 * u)) (sPl (978 + 16 * u)) s s1 ∧ out rNo (rPl u) t t1 ∧ pS u s1 t1
def pStep (u b : Nat) (s t : uS) : Prop := (∃ s1 t1 : uS, fn_X8_take (978 + 16 * u) (nI b) s = some (s1, 0) ∧ fn_X12_manageIn (nI u) (nI b) t = some (t1, true) ∧ pGo u s t s1 t1) ∨
  (fn_X8_take (978 + 16 * u) (nI b) s = some (s, 1) ∧ fn_X12_manageIn (nI u) (nI b) t = fn_X12_ordered (nI u) t ∧ ∃ (v d : Nat) (pc : Bool) (w : List Nat) (ps : List (Nat × List Nat)) (bg : Nat), pA (978 + 16 * u) u s t 11 v d pc ∧ pW (978 + 16 * u) u s t w ∧ pD (978 + 16 * u) u s t ps bg [] ∧ t.F 1159 u = oI (wix w ordW 0)) ∨
  (fn_X8_take (978 + 16 * u) (nI b) s = some (s, 2) ∧ fn_X12_manageIn (nI u) (nI b) t = ((fn_X12_no (nI u) kW_201 t).bind fun s57 => (fn_X12_fresh (nI u) s57).bind fun s59 => some (s59, true)) ∧ ∃ (st v d : Nat) (pc : Bool), pA (978 + 16 * u) u s t st v d pc)
