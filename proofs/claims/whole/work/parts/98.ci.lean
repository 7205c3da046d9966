/-! the two parsers side by side -/
def pd (T : Nat) (s : uS) : Option (uS × Int32) := pD4 (999999 - T) T s
theorem K_take {T : Nat} {s : uS} (h : T < 19000) : fn_X4_parse_13 (999999 - T) 1 (nI T + 1) s = (fn_X2_next s).bind fun s1 => pd (T + 1) s1 := by
  rw [nI_1, show 999999 - T = (999999 - (T + 1)) + 1 by omega, M_take (by omega)]
  rfl
theorem K_pass {T : Nat} {s : uS} (h : T < 19000) : fn_X4_parse_13 (999999 - T) 2 (nI T + 1) s = pd (T + 1) s := by
  rw [nI_1, show 999999 - T = (999999 - (T + 1)) + 1 by omega, M_pass (by omega)]
  rfl
theorem K_ref {T : Nat} {s : uS} (h : T < 19000) : fn_X4_parse_13 (999999 - T) 0 (nI T + 1) s = (fn_X2_line s).bind fun v => some (s, v) := by
  rw [nI_1, show 999999 - T = (999999 - (T + 1)) + 1 by omega, M_ref (by omega)]
theorem K_done {T : Nat} {s : uS} (h : T < 19000) : fn_X4_parse_13 (999999 - T) 3 (nI T + 1) s = some (s, 0) := by
  rw [nI_1, show 999999 - T = (999999 - (T + 1)) + 1 by omega, M_done (by omega)]
def tkf (k fr : Nat) (x : List Nat) (ts : List (List Nat)) (bg b e : Nat) (s t : uS) : Prop := tkE k fr x ts bg b e s t ∨ tkW k fr x ts bg b e s t ∨ tkT k fr x ts bg b e s t ∨ tkN k fr x ts bg b e s t ∨ tkS k fr x ts bg b e s t ∨ tkQ k fr x ts bg b e s t
/-- the reference's strings -/
def rst (ts : List (List Nat)) (bg : Nat) (t : uS) : Prop := ∀ j : Nat, j < ts.length → ∃ a : Nat, a + (ts.getD j []).length ≤ bg ∧ t.F 1116 j = nI a ∧ t.F 1117 j = nI (ts.getD j []).length ∧ (ts.getD j []).length ≤ 1000 ∧ ∀ i : Nat, i < (ts.getD j []).length → t.F 1097 (a + i) = nI ((ts.getD j []).getD i 0)
def pm (σ : List (Nat × Nat)) (N cn ob rq : Nat) (s : uS) : Prop := s.I 6 5 = nI σ.length ∧ stk s σ ∧ s.I 6 2 = nI N ∧ s.I 6 6 = nI cn ∧ s.I 6 7 = nI ob ∧ s.I 6 8 = nI rq
def pr (ts : List (List Nat)) (bg M cn ob dp rq : Nat) (t : uS) : Prop := t.I 1079 41 = nI M ∧ t.I 1079 42 = nI cn ∧ t.I 1079 65 = nI ob ∧ t.I 1079 66 = nI dp ∧ t.I 1079 64 = nI rq ∧ t.I 1079 61 = nI ts.length ∧ rst ts bg t ∧ lsO t
def pk (k : Nat) (ts : List (List Nat)) (bg e : Nat) (σ : List (Nat × Nat)) (N M cn ob dp rq T : Nat) (s : uS) : Prop := (uCl s k).2 ≤ 10000 ∧ 976 ≤ k ∧ ts.length ≤ 300 ∧ bg ≤ e ∧ σ.length ≤ 90 ∧ stV σ ∧ N ≤ 9 + 3 * cn ∧ M ≤ 9 + 3 * cn ∧ cn ≤ 100 ∧ ob ≤ 8 ∧ dp ≤ 8 ∧ rq < 256 ∧ T + σ.length ≤ 5 * e + 10
/-- before the next token -/
def pb (k fr : Nat) (x : List Nat) (ts : List (List Nat)) (bg e : Nat) (σ : List (Nat × Nat)) (N M cn ob dp rq T : Nat) (s t : uS) : Prop := lxB k fr x ts bg e s t ∧ pm σ N cn ob rq s ∧ pr ts bg M cn ob dp rq t ∧ pk k ts bg e σ N M cn ob dp rq T s
/-- at a token -/
def pj (k fr : Nat) (x : List Nat) (ts : List (List Nat)) (bg b e : Nat) (σ : List (Nat × Nat)) (N M cn ob dp rq T : Nat) (s t : uS) : Prop := tkf k fr x ts bg b e s t ∧ pm σ N cn ob rq s ∧ pr ts bg M cn ob dp rq t ∧ pk k ts bg b σ N M cn ob dp rq T s
theorem tkf.l {k fr : Nat} {x : List Nat} {ts : List (List Nat)} {bg b e : Nat} {s t : uS} (h : tkf k fr x ts bg b e s t) : lxC s k fr x e ∧ lxR t x e ∧ t.I 1079 40 = -1 ∧ s.I 7 6 = nI (fr + b) ∧ t.I 1079 32 = nI b ∧ b ≤ e := by
  rcases h with h | h | h | h | h | h
  · obtain ⟨a, c, ⟨g1, g2, g3, g4, g5, g6, g7⟩, -⟩ := h
    exact ⟨g1, g2, g5, g6, g7, by omega⟩
  · obtain ⟨a, ⟨g1, g2, g3, g4, g5, g6, g7⟩, -⟩ := h
    exact ⟨g1, g2, g5, g6, g7, by omega⟩
  · obtain ⟨a, ⟨g1, g2, g3, g4, g5, g6, g7⟩, -⟩ := h
    exact ⟨g1, g2, g5, g6, g7, by omega⟩
  · obtain ⟨a, ⟨g1, g2, g3, g4, g5, g6, g7⟩, -⟩ := h
    exact ⟨g1, g2, g5, g6, g7, by omega⟩
  · obtain ⟨a, c, ⟨g1, g2, g3, g4, g5, g6, g7⟩, -⟩ := h
    exact ⟨g1, g2, g5, g6, g7, by omega⟩
  · obtain ⟨a, str, g1, g2, -, -, -, -, g5, g6, g7, -⟩ := h
    exact ⟨g1, g2.1, g5, g6, g7, by omega⟩
theorem tkf.line {k fr : Nat} {x : List Nat} {ts : List (List Nat)} {bg b e : Nat} {s t : uS} (h : tkf k fr x ts bg b e s t) : fn_X2_line s = some (nI (1 + lnc x b)) := by
  obtain ⟨h1, h2, h3, h4, h5, h6⟩ := h.l
  have := h1.2.2.2.2.2.2.2
  exact c_lineAt h1.1 h1.2.1 h1.2.2.2.2.1 h4 (by omega) h1.2.2.1
theorem rst.out {ts : List (List Nat)} {bg : Nat} {t t1 : uS} (h : rst ts bg t) (a : ∀ j : Nat, j < ts.length → t1.F 1116 j = t.F 1116 j ∧ t1.F 1117 j = t.F 1117 j) (c : ∀ j : Nat, j < bg → t1.F 1097 j = t.F 1097 j) : rst ts bg t1 := by
  intro j hj
  obtain ⟨p, p1, p2, p3, pl, p4⟩ := h j hj
  exact ⟨p, p1, (a j hj).1.trans p2, (a j hj).2.trans p3, pl, fun i hi => (c _ (by omega)).trans (p4 i hi)⟩
theorem go {k fr : Nat} {x : List Nat} {ts : List (List Nat)} {bg e : Nat} {σ : List (Nat × Nat)} {N M cn ob dp rq T : Nat} {s t : uS} (h : pb k fr x ts bg e σ N M cn ob dp rq T s t) : ∃ s1 t1 : uS, fn_X2_next s = some s1 ∧ fn_X12_next t = some t1 ∧ out lnI' lqF s s1 ∧ out rnI (rqP bg) t t1 ∧ ((∃ b1 e1 : Nat, e ≤ b1 ∧ pj k fr x ts bg b1 e1 σ N M cn ob dp rq T s1 t1) ∨ ∃ (p : Nat) (s2 : uS), p ≤ x.length ∧ pd T s1 = some (s2, nI (1 + lnc x p)) ∧ out psI psI s1 s2 ∧ fO p t1) := by
  obtain ⟨hl, hm, hr, hk⟩ := h
  obtain ⟨s1, t1, b, e1, h1, h2, h3, h4, h5, h6⟩ := lx_next hl
  refine ⟨s1, t1, h2, h3, h4, h5, ?_⟩
  obtain ⟨m1, m2, m3, m4, m5, m6⟩ := hm
  obtain ⟨r1, r2, r3, r4, r5, r6, r7, r8⟩ := hr
  obtain ⟨k1, k2, k3, k4, k5, k6, k7, k8, k9, k10, k11, k12, k13⟩ := hk
  have hx := hl.1.2.2.1
  have hfr := hl.1.2.2.2.1
  have hI : ∀ f : Nat, s1.I 6 f = s.I 6 f := fun f => h4.2.1 _ _ (by unfold lnI'; omega)
  have hF : ∀ r f : Nat, r = 14 ∨ r = 15 → s1.F r f = s.F r f := fun r f h => h4.2.2 _ _ (by unfold lqF; omega)
  have hJ : ∀ f : Nat, 41 ≤ f → t1.I 1079 f = t.I 1079 f := fun f h => h5.2.1 _ _ (by unfold rnI; omega)
  have hG : ∀ r f : Nat, 1098 ≤ r → t1.F r f = t.F r f := fun r f h => h5.2.2 _ _ (by unfold rqP; omega)
  have hP : ∀ f : Nat, f < bg → t1.F 1097 f = t.F 1097 f := fun f h => h5.2.2 _ _ (by unfold rqP; omega)
  have hs : stk s1 σ := m2.fr (fun i hi => ⟨hF 14 i (Or.inl rfl), hF 15 i (Or.inr rfl)⟩)
  have ls : lsO t1 := fun n hn => by rw [hG 1099 n (by omega), hG 1100 n (by omega)]; exact r8 n hn
  have fine : tkf k fr x ts bg b e1 s1 t1 → (∃ b1 e1 : Nat, e ≤ b1 ∧ pj k fr x ts bg b1 e1 σ N M cn ob dp rq T s1 t1) ∨ ∃ (p : Nat) (s2 : uS), p ≤ x.length ∧ pd T s1 = some (s2, nI (1 + lnc x p)) ∧ out psI psI s1 s2 ∧ fO p t1 := by
    intro z
    refine Or.inl ⟨b, e1, h1, z, ⟨(hI 5).trans m1, hs, (hI 2).trans m3, (hI 6).trans m4, (hI 7).trans m5, (hI 8).trans m6⟩, ⟨(hJ _ (by omega)).trans r1, (hJ _ (by omega)).trans r2, (hJ _ (by omega)).trans r3, (hJ _ (by omega)).trans r4, (hJ _ (by omega)).trans r5, (hJ _ (by omega)).trans r6, r7.out (fun j hj => ⟨hG 1116 j (by omega), hG 1117 j (by omega)⟩) hP, ls⟩, ?_, k2, k3, by omega, k5, k6, k7, k8, k9, k10, k11, k12, by omega⟩
    have : uCl s1 k = uCl s k := by unfold uCl; rw [h4.1.1]
    rw [this]; exact k1
  rcases h6 with z | z | z | z | z | z | z
  · exact fine (Or.inl z)
  · exact fine (Or.inr (Or.inl z))
  · exact fine (Or.inr (Or.inr (Or.inl z)))
  · exact fine (Or.inr (Or.inr (Or.inr (Or.inl z))))
  · exact fine (Or.inr (Or.inr (Or.inr (Or.inr (Or.inl z)))))
  · exact fine (Or.inr (Or.inr (Or.inr (Or.inr (Or.inr z)))))
  · obtain ⟨b1, b2, b3, b4, b5, b6, b7, b8⟩ := z
    refine Or.inr ⟨b, ?_⟩
    have hfo : fO b t1 := ⟨by omega, b6, ⟨M, by omega, (hJ _ (by omega)).trans r1⟩, ls⟩
    rcases b8 with z | ⟨z1, z2, z3, z4, z5⟩
    · refine ⟨s1, b1, ?_, out_r, hfo⟩
      unfold pd pD4 fb_X4_parse_46 fb_X4_parse_84
      rw [if_pos z, c_lineAt b2 b3 b4 b5 b1 hx, Option.bind_some]
    · obtain ⟨s2, q1, q2⟩ := text_ref (k := k) (fr := fr) (x := x) (b := b) (e := e1) σ (999999 - T) T s1 (by omega) k6 hs ((hI 5).trans m1) ⟨N, by omega, (hI 2).trans m3⟩ (by omega) (by omega) ⟨z1, z3, by omega, z4, b5, z5, k2⟩
      exact ⟨s2, b1, q1, q2, hfo⟩
