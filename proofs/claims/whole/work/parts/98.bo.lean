/-! manage: the loop over bytes -/
theorem oc_t' {PI PF PR PR' PP : Nat → Nat → Prop} {s s1 s2 : uS} (h : oc PI PF PR PP s s1) (g : oc PI PF PR' PP s1 s2) (hR : ∀ k f : Nat, k < s.n → PR' k f → PR k f) : oc PI PF PR PP s s2 := by
  obtain ⟨a1, a2, a3, a4, a5, a6, a7⟩ := h
  obtain ⟨b1, b2, b3, b4, b5, b6, b7⟩ := g
  exact ⟨by omega, fun k h => (b2 k (by omega)).trans (a2 k h), fun k h => (b3 k (by omega)).trans (a3 k h), fun k f h n => (b4 k f (by omega) n).trans (a4 k f h n), fun k f h n => (b5 k f (by omega) n).trans (a5 k f h n), fun k f h n => (b6 k f (by omega) (fun z => n (hR k f h z))).trans (a6 k f h n), fun k f h n => (b7 k f (by omega) n).trans (a7 k f h n)⟩
def mgI (u k f : Nat) : Prop := cmI u k f ∨ sPl (978 + 16 * u) k f
def mgF (u k f : Nat) : Prop := cmF u k f ∨ sPl (978 + 16 * u) k f
def mrF (u k f : Nat) : Prop := rmF u k f ∨ rPl u k f
def pLw (u : Nat) (s0 t0 s t : uS) : Prop := (∃ dy cm ct : Nat, cN s true dy cm ct ∧ rN t true dy cm ct) ∧ pQ1 u s t ∧ pT u s t ∧ oc (mgI u) (mgF u) (cmR s0 u) (cmP u) s0 s ∧ ol rmI (mrF u) (rmL u) t0 t ∧ ∀ k : Nat, k < s0.n → isScr s u k → isScr s0 u k
/-- room, with what the bytes to come may cost -/
def mRoom (u : Nat) (s : uS) (d Bn Bm : Nat) : Prop := ∃ ws : Nat, ws ≤ 13 ∧ s.I (978 + 16 * u) 4 = nI ws ∧ s.n + d + ws ≤ Bn ∧ s.m + 450 * d + 450 * ws ≤ Bm
theorem cN.out {PI PF : Nat → Nat → Prop} {s s1 : uS} {pw : Bool} {dy cm ct : Nat} (h : cN s pw dy cm ct) (o : ∀ f : Nat, s1.I 0 f = s.I 0 f) : cN s1 pw dy cm ct := by
  obtain ⟨a1, a2, a3, a4, a5⟩ := h
  exact ⟨(o _).trans a1, (o _).trans a2, (o _).trans a3, (o _).trans a4, a5⟩
/-- steps of the session alone -/
theorem pLw.go {u : Nat} (hu : u < 4) {s0 t0 s t s1 t1 : uS} (hs0 : 1171 ≤ s0.n) (h : pLw u s0 t0 s t) (g2 : out (sPl (978 + 16 * u)) (sPl (978 + 16 * u)) s s1) (g3 : out rNo (rPl u) t t1) : pLw u s0 t0 s1 t1 := by
  obtain ⟨⟨dy, cm, ct, h1, h2⟩, ⟨xs, x1, x2, x3⟩, ⟨scs, ac, ⟨es, h4⟩, sl, h5⟩, h6, h7, h8⟩ := h
  have hq := qk_u hu
  refine ⟨⟨dy, cm, ct, ?_, ?_⟩, ⟨xs, ?_, ?_, x3⟩, ⟨scs, ac, ⟨es, ?_⟩, sl, ?_⟩, oc_t h6 (oc_w (oc_out g2) (fun k f h => Or.inr h) (fun k f h => Or.inr h) (fun _ _ h => h) (fun _ _ h => h)), ol_t h7 (ol_w (ol_out g3) (fun _ _ h => h.elim) (fun _ _ h => Or.inr h) (fun _ _ h => h)), fun k hk z => h8 k hk (z.fr (g2.2.1 _ _ (by unfold sPl; omega)) (by rw [g2.1.2.2.2.1]))⟩
  · obtain ⟨a1, a2, a3, a4, a5⟩ := h1
    exact ⟨(g2.2.1 _ _ (by unfold sPl; omega)).trans a1, (g2.2.1 _ _ (by unfold sPl; omega)).trans a2, (g2.2.1 _ _ (by unfold sPl; omega)).trans a3, (g2.2.1 _ _ (by unfold sPl; omega)).trans a4, a5⟩
  · obtain ⟨a1, a2, a3, a4, a5⟩ := h2
    exact ⟨(g3.2.1 _ _ (fun h => h)).trans a1, (g3.2.1 _ _ (fun h => h)).trans a2, (g3.2.1 _ _ (fun h => h)).trans a3, (g3.2.1 _ _ (fun h => h)).trans a4, a5⟩
  · exact x1.fr (funext fun f => g2.2.1 _ _ (by unfold sPl; omega)) (funext fun f => g2.2.2 _ _ (by unfold sPl; omega))
  · exact x2.fr (funext fun f => g3.2.2 _ _ (by unfold rPl; omega)) (funext fun f => g3.2.2 _ _ (by unfold rPl; omega))
  · refine h4.fr (Nat.le_of_eq g2.1.2.2.2.2.1.symm) (fun k _ => by rw [g2.1.1]) (g2.2.1 _ _ (by unfold sPl; omega)) (by rw [g2.1.2.2.2.1]) (by rw [g2.1.2.1]) (fun i hi => by rw [g2.1.2.1]) (fun k hk _ => funext fun f => g2.2.2 _ _ (by unfold sPl; omega))
  · exact h5.fr (g3.2.2 _ _ (by unfold rPl; omega)) (g3.2.2 _ _ (by unfold rPl; omega)) (fun f _ _ => ⟨g3.2.2 _ _ (by unfold rPl; omega), g3.2.2 _ _ (by unfold rPl; omega), g3.2.2 _ _ (by unfold rPl; omega)⟩) (fun f _ _ => g3.2.2 _ _ (by unfold rPl; omega)) (fun f _ _ => by rw [g3.1.2.2.1])
/-- a whole command -/
theorem pLw.mid {u : Nat} {s0 t0 s t s1 t1 : uS} (h : pLw u s0 t0 s t) (ot : out rNo (rPl u) t (r_frs t u)) (g : pMid u s (r_frs t u) s1 t1) : pLw u s0 t0 s1 t1 := by
  obtain ⟨-, -, -, h6, h7, h8⟩ := h
  obtain ⟨g1, g2, g3, g4, g5, g6⟩ := g
  refine ⟨g1, g2, g3, oc_t' h6 (oc_w g4 (fun k f h => Or.inl h) (fun k f h => Or.inl h) (fun _ _ h => h) (fun _ _ h => h)) ?_, ol_t (ol_t h7 (ol_w (ol_out ot) (fun _ _ h => h.elim) (fun _ _ h => Or.inr h) (fun _ _ h => h))) (ol_w g5 (fun _ _ h => h) (fun _ _ h => Or.inl h) (fun _ _ h => h)), fun k hk z => h8 k hk (g6 k (by have := h6.1; omega) z)⟩
  intro k f hk z
  rcases z with z | z | z
  · exact Or.inl z
  · exact Or.inr (Or.inl z)
  · exact Or.inr (Or.inr (h8 k hk z))
theorem frs_out {u : Nat} (t : uS) : out rNo (rPl u) t (r_frs t u) := by
  unfold r_frs
  exact out_F (out_F (out_F (out_F out_r (by unfold rPl; omega)) (by unfold rPl; omega)) (by unfold rPl; omega)) (by unfold rPl; omega)
theorem rst_out {K : Nat} (s : uS) : out (sPl K) (sPl K) s (c_rst s K) := by
  unfold c_rst
  exact out_I (out_I (out_I (out_I (out_I out_r ⟨by omega, by omega⟩) ⟨by omega, by omega⟩) ⟨by omega, by omega⟩) ⟨by omega, by omega⟩) ⟨by omega, by omega⟩
/-- a session anew -/
theorem pS_new {u : Nat} (hu : u < 4) {s t s1 t1 : uS} {st v d : Nat} {pc : Bool} (h : pA (978 + 16 * u) u s t st v d pc) (h1 : s1.I (978 + 16 * u) 1 = s.I (978 + 16 * u) 1) (h6 : s1.I (978 + 16 * u) 6 = s.I (978 + 16 * u) 6) (h7 : s1.I (978 + 16 * u) 7 = s.I (978 + 16 * u) 7) (g1 : t1.F 1161 u = t.F 1161 u) (g2 : t1.F 1162 u = t.F 1162 u) (g3 : t1.F 1163 u = t.F 1163 u) (z1 : t1.F 1156 u = 0) (z2 : t1.F 1157 u = 0) (z3 : t1.F 1160 u = 0) (z4 : t1.F 1166 u = 0) : pS u (c_rst s1 (978 + 16 * u)) t1 := by
  obtain ⟨a1, a2, a3, a4, a5, a6, a7, a8, a9, a10, a11⟩ := h
  unfold c_rst
  refine ⟨0, v, d, pc, ⟨by decide, ?_, z1, ?_, g1.trans a5, ?_, g2.trans a7, a8, a9, ?_, g3.trans a11⟩, Or.inr ⟨[], [], 0, [], ⟨by decide, bys_nil, ?_, fun j _ hj => absurd hj (Nat.not_lt_zero j), z2, fun j _ hj => absurd hj (Nat.not_lt_zero j)⟩, ⟨?_, Nat.le_refl _, fun i hi => absurd hi (Nat.not_lt_zero i), z3, z4, fun p _ hp => absurd hp (Nat.not_lt_zero p)⟩, ⟨rfl, rfl⟩⟩⟩
  · rw [wI_e]; rfl
  · rw [wI_o (by omega), wI_o (by omega), wI_o (by omega), wI_o (by omega), wI_o (by omega), h1]; exact a4
  · rw [wI_o (by omega), wI_o (by omega), wI_o (by omega), wI_o (by omega), wI_o (by omega), h6]; exact a6
  · rw [wI_o (by omega), wI_o (by omega), wI_o (by omega), wI_o (by omega), wI_o (by omega), h7]; exact a10
  · rw [wI_o (by omega), wI_e]; rfl
  · refine (tz_clear (s := s1) (k := 978 + 16 * u + 1) (cap := 6000) (mo := 3)).fr ?_ ?_ ?_ rfl rfl rfl
    · rw [wI_o (by omega), wI_o (by omega)]
    · rw [wI_o (by omega), wI_o (by omega)]
    · rw [wI_o (by omega), wI_o (by omega)]
theorem frs_z {u : Nat} (t : uS) : (r_frs t u).F 1156 u = 0 ∧ (r_frs t u).F 1157 u = 0 ∧ (r_frs t u).F 1160 u = 0 ∧ (r_frs t u).F 1166 u = 0 := by
  unfold r_frs
  refine ⟨?_, ?_, ?_, ?_⟩
  · rw [wF_o (by omega), wF_o (by omega), wF_o (by omega), wF_e]
  · rw [wF_o (by omega), wF_o (by omega), wF_e]
  · rw [wF_o (by omega), wF_e]
  · rw [wF_e]
theorem rst_ws {K : Nat} (s : uS) : (c_rst s K).I K 4 = 0 := by
  unfold c_rst
  rw [wI_o (by omega), wI_e]
theorem rst_nm (s : uS) (K : Nat) : (c_rst s K).n = s.n ∧ (c_rst s K).m = s.m := ⟨rfl, rfl⟩
/-- the power has gone in a command -/
def mDead (u : Nat) (s0 t0 s1 t1 : uS) : Prop := ∃ s' t' s'' : uS, pLw u s0 t0 s' t' ∧ pLost s' t' s'' t1 ∧ s1 = c_rst s'' (978 + 16 * u)
theorem lose_pw (s : uS) : (c_lose s).I 0 16 = 0 := by
  unfold c_lose c_rst c_cls
  simp only [wI_I]
  simp
