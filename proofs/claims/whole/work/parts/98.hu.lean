/-! what sessions read, and what a loss of power leaves -/
theorem pR.fr {u p : Nat} {t t1 : uS} {cur : List Nat} (h : pR u t p cur) (hp : p < 3) (hr : ∀ k f : Nat, rPl u k f → t1.F k f = t.F k f) : pR u t1 p cur := by
  unfold pR at h ⊢
  by_cases c : p = 2
  · rw [if_pos c] at h ⊢
    exact (hr _ _ (by unfold rPl; omega)).trans h
  · rw [if_neg c] at h ⊢
    exact ⟨(hr _ _ (by unfold rPl; omega)).trans h.1, fun j hj => (hr _ _ (by unfold rPl; omega)).trans (h.2 j hj)⟩
theorem pE.fu {u st v : Nat} {t t1 : uS} {w cur : List Nat} {ps : List (Nat × List Nat)} (h : pE u t st v w ps cur) (hr : ∀ k f : Nat, rPl u k f → t1.F k f = t.F k f) : pE u t1 st v w ps cur := by
  unfold pE at h ⊢
  by_cases c0 : st = 0
  · rw [if_pos c0] at h ⊢; exact h
  · rw [if_neg c0] at h ⊢
    obtain ⟨h1, h2⟩ := h
    refine ⟨(hr _ _ (by unfold rPl; omega)).trans h1, ?_⟩
    by_cases c1 : st = 1
    · rw [if_pos c1] at h2 ⊢; exact h2
    · rw [if_neg c1] at h2 ⊢
      by_cases c2 : st = 10 ∨ st = 11
      · rw [if_pos c2] at h2 ⊢; exact h2
      · rw [if_neg c2] at h2 ⊢
        exact ⟨h2.1, h2.2.1.fr h2.1 hr, h2.2.2⟩
theorem pS.fr {u : Nat} {s t s1 t1 : uS} (h : pS u s t) (hc : ∀ k f : Nat, sPl (978 + 16 * u) k f → s1.I k f = s.I k f ∧ s1.F k f = s.F k f) (hr : ∀ k f : Nat, rPl u k f → t1.F k f = t.F k f) : pS u s1 t1 := by
  obtain ⟨st, v, d, pc, ⟨a1, a2, a3, a4, a5, a6, a7, a8, a9, a10, a11⟩, hx⟩ := h
  have cI : ∀ k f : Nat, 978 + 16 * u ≤ k → k ≤ 984 + 16 * u → s1.I k f = s.I k f := fun k f y1 y2 => (hc k f ⟨y1, by omega⟩).1
  have cF : ∀ k f : Nat, 978 + 16 * u ≤ k → k ≤ 984 + 16 * u → s1.F k f = s.F k f := fun k f y1 y2 => (hc k f ⟨y1, by omega⟩).2
  have rF : ∀ k : Nat, 1156 ≤ k → k ≤ 1166 → k ≠ 1158 → k ≠ 1164 → t1.F k u = t.F k u := fun k y1 y2 y3 y4 => hr _ _ (Or.inl ⟨y1, y2, y3, y4, rfl⟩)
  refine ⟨st, v, d, pc, ⟨a1, (cI _ _ (by omega) (by omega)).trans a2, (rF _ (by omega) (by omega) (by omega) (by omega)).trans a3, (cI _ _ (by omega) (by omega)).trans a4, (rF _ (by omega) (by omega) (by omega) (by omega)).trans a5, (cI _ _ (by omega) (by omega)).trans a6, (rF _ (by omega) (by omega) (by omega) (by omega)).trans a7, a8, a9, (cI _ _ (by omega) (by omega)).trans a10, (rF _ (by omega) (by omega) (by omega) (by omega)).trans a11⟩, ?_⟩
  rcases hx with hx | ⟨w, ps, bg, cur, ⟨w1, w2, w3, w4, w5, w6⟩, hD, hE⟩
  · exact Or.inl hx
  · refine Or.inr ⟨w, ps, bg, cur, ⟨w1, w2, (cI _ _ (by omega) (by omega)).trans w3, fun j y1 y2 => (cF _ _ (by omega) (by omega)).trans (w4 j y1 y2), (rF _ (by omega) (by omega) (by omega) (by omega)).trans w5, fun j y1 y2 => (hr _ _ (by unfold rPl; omega)).trans (w6 j y1 y2)⟩, ?_, hE.fu hr⟩
    exact hD.fr (funext fun f => cI _ _ (by omega) (by omega)) (funext fun f => cF _ _ (by omega) (by omega)) (funext fun f => cF _ _ (by omega) (by omega)) (funext fun f => cF _ _ (by omega) (by omega)) (funext fun f => cF _ _ (by omega) (by omega)) (rF _ (by omega) (by omega) (by omega) (by omega)) (rF _ (by omega) (by omega) (by omega) (by omega)) (fun p y1 y2 => hr _ _ (by unfold rPl; omega)) (fun p j y1 y2 y3 => hr _ _ (by unfold rPl; omega))
theorem tS.fr {gr : Bool} {sd : Option (List Nat)} {rcs : List (List Nat)} {us : List Nat} {s t s1 t1 : uS} (h : tS gr sd rcs us s t) (hc : ∀ k : Nat, 1042 ≤ k → k ≤ 1052 → s1.I k = s.I k ∧ s1.F k = s.F k) (hi : ∀ f : Nat, f = 13 ∨ f = 93 ∨ 113 ≤ f → t1.I 1079 f = t.I 1079 f) (hf : ∀ k : Nat, k = 1087 ∨ k = 1137 ∨ (1144 ≤ k ∧ k ≤ 1148) → t1.F k = t.F k) : tS gr sd rcs us s1 t1 := by
  obtain ⟨h1, h2, h3, h4, h5, ⟨b4, h6, h7⟩, ⟨r1', r2', r3', r4'⟩, h9⟩ := h
  have cI : ∀ k f : Nat, 1042 ≤ k → k ≤ 1052 → s1.I k f = s.I k f := fun k f y1 y2 => by rw [(hc k y1 y2).1]
  have cF : ∀ k : Nat, 1042 ≤ k → k ≤ 1052 → s1.F k = s.F k := fun k y1 y2 => (hc k y1 y2).2
  refine ⟨(cI _ _ (by omega) (by omega)).trans h1, (hi _ (by omega)).trans h2, h3.fr (cI _ _ (by omega) (by omega)) (cI _ _ (by omega) (by omega)) (cI _ _ (by omega) (by omega)) (cF _ (by omega) (by omega)) (cF _ (by omega) (by omega)) (cF _ (by omega) (by omega)), (hi _ (by omega)).trans h4, fun x hx => ?_, ⟨b4, h6, h7.fr (cI _ _ (by omega) (by omega)) (cI _ _ (by omega) (by omega)) (cI _ _ (by omega) (by omega)) (cF _ (by omega) (by omega)) (cF _ (by omega) (by omega)) (cF _ (by omega) (by omega))⟩, ⟨r1', r2', (hi _ (by omega)).trans r3', fun i hi' => ?_⟩, h9⟩
  · obtain ⟨y1, y2, y3, y4, y5⟩ := h5 x hx
    exact ⟨y1, (hi _ (by omega)).trans y2, y3, y4, fun j hj => by rw [hf _ (by omega)]; exact y5 j hj⟩
  · obtain ⟨y1, y2, y3, y4, y5, y6⟩ := r4' i hi'
    exact ⟨y1, y2, y3, by rw [hf _ (by omega)]; exact y4, by rw [hf _ (by omega)]; exact y5, fun j hj => by rw [hf _ (by omega)]; exact y6 j hj⟩
theorem dS.fr {κ τ : Nat} {s t s1 t1 : uS} (h : dS κ τ s t) (hc : ∀ k : Nat, 1042 ≤ k → k ≤ 1052 → s1.I k = s.I k ∧ s1.F k = s.F k) (hi : ∀ f : Nat, f = 13 ∨ f = 93 ∨ 113 ≤ f → t1.I 1079 f = t.I 1079 f) (hf : ∀ k : Nat, k = 1087 ∨ k = 1137 ∨ (1144 ≤ k ∧ k ≤ 1148) → t1.F k = t.F k) : dS κ τ s1 t1 := by
  have c2 : s1.I 1042 = s.I 1042 := (hc 1042 (by omega) (by omega)).1
  rcases h with ⟨a, b⟩ | ⟨a, b, gr, sd, rcs, us, c, d⟩
  · exact Or.inl ⟨by rw [c2]; exact a, (hi _ (by omega)).trans b⟩
  · refine Or.inr ⟨by rw [c2]; exact a, (hi _ (by omega)).trans b, gr, sd, rcs, us, c.fr hc hi hf, ?_⟩
    rcases d with ⟨L, ⟨fl, Lr, d1, ⟨d2, d3⟩, ⟨d4, d5⟩, d6, d7, d8, d9, d10⟩, d11⟩ | ⟨d1, d2, T, ⟨m, fl, pd, dot, cnt, Tr, e1, ⟨e2, e3⟩, ⟨e4, e5⟩, e6, e7, e8, e9, e10, e11, e12, e13⟩, d4, d5, d6⟩
    · exact Or.inl ⟨L, ⟨fl, Lr, d1, ⟨by rw [c2]; exact d2, fun j y1 y2 => by rw [(hc 1052 (by omega) (by omega)).2]; exact d3 j y1 y2⟩, ⟨(hi _ (by omega)).trans d4, fun j y1 y2 => by rw [hf _ (by omega)]; exact d5 j y1 y2⟩, by rw [c2]; exact d6, by rw [c2]; exact d7, (hi _ (by omega)).trans d8, (hi _ (by omega)).trans d9, d10⟩, d11⟩
    · exact Or.inr ⟨d1, d2, T, ⟨m, fl, pd, dot, cnt, Tr, e1, ⟨by rw [c2]; exact e2, fun j y1 y2 => by rw [(hc 1051 (by omega) (by omega)).2]; exact e3 j y1 y2⟩, ⟨(hi _ (by omega)).trans e4, fun j y1 y2 => by rw [hf _ (by omega)]; exact e5 j y1 y2⟩, by rw [c2]; exact e6, by rw [c2]; exact e7, (hi _ (by omega)).trans e8, (hi _ (by omega)).trans e9, (hi _ (by omega)).trans e10, (hi _ (by omega)).trans e11, e12, e13⟩, d4, by rw [c2]; exact d5, (hi _ (by omega)).trans d6⟩
/-! a loss of power -/
def loI (k f : Nat) : Prop := (k = 0 ∧ (f = 15 ∨ f = 16)) ∨ k = 1042 ∨ k = 1043 ∨ k = 1047 ∨ ((k = 978 ∨ k = 979 ∨ k = 994 ∨ k = 995 ∨ k = 1010 ∨ k = 1011 ∨ k = 1026 ∨ k = 1027) ∧ 3 ≤ f ∧ f ≤ 5)
theorem rst_lo {k : Nat} (s : uS) (hk : k = 978 ∨ k = 994 ∨ k = 1010 ∨ k = 1026) : out loI rNo s (c_rst s k) := by
  unfold c_rst
  exact out_I (out_I (out_I (out_I (out_I out_r (by unfold loI; omega)) (by unfold loI; omega)) (by unfold loI; omega)) (by unfold loI; omega)) (by unfold loI; omega)
theorem cls_lo (s : uS) : out loI rNo s (c_cls s) := by
  unfold c_cls
  exact out_I (out_I (out_I (out_I (out_I (out_I (out_I (out_I (out_I (out_I (out_I out_r (by unfold loI; omega)) (by unfold loI; omega)) (by unfold loI; omega)) (by unfold loI; omega)) (by unfold loI; omega)) (by unfold loI; omega)) (by unfold loI; omega)) (by unfold loI; omega)) (by unfold loI; omega)) (by unfold loI; omega)) (by unfold loI; omega)
theorem lose_lo (s : uS) : out loI rNo s (c_lose s) := by
  unfold c_lose
  exact out_t (out_t (out_t (out_t (out_t (out_I out_r (by unfold loI; omega)) (cls_lo _)) (rst_lo _ (by omega))) (rst_lo _ (by omega))) (rst_lo _ (by omega))) (rst_lo _ (by omega))
theorem rst_z {u : Nat} {s1 : uS} (c1 : s1.I (978 + 16 * u) 4 = 0 ∧ s1.I (978 + 16 * u) 5 = 0 ∧ s1.I (979 + 16 * u) 3 = 0 ∧ s1.I (979 + 16 * u) 4 = 0 ∧ s1.I (979 + 16 * u) 5 = 0) : c_rst s1 (978 + 16 * u) = s1 := by
  unfold c_rst
  rw [wI_self (show s1.I (978 + 16 * u + 1) 3 = 0 by rw [show 978 + 16 * u + 1 = 979 + 16 * u by omega]; exact c1.2.2.1), wI_self (show s1.I (978 + 16 * u + 1) 4 = 0 by rw [show 978 + 16 * u + 1 = 979 + 16 * u by omega]; exact c1.2.2.2.1), wI_self (show s1.I (978 + 16 * u + 1) 5 = 0 by rw [show 978 + 16 * u + 1 = 979 + 16 * u by omega]; exact c1.2.2.2.2), wI_self c1.1, wI_self c1.2.1]
def roI (k f : Nat) : Prop := k = 1079 ∧ (f = 0 ∨ f = 3 ∨ f = 113)
def roF (k f : Nat) : Prop := (k = 1156 ∨ k = 1157 ∨ k = 1160 ∨ k = 1166) ∧ f < 4
theorem frs_lo {u : Nat} (hu : u < 4) (t : uS) : out roI roF t (r_frs t u) := by
  unfold r_frs
  exact out_F (out_F (out_F (out_F out_r (by unfold roF; omega)) (by unfold roF; omega)) (by unfold roF; omega)) (by unfold roF; omega)
theorem rlose_lo (t : uS) : out roI roF t (r_lose t) := by
  unfold r_lose
  exact out_t (out_t (out_t (out_t (out_I (out_I (out_I out_r (by unfold roI; omega)) (by unfold roI; omega)) (by unfold roI; omega)) (frs_lo (by decide) _)) (frs_lo (by decide) _)) (frs_lo (by decide) _)) (frs_lo (by decide) _)
theorem lose_u {u : Nat} (hu : u < 4) (s : uS) : (c_lose s).I (978 + 16 * u) 4 = 0 ∧ (c_lose s).I (978 + 16 * u) 5 = 0 ∧ (c_lose s).I (979 + 16 * u) 3 = 0 ∧ (c_lose s).I (979 + 16 * u) 4 = 0 ∧ (c_lose s).I (979 + 16 * u) 5 = 0 := by
  rcases (show u = 0 ∨ u = 1 ∨ u = 2 ∨ u = 3 by omega) with rfl | rfl | rfl | rfl <;> exact ⟨rfl, rfl, rfl, rfl, rfl⟩
theorem rlose_u {u : Nat} (hu : u < 4) (t : uS) : (r_lose t).F 1156 u = 0 ∧ (r_lose t).F 1157 u = 0 ∧ (r_lose t).F 1160 u = 0 ∧ (r_lose t).F 1166 u = 0 := by
  rcases (show u = 0 ∨ u = 1 ∨ u = 2 ∨ u = 3 by omega) with rfl | rfl | rfl | rfl <;> exact ⟨rfl, rfl, rfl, rfl⟩
/-- what both hold between two calls, tape and room aside -/
def gK (dy κ τ : Nat) (pw : Bool) (s t : uS) : Prop := wW dy s t ∧ (∃ cm ct : Nat, cN s pw dy cm ct ∧ rN t pw dy cm ct) ∧ 1171 ≤ s.n ∧ 1171 ≤ t.n ∧ lsO t ∧ dS κ τ s t ∧ ∀ u : Nat, u < 4 → pS u s t
theorem pS_lost {u : Nat} (hu : u < 4) {s t s1 t1 : uS} (h : pV u s t) (o : out loI rNo s s1) (q : out roI roF t t1) (c1 : s1.I (978 + 16 * u) 4 = 0 ∧ s1.I (978 + 16 * u) 5 = 0 ∧ s1.I (979 + 16 * u) 3 = 0 ∧ s1.I (979 + 16 * u) 4 = 0 ∧ s1.I (979 + 16 * u) 5 = 0) (c2 : t1.F 1156 u = 0 ∧ t1.F 1157 u = 0 ∧ t1.F 1160 u = 0 ∧ t1.F 1166 u = 0) : pS u s1 t1 := by
  obtain ⟨v, d, pc, a1, a2, a3, a4, a5, a6, a7, a8⟩ := h
  have a : pA (978 + 16 * u) u (wI s (978 + 16 * u) 5 (nI 0)) (wF t 1156 u (nI (rmd 0))) 0 v d pc := ⟨by decide, wI_e _ _ _ _, wF_e _ _ _ _, by rw [wI_o (by omega)]; exact a1, by rw [wF_o (by omega)]; exact a2, by rw [wI_o (by omega)]; exact a3, by rw [wF_o (by omega)]; exact a4, a5, a6, by rw [wI_o (by omega)]; exact a7, by rw [wF_o (by omega)]; exact a8⟩
  have hN := pS_new (s1 := s1) (t1 := t1) hu a (by rw [wI_o (by omega)]; exact o.2.1 _ _ (by unfold loI; omega)) (by rw [wI_o (by omega)]; exact o.2.1 _ _ (by unfold loI; omega)) (by rw [wI_o (by omega)]; exact o.2.1 _ _ (by unfold loI; omega)) (by rw [wF_o (by omega)]; exact q.2.2 _ _ (by unfold roF; omega)) (by rw [wF_o (by omega)]; exact q.2.2 _ _ (by unfold roF; omega)) (by rw [wF_o (by omega)]; exact q.2.2 _ _ (by unfold roF; omega)) c2.1 c2.2.1 c2.2.2.1 c2.2.2.2
  have e : c_rst s1 (978 + 16 * u) = s1 := rst_z c1
  rw [e] at hN
  exact hN
theorem dj.o {PI PF : Nat → Nat → Prop} {s s1 : uS} (h : dj s) (o : out PI PF s s1) (h1 : ∀ u : Nat, u < 4 → ¬ PI (985 + 16 * u) 3) : dj s1 := by
  have eP : s1.P = s.P := o.1.2.2.2.1
  have eO : ∀ k : Nat, oE s1 k → oE s k := fun k z => by unfold oE at z ⊢; rw [eP] at z; exact z
  have eS : ∀ u k : Nat, u < 4 → isScr s1 u k → isScr s u k := fun u k hu z => isScr_e (o.2.1 _ _ (h1 u hu)) (by rw [eP]) z
  refine ⟨fun k hk => ⟨?_, fun u hu z => (h.1 k (eO k hk)).2 u hu (eS u k hu z)⟩, fun u v k hu hv huv z1 z2 => h.2 u v k hu hv huv (eS u k hu z1) (eS v k hv z2)⟩
  rw [o.1.2.2.2.2.1]
  exact (h.1 k (eO k hk)).1
/-- the power has gone -/
theorem gK_lost {dy cm : Nat} {s t : uS} (h1 : wW dy s t) (h2 : cN s true dy cm 1 ∧ rN t true dy cm 1) (h3 : 1171 ≤ s.n) (h4 : 1171 ≤ t.n) (h5 : lsO t) (h7 : ∀ u : Nat, u < 4 → pV u s t) : gK dy 0 0 false (c_lose (wI s 0 15 0)) (r_lose t) ∧ (c_lose (wI s 0 15 0)).n = s.n ∧ (c_lose (wI s 0 15 0)).m = s.m ∧ ∀ u : Nat, u < 4 → (c_lose (wI s 0 15 0)).I (978 + 16 * u) 4 = 0 := by
  obtain ⟨s1, hs1⟩ : ∃ s1, s1 = c_lose (wI s 0 15 0) := ⟨_, rfl⟩
  obtain ⟨t1, ht1⟩ : ∃ t1, t1 = r_lose t := ⟨_, rfl⟩
  have o : out loI rNo s s1 := by rw [hs1]; exact out_t (out_I out_r (by unfold loI; omega)) (lose_lo _)
  have q : out roI roF t t1 := by rw [ht1]; exact rlose_lo t
  have hu : ∀ u : Nat, u < 4 → _ := fun u hu => by have := lose_u hu (wI s 0 15 0); rw [← hs1] at this; exact this
  have hru : ∀ u : Nat, u < 4 → _ := fun u hu => by have := rlose_u hu t; rw [← ht1] at this; exact this
  have z4 : s1.I 1042 4 = 0 := by rw [hs1]; rfl
  have z113 : t1.I 1079 113 = 0 := by rw [ht1]; rfl
  have z16 : s1.I 0 16 = 0 := by rw [hs1]; rfl
  have z15 : s1.I 0 15 = 0 := by rw [hs1]; rfl
  have y0 : t1.I 1079 0 = 0 := by rw [ht1]; rfl
  have y3 : t1.I 1079 3 = 0 := by rw [ht1]; rfl
  rw [← hs1, ← ht1]
  obtain ⟨⟨a1, a2, a3, a4, a5⟩, b1, b2, b3, b4, b5⟩ := h2
  refine ⟨⟨h1.k h3 ?_ (out_w o ?_ (fun _ _ z => z.elim)) (out_w q ?_ ?_), ⟨cm, 0, ⟨z16, (o.2.1 _ _ (by unfold loI; omega)).trans a2, (o.2.1 _ _ (by unfold loI; omega)).trans a3, z15, by decide⟩, y0, (q.2.1 _ _ (by unfold roI; omega)).trans b2, (q.2.1 _ _ (by unfold roI; omega)).trans b3, y3, by decide⟩, by rw [o.1.2.2.2.2.1]; exact h3, by rw [q.1.2.2.2.2.1]; exact h4, h5.o q (fun k f a => by unfold roF; omega), Or.inl ⟨z4, z113⟩, fun u hu4 => pS_lost hu4 (h7 u hu4) o q (hu u hu4) (hru u hu4)⟩, o.1.2.2.2.2.1, o.1.2.2.2.2.2, fun u hu4 => (hu u hu4).1⟩
  · exact pQ_o (h1.2.2.2.1 4 (by decide)) o q (fun k f a => ⟨by unfold loI; omega, fun z => z⟩) (fun k f a => by unfold roF; omega)
  · intro k f z; unfold loI at z; unfold clK; omega
  · intro k f z; unfold roI at z; unfold rkJ; omega
  · intro k f z; unfold roF at z; unfold rkG qR; omega
