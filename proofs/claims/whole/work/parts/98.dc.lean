/-! lists of a node on both sides; the tree of a test -/
def rlF (n ra j bg k f : Nat) : Prop := rLF j bg k f ∨ ((k = ra ∨ k = ra + 1) ∧ f = n)
def lsG (k fr : Nat) (x : List Nat) (ts : List (List Nat)) (bg e : Nat) (σ : List (Nat × Nat)) (N M cn ob dp rq i l n ra g : Nat) (s t : uS) (s1 : uS) (T1 : Nat) (t1 : uS) : Prop := ∃ (news : List (List Nat)) (bg1 b1 e1 : Nat), 1 ≤ news.length ∧ news.length ≤ 10 ∧ bg ≤ bg1 ∧ e ≤ b1 ∧ pj k fr x (ts ++ news) bg1 b1 e1 σ N M cn ob dp rq T1 s1 t1 ∧ s1.F (17 + 3 * i) l = nI ts.length ∧ s1.F (18 + 3 * i) l = nI news.length ∧ t1.F ra n = nI ts.length ∧ t1.F (ra + 1) n = nI news.length ∧ s1.I (16 + 3 * i) 11 = nI (flL l g news) ∧ flL l g news < 32 ∧ out (cLI i l) (cLF i l) s s1 ∧ ol rLI (rlF n ra ts.length bg) rNo t t1
theorem p_lst {k fr : Nat} {x : List Nat} {ts : List (List Nat)} {bg b e : Nat} {σ : List (Nat × Nat)} {N M cn ob dp rq T : Nat} {s t : uS} {i l g n ra : Nat} {K : uS → Option (uS × Int32)} {H : uS → Nat → uS → Nat → Prop} (h : pj k fr x ts bg b e ((11, 12 * i + l) :: σ) N M cn ob dp rq T s t) (hi : i < 320) (hl : lpl l) (hσ : σ.length ≤ 80) (hn : n < 520) (ha : s.F (18 + 3 * i) l = nI 0) (hg : s.I (16 + 3 * i) 11 = nI g) (hg2 : g < 32) (hra : ra = 1102 ∨ ra = 1104) (f : ∀ (p : Nat) (t1 : uS), fO p t1 → FV p t1 (K t1)) (c : ∀ (s1 : uS) (T1 : Nat) (t1 : uS), lsG k fr x ts bg e σ N M cn ob dp rq i l n ra g s t s1 T1 t1 → RV x s1 t1 (pd T1 s1) (K t1) H) : RV x s t (pd T s) ((iput 20 t ra (nI n) (t.I 1079 61)).bind fun s5 => (fn_X12_list s5).bind fun r7 => (iput 20 r7.1 (ra + 1) (nI n) r7.2).bind fun s9 => K s9) H := by
  have e1 : ∀ (t : uS) (v : Int32), iput 20 t ra (nI n) v = some (wF t ra n v) := fun t v => by
    rcases hra with z | z <;> rw [z]
    · exact p_1102 hn
    · exact p_1104 hn
  have e2 : ∀ (t : uS) (v : Int32), iput 20 t (ra + 1) (nI n) v = some (wF t (ra + 1) n v) := fun t v => by
    rcases hra with z | z <;> rw [z]
    · exact p_1103 hn
    · exact p_1105 hn
  rw [e1, Option.bind_some]
  have q0 : ol rdI rdF rNo t (wF t ra n (t.I 1079 61)) := ol_F ol_r (by unfold rdF; omega)
  have h1 := h.wF (r := ra) (n := n) (v := t.I 1079 61) (by omega)
  refine RV.pre (s := s) (t := wF t ra n (t.I 1079 61)) ?_ out_r q0
  refine (p_list h1 hi hl hσ ha hg hg2).vv (fun p t1 v hv z => ?_) ?_
  · dsimp only; rw [e2, Option.bind_some]
    exact FV.w (ol_F ol_r (by unfold rdF; omega)) (f p _ (z.F (by omega) (by omega)))
  rintro s1 T1 t1 v o q ⟨news, b1, e1', bg1, a1, a2, a3, a4, a5, a6, a7, a8, a9, a10, a11, a12⟩
  dsimp only; rw [e2, Option.bind_some]
  rw [Nat.zero_add] at a1
  refine RV.pre (s := s1) (t := wF t1 (ra + 1) n (nI v)) ?_ out_r (ol_F ol_r (by unfold rdF; omega))
  have hra1 : t1.F ra n = nI ts.length := by rw [a8.2.2.1 _ _ (by unfold rLF; omega), wF_e]; exact h.2.2.1.2.2.2.2.2.1
  refine c _ _ _ ⟨news, bg1, b1, e1', a2, by omega, a4, a5, a6.wF (by omega), ?_, by rw [a9, a1], ?_, ?_, a11, a12, a7, ?_⟩
  · rw [a10, if_pos rfl]
  · rw [wF_o (by omega)]; exact hra1
  · rw [wF_e, a1]
  · refine ol_F (ol_t (ol_F ol_r ?_) (ol_w a8 (fun _ _ z => z) (fun k f z => Or.inl z) (fun _ _ z => z))) ?_
    · exact Or.inr ⟨Or.inl rfl, rfl⟩
    · exact Or.inr ⟨Or.inr rfl, rfl⟩
theorem pj_dp {k fr : Nat} {x : List Nat} {ts : List (List Nat)} {bg b e : Nat} {σ : List (Nat × Nat)} {N M cn ob dp rq T : Nat} {s t : uS} (h : pj k fr x ts bg b e σ N M cn ob (dp + 1) rq T s t) : pj k fr x ts bg b e σ N M cn ob dp rq T s (wI t 1079 66 (t.I 1079 66 - 1)) := by
  obtain ⟨k1, k2, k3, k4, k5, k6, k7, k8, k9, k10, k11, k12, k13⟩ := h.2.2.2
  obtain ⟨r1, r2, r3, r4, r5, r6, r7, r8⟩ := h.2.2.1
  have e : t.I 1079 66 - 1 = nI dp := by rw [r4]; exact (nI_sub (b := 1) (by omega)).trans rfl
  refine pj_at h out_r (ol_I ol_r ⟨rfl, by omega⟩) h.2.1 ⟨(wI_o (by omega)).trans r1, (wI_o (by omega)).trans r2, (wI_o (by omega)).trans r3, by rw [wI_e, e], (wI_o (by omega)).trans r5, (wI_o (by omega)).trans r6, r7.out (fun _ _ => ⟨rfl, rfl⟩) (fun _ _ => rfl), r8⟩ (Nat.le_refl _) k5 k6 k7 k8 k9 k10 (by omega) k12
/-- a list of a node -/
def lsR (l ra i n u w : Nat) (s t : uS) : Prop := ∃ f a : Nat, u ≤ f ∧ 1 ≤ a ∧ a ≤ 10 ∧ f + a ≤ w ∧ s.F (17 + 3 * i) l = nI f ∧ s.F (18 + 3 * i) l = nI a ∧ t.F ra n = nI f ∧ t.F (ra + 1) n = nI a
def szR (i n : Nat) (s t : uS) : Prop := ∃ (d : Nat) (ov : Bool), d < 2 ^ 31 ∧ s.I (16 + 3 * i) 10 = nI d ∧ t.F 1113 n = nI d ∧ s.I (16 + 3 * i) 12 = bI ov ∧ t.F 1109 n = bI ov
def lfR (κ i n u w : Nat) (s t : uS) : Prop := (κ ≤ 14 → hwM i n s t ∧ hwC i n s t ∧ (hwP i n s t ∧ (κ ≠ 12 → κ ≠ 13 → s.I (16 + 3 * i) 9 = nI 0)) ∧ lsR 1 1104 i n u w s t) ∧ ((κ ≤ 13 ∨ κ = 15) → lsR 0 1102 i n u w s t) ∧ (κ = 16 → szR i n s t) ∧ (15 ≤ κ → s.F (18 + 3 * i) 1 = nI 0)
def chR (R : Nat → Nat → Nat → Nat → Nat → Nat → Prop) (t : uS) : List (Nat × Nat × Nat) → Nat → Nat → Nat → Nat → Nat → Nat → Prop
  | [], i, j, n, m, u, w => R i j n m u w ∧ t.F 1101 n = -1
  | q :: L, i, j, n, m, u, w => R i q.1 n q.2.1 u q.2.2 ∧ t.F 1101 n = nI q.2.1 ∧ chR R t L q.1 j q.2.1 m q.2.2 w
def tsR : Nat → uS → uS → Nat → Nat → Nat → Nat → Nat → Nat → Nat → Prop
  | 0 => fun _ _ _ _ _ _ _ _ _ => False
  | D + 1 => fun s t p i j n m u w => i < j ∧ n < m ∧ u ≤ w ∧ s.I (16 + 3 * i) 1 = nI p ∧ s.I (16 + 3 * i) 3 = nI j ∧ ∃ κ : Nat, 11 ≤ κ ∧ κ ≤ 21 ∧ s.I (16 + 3 * i) 0 = nI κ ∧ t.F 1098 n = nI (κ + 9) ∧ ((κ = 19 ∧ t.F 1099 n = nI (n + 1) ∧ tsR D s t i (i + 1) j (n + 1) m u w) ∨ ((κ = 17 ∨ κ = 18) ∧ t.F 1099 n = nI (n + 1) ∧ ∃ L : List (Nat × Nat × Nat), chR (tsR D s t i) t L (i + 1) j (n + 1) m u w) ∨ (κ ≠ 17 ∧ κ ≠ 18 ∧ κ ≠ 19 ∧ j = i + 1 ∧ m = n + 1 ∧ lfR κ i n u w s t))
theorem lsR.fr {l ra i n u w : Nat} {s t s1 t1 : uS} (h : lsR l ra i n u w s t) (a : s1.F (17 + 3 * i) l = s.F (17 + 3 * i) l) (b : s1.F (18 + 3 * i) l = s.F (18 + 3 * i) l) (c : t1.F ra n = t.F ra n) (d : t1.F (ra + 1) n = t.F (ra + 1) n) : lsR l ra i n u w s1 t1 := by
  obtain ⟨f, m, h1, h2, h3, h4, h5, h6, h7, h8⟩ := h
  exact ⟨f, m, h1, h2, h3, h4, a.trans h5, b.trans h6, c.trans h7, d.trans h8⟩
theorem szR.fr {i n : Nat} {s t s1 t1 : uS} (h : szR i n s t) (a : s1.I (16 + 3 * i) 10 = s.I (16 + 3 * i) 10) (b : s1.I (16 + 3 * i) 12 = s.I (16 + 3 * i) 12) (c : t1.F 1113 n = t.F 1113 n) (d : t1.F 1109 n = t.F 1109 n) : szR i n s1 t1 := by
  obtain ⟨e, f, h1, h2, h3, h4, h5⟩ := h
  exact ⟨e, f, h1, a.trans h2, c.trans h3, b.trans h4, d.trans h5⟩
/-- the class's node i as it was -/
def ndS (i : Nat) (s s1 : uS) : Prop := (∀ f : Nat, s1.I (16 + 3 * i) f = s.I (16 + 3 * i) f) ∧ (∀ f : Nat, s1.F (17 + 3 * i) f = s.F (17 + 3 * i) f) ∧ ∀ f : Nat, s1.F (18 + 3 * i) f = s.F (18 + 3 * i) f
theorem lfR.fr {κ i n u w : Nat} {s t s1 t1 : uS} (h : lfR κ i n u w s t) (a : ndS i s s1) (b : ∀ r : Nat, 1102 ≤ r → r ≤ 1115 → t1.F r n = t.F r n) : lfR κ i n u w s1 t1 := by
  obtain ⟨h1, h2, h3, h4⟩ := h
  obtain ⟨a1, a2, a3⟩ := a
  refine ⟨fun z => ?_, fun z => (h2 z).fr (a2 _) (a3 _) (b _ (by omega) (by omega)) (b _ (by omega) (by omega)), fun z => (h3 z).fr (a1 _) (a1 _) (b _ (by omega) (by omega)) (b _ (by omega) (by omega)), fun z => (a3 _).trans (h4 z)⟩
  obtain ⟨g1, g2, g3, g4⟩ := h1 z
  exact ⟨g1.fr (a1 _) (a1 _) (b _ (by omega) (by omega)) (b _ (by omega) (by omega)), g2.fr (a1 _) (b _ (by omega) (by omega)), ⟨g3.1.fr (a1 _) (b _ (by omega) (by omega)), fun y1 y2 => (a1 _).trans (g3.2 y1 y2)⟩, g4.fr (a2 _) (a3 _) (b _ (by omega) (by omega)) (b _ (by omega) (by omega))⟩
theorem tsR.lt : ∀ {D : Nat} {s t : uS} {p i j n m u w : Nat}, tsR D s t p i j n m u w → i < j ∧ n < m ∧ u ≤ w
  | 0, _, _, _, _, _, _, _, _, _, h => h.elim
  | _ + 1, _, _, _, _, _, _, _, _, _, h => ⟨h.1, h.2.1, h.2.2.1⟩
theorem chR.lt {R : Nat → Nat → Nat → Nat → Nat → Nat → Prop} {t : uS} (hR : ∀ i j n m u w : Nat, R i j n m u w → i < j ∧ n < m ∧ u ≤ w) : ∀ {L : List (Nat × Nat × Nat)} {i j n m u w : Nat}, chR R t L i j n m u w → i < j ∧ n < m ∧ u ≤ w
  | [], _, _, _, _, _, _, h => hR _ _ _ _ _ _ h.1
  | q :: L, i, j, n, m, u, w, h => by
    have a := hR _ _ _ _ _ _ h.1
    have b := chR.lt hR (L := L) h.2.2
    omega
theorem chR.fr {R R1 : Nat → Nat → Nat → Nat → Nat → Nat → Prop} {t t1 : uS} (hR : ∀ i j n m u w : Nat, R i j n m u w → i < j ∧ n < m ∧ u ≤ w) : ∀ {L : List (Nat × Nat × Nat)} {i j n m u w : Nat}, chR R t L i j n m u w → (∀ i' j' n' m' u' w' : Nat, i ≤ i' → j' ≤ j → n ≤ n' → m' ≤ m → R i' j' n' m' u' w' → R1 i' j' n' m' u' w') → (∀ f : Nat, n ≤ f → f < m → t1.F 1101 f = t.F 1101 f) → chR R1 t1 L i j n m u w
  | [], i, j, n, m, u, w, h, a, b => ⟨a _ _ _ _ _ _ (Nat.le_refl _) (Nat.le_refl _) (Nat.le_refl _) (Nat.le_refl _) h.1, (b n (Nat.le_refl _) (hR _ _ _ _ _ _ h.1).2.1).trans h.2⟩
  | q :: L, i, j, n, m, u, w, h, a, b => by
    have c := hR _ _ _ _ _ _ h.1
    have d := chR.lt hR (L := L) h.2.2
    refine ⟨a _ _ _ _ _ _ (Nat.le_refl _) (by omega) (Nat.le_refl _) (by omega) h.1, (b n (Nat.le_refl _) (by omega)).trans h.2.1, ?_⟩
    exact chR.fr hR h.2.2 (fun i' j' n' m' u' w' g1 g2 g3 g4 => a i' j' n' m' u' w' (by omega) g2 (by omega) g4) (fun f g1 g2 => b f (by omega) g2)
theorem tsR.fr : ∀ {D : Nat} {s t s1 t1 : uS} {p i j n m u w : Nat}, tsR D s t p i j n m u w → (∀ k : Nat, i ≤ k → k < j → ndS k s s1) → (∀ r f : Nat, 1098 ≤ r → r ≤ 1115 → n ≤ f → f < m → (r = 1101 → n < f) → t1.F r f = t.F r f) → tsR D s1 t1 p i j n m u w
  | 0, _, _, _, _, _, _, _, _, _, _, _, h, _, _ => h.elim
  | D + 1, s, t, s1, t1, p, i, j, n, m, u, w, h, a, b => by
    obtain ⟨h1, h2, h3, h4, h5, κ, h6, h7, h8, h9, h10⟩ := h
    obtain ⟨a1, a2, a3⟩ := a i (Nat.le_refl _) h1
    have b0 : ∀ r : Nat, 1098 ≤ r → r ≤ 1115 → r ≠ 1101 → t1.F r n = t.F r n := fun r q1 q2 q3 => b r n q1 q2 (Nat.le_refl _) h2 (fun z => absurd z q3)
    refine ⟨h1, h2, h3, (a1 _).trans h4, (a1 _).trans h5, κ, h6, h7, (a1 _).trans h8, (b0 _ (by omega) (by omega) (by omega)).trans h9, ?_⟩
    rcases h10 with ⟨g1, g2, g3⟩ | ⟨g1, g2, L, g3⟩ | ⟨g1, g2, g3, g4, g5, g6⟩
    · exact Or.inl ⟨g1, (b0 _ (by omega) (by omega) (by omega)).trans g2, g3.fr (fun k q1 q2 => a k (by omega) q2) (fun r f q1 q2 q3 q4 q5 => b r f q1 q2 (by omega) q4 (fun _ => by omega))⟩
    · refine Or.inr (Or.inl ⟨g1, (b0 _ (by omega) (by omega) (by omega)).trans g2, L, ?_⟩)
      refine chR.fr (fun _ _ _ _ _ _ z => z.lt) g3 ?_ (fun f q1 q2 => b 1101 f (by omega) (by omega) (by omega) q2 (fun _ => by omega))
      intro i' j' n' m' u' w' q1 q2 q3 q4 z
      exact z.fr (fun k c1 c2 => a k (by omega) (by omega)) (fun r f c1 c2 c3 c4 c5 => b r f c1 c2 (by omega) (by omega) (fun _ => by omega))
    · refine Or.inr (Or.inr ⟨g1, g2, g3, g4, g5, g6.fr ⟨a1, a2, a3⟩ (fun r q1 q2 => b0 r (by omega) q2 (by omega))⟩)
def lstN : Nat → List (Nat × Nat × Nat) → Nat
  | n, [] => n
  | _, q :: L => lstN q.2.1 L
theorem chR.last {R : Nat → Nat → Nat → Nat → Nat → Nat → Prop} {t : uS} (hR : ∀ i j n m u w : Nat, R i j n m u w → i < j ∧ n < m ∧ u ≤ w) : ∀ {L : List (Nat × Nat × Nat)} {i j n m u w : Nat}, chR R t L i j n m u w → n ≤ lstN n L ∧ lstN n L < m
  | [], _, _, n, m, _, _, h => ⟨Nat.le_refl _, (hR _ _ _ _ _ _ h.1).2.1⟩
  | q :: L, i, j, n, m, u, w, h => by
    have a := hR _ _ _ _ _ _ h.1
    have b := chR.last hR (L := L) h.2.2
    show n ≤ lstN q.2.1 L ∧ lstN q.2.1 L < m
    omega
theorem chR.snoc {D : Nat} {s t : uS} {p : Nat} : ∀ {L : List (Nat × Nat × Nat)} {i j n m u w j2 m2 w2 : Nat}, chR (tsR D s t p) t L i j n m u w → tsR D s t p j j2 m m2 w w2 → t.F 1101 m = -1 → chR (tsR D s (wF t 1101 (lstN n L) (nI m)) p) (wF t 1101 (lstN n L) (nI m)) (L ++ [(j, m, w)]) i j2 n m2 u w2
  | [], i, j, n, m, u, w, j2, m2, w2, h, g, e => by
    have a := h.1.lt
    refine ⟨h.1.fr (fun _ _ _ => ⟨fun _ => rfl, fun _ => rfl, fun _ => rfl⟩) ?_, wF_e _ _ _ _, ?_, ?_⟩
    · intro r f c1 c2 c3 c4 c5
      rw [wF_o (show ¬ (r = 1101 ∧ f = lstN n []) from fun z => by have := c5 z.1; have z2 : f = n := z.2; omega)]
    · refine g.fr (fun _ _ _ => ⟨fun _ => rfl, fun _ => rfl, fun _ => rfl⟩) ?_
      intro r f c1 c2 c3 c4 c5
      rw [wF_o (show ¬ (r = 1101 ∧ f = lstN n []) from fun z => by have z2 : f = n := z.2; omega)]
    · rw [wF_o (show ¬ (1101 = 1101 ∧ m = lstN n []) from fun z => by have z2 : m = n := z.2; omega)]; exact e
  | q :: L, i, j, n, m, u, w, j2, m2, w2, h, g, e => by
    have a := h.1.lt
    have b := chR.last (fun _ _ _ _ _ _ z => z.lt) h.2.2
    have c := chR.snoc (L := L) h.2.2 g e
    refine ⟨h.1.fr (fun _ _ _ => ⟨fun _ => rfl, fun _ => rfl, fun _ => rfl⟩) ?_, ?_, c⟩
    · intro r f c1 c2 c3 c4 c5
      exact wF_o (s := t) (v := nI m) (show ¬ (r = 1101 ∧ f = lstN q.2.1 L) from fun z => by omega)
    · exact (wF_o (s := t) (v := nI m) (show ¬ (1101 = 1101 ∧ n = lstN q.2.1 L) from fun z => by omega)).trans h.2.1
