/-! children of a node of the reference, and signs taken on both sides -/
def frP (R : uS → Nat → Nat → Nat → Nat → Nat → Nat → Prop) : Prop := (∀ (t : uS) (i j n m u w : Nat), R t i j n m u w → i < j ∧ n < m ∧ u ≤ w) ∧ ∀ (t t1 : uS) (i j n m u w : Nat), R t i j n m u w → (∀ r f : Nat, 1098 ≤ r → r ≤ 1115 → n ≤ f → f < m → (r = 1101 → n < f) → t1.F r f = t.F r f) → R t1 i j n m u w
theorem frP_ts {D : Nat} {s : uS} {p : Nat} : frP (fun t => tsR D s t p) := ⟨fun _ _ _ _ _ _ _ h => h.lt, fun _ _ _ _ _ _ _ _ h a => h.fr (fun _ _ _ => ⟨fun _ => rfl, fun _ => rfl, fun _ => rfl⟩) a⟩
theorem chR.add {R : uS → Nat → Nat → Nat → Nat → Nat → Nat → Prop} (hR : frP R) {t : uS} : ∀ {L : List (Nat × Nat × Nat)} {i j n m u w j2 m2 w2 : Nat}, chR (R t) t L i j n m u w → R t j j2 m m2 w w2 → t.F 1101 m = -1 → chR (R (wF t 1101 (lstN n L) (nI m))) (wF t 1101 (lstN n L) (nI m)) (L ++ [(j, m, w)]) i j2 n m2 u w2
  | [], i, j, n, m, u, w, j2, m2, w2, h, g, e => by
    have a := hR.1 _ _ _ _ _ _ _ h.1
    refine ⟨hR.2 _ _ _ _ _ _ _ _ h.1 ?_, wF_e _ _ _ _, ?_, ?_⟩
    · intro r f c1 c2 c3 c4 c5
      exact wF_o (s := t) (v := nI m) (show ¬ (r = 1101 ∧ f = n) from fun z => by have := c5 z.1; omega)
    · refine hR.2 _ _ _ _ _ _ _ _ g ?_
      intro r f c1 c2 c3 c4 c5
      exact wF_o (s := t) (v := nI m) (show ¬ (r = 1101 ∧ f = n) from fun z => by have z2 := z.2; dsimp only at c3; omega)
    · exact (wF_o (s := t) (v := nI m) (show ¬ (1101 = 1101 ∧ m = n) from fun z => by omega)).trans e
  | q :: L, i, j, n, m, u, w, j2, m2, w2, h, g, e => by
    have a := hR.1 _ _ _ _ _ _ _ h.1
    have b := chR.last (hR.1 t) h.2.2
    have c := chR.add hR (L := L) h.2.2 g e
    refine ⟨hR.2 _ _ _ _ _ _ _ _ h.1 ?_, ?_, c⟩
    · intro r f c1 c2 c3 c4 c5
      exact wF_o (s := t) (v := nI m) (show ¬ (r = 1101 ∧ f = lstN q.2.1 L) from fun z => by omega)
    · exact (wF_o (s := t) (v := nI m) (show ¬ (1101 = 1101 ∧ n = lstN q.2.1 L) from fun z => by omega)).trans h.2.1
theorem r_put1 {t : uS} {n : Nat} {c : Int32} (hn : n < 520) (h : t.F 1099 n = -1) : fn_X12_put (nI n) c t = some (wF (wF t 1099 n c) 1100 n c) := by
  unfold fn_X12_put
  rw [g_1099 hn, Option.bind_some, if_pos h, p_1099 hn, Option.bind_some, p_1100 hn, Option.bind_some]
theorem r_put2 {t : uS} {n a l : Nat} {c : Int32} (hn : n < 520) (ha : a < 2 ^ 31) (h : t.F 1099 n = nI a) (hl : l < 520) (h2 : t.F 1100 n = nI l) : fn_X12_put (nI n) c t = some (wF (wF t 1101 l c) 1100 n c) := by
  unfold fn_X12_put
  rw [g_1099 hn, Option.bind_some, if_neg (by rw [h]; exact nI_nm ha), g_1100 hn, Option.bind_some, h2, p_1101 hl, Option.bind_some, p_1100 hn, Option.bind_some]
/-- the children so far of the node P -/
def chS (R : uS → Nat → Nat → Nat → Nat → Nat → Nat → Prop) (t : uS) (P i0 i1 n0 n1 u w : Nat) : Prop := ∃ L : List (Nat × Nat × Nat), t.F 1099 P = nI n0 ∧ t.F 1100 P = nI (lstN n0 L) ∧ chR (R t) t L i0 i1 n0 n1 u w
def hdC (R : uS → Nat → Nat → Nat → Nat → Nat → Nat → Prop) (t : uS) (P i0 i1 n0 n1 u w : Nat) : Prop := (i1 = i0 ∧ n1 = n0 ∧ w = u ∧ t.F 1099 P = -1) ∨ chS R t P i0 i1 n0 n1 u w
def ptF (P n0 n1 k f : Nat) : Prop := ((k = 1099 ∨ k = 1100) ∧ f = P) ∨ (k = 1101 ∧ n0 ≤ f ∧ f < n1)
theorem hdC.put {R : uS → Nat → Nat → Nat → Nat → Nat → Nat → Prop} (hR : frP R) {t : uS} {P i0 i1 n0 n1 u w i2 n2 w2 : Nat} (h : hdC R t P i0 i1 n0 n1 u w) (hP : P < n0) (hn : n1 < 520) (g : R t i1 i2 n1 n2 w w2) (e : t.F 1101 n1 = -1) (hl : lsO t) : ∃ t2 : uS, fn_X12_put (nI P) (nI n1) t = some t2 ∧ chS R t2 P i0 i2 n0 n2 u w2 ∧ ol rNo (ptF P n0 n1) rNo t t2 ∧ lsO t2 := by
  rcases h with ⟨h1, h2, h3, h4⟩ | ⟨L, h1, h2, h3⟩
  · subst h1; subst h2; subst h3
    refine ⟨_, r_put1 (by omega) h4, ⟨[], ?_, ?_, ?_, ?_⟩, ol_F (ol_F ol_r (Or.inl ⟨Or.inl rfl, rfl⟩)) (Or.inl ⟨Or.inr rfl, rfl⟩), ?_⟩
    · rw [wF_r (by decide), wF_e]
    · rw [wF_e]; rfl
    · refine hR.2 _ _ _ _ _ _ _ _ g ?_
      intro r f c1 c2 c3 c4 c5
      rw [wF_o (by omega), wF_o (by omega)]
    · rw [wF_r (by decide), wF_r (by decide)]; exact e
    · intro f hf
      by_cases z : f = P
      · subst z; exact Or.inr ⟨_, hn, by rw [wF_e]⟩
      · rw [wF_r (show 1099 ≠ 1100 by decide), wF_o (by omega), wF_o (by omega), wF_r (show 1100 ≠ 1099 by decide)]; exact hl f hf
  · have b := chR.last (hR.1 t) h3
    refine ⟨_, r_put2 (by omega) (by omega) h1 (by omega) h2, ⟨L ++ [(i1, n1, w)], ?_, ?_, ?_⟩, ol_F (ol_F ol_r (Or.inr ⟨rfl, b⟩)) (Or.inl ⟨Or.inr rfl, rfl⟩), ?_⟩
    · rw [wF_r (by decide), wF_r (by decide)]; exact h1
    · rw [wF_e]
      have : ∀ (L : List (Nat × Nat × Nat)) (n : Nat), lstN n (L ++ [(i1, n1, w)]) = n1 := by
        intro L
        induction L with
        | nil => intro n; rfl
        | cons q L ih => intro n; exact ih q.2.1
      rw [this]
    · have c := chR.add hR h3 g e
      refine chR.fr (hR.1 _) c ?_ (fun f _ _ => by rw [wF_r (by decide)])
      intro i' j' n' m' u' w' q1 q2 q3 q4 z
      refine hR.2 _ _ _ _ _ _ _ _ z ?_
      intro r f c1 c2 c3 c4 c5
      rw [wF_o (by omega)]
    · intro f hf
      by_cases z : f = P
      · subst z; exact Or.inr ⟨_, hn, by rw [wF_e]⟩
      · rw [wF_r (show 1099 ≠ 1100 by decide), wF_r (show 1099 ≠ 1101 by decide), wF_o (by omega), wF_r (show 1100 ≠ 1101 by decide)]; exact hl f hf
theorem hdC.fr {R R1 : uS → Nat → Nat → Nat → Nat → Nat → Nat → Prop} (hR : frP R) {t t1 : uS} {P i0 i1 n0 n1 u w : Nat} (h : hdC R t P i0 i1 n0 n1 u w) (a : ∀ i' j' n' m' u' w' : Nat, i0 ≤ i' → j' ≤ i1 → n0 ≤ n' → m' ≤ n1 → R t i' j' n' m' u' w' → R1 t1 i' j' n' m' u' w') (b : t1.F 1099 P = t.F 1099 P) (c : t1.F 1100 P = t.F 1100 P) (d : ∀ f : Nat, n0 ≤ f → f < n1 → t1.F 1101 f = t.F 1101 f) : hdC R1 t1 P i0 i1 n0 n1 u w := by
  rcases h with ⟨h1, h2, h3, h4⟩ | ⟨L, h1, h2, h3⟩
  · exact Or.inl ⟨h1, h2, h3, b.trans h4⟩
  · exact Or.inr ⟨L, b.trans h1, c.trans h2, chR.fr (hR.1 t) h3 a d⟩
def tkI (k f : Nat) : Prop := lnI' k f ∨ (k = 6 ∧ f = 5)
def tkH (k fr : Nat) (x : List Nat) (ts : List (List Nat)) (bg e : Nat) (σ : List (Nat × Nat)) (N M cn ob dp rq : Nat) (s t : uS) (s1 : uS) (T1 : Nat) (t1 : uS) : Prop := ∃ b1 e1 : Nat, e ≤ b1 ∧ pj k fr x ts bg b1 e1 σ N M cn ob dp rq T1 s1 t1 ∧ out tkI lqF s s1 ∧ out rnI (rqP bg) t t1
theorem tk_ts {N : Nat} {s s1 : uS} (h : out tkI lqF s s1) : out (tsI N) (tsF N) s s1 := out_w h (fun k f z => by unfold tkI lnI' at z; unfold tsI; omega) (fun k f z => by unfold lqF at z; unfold tsF; omega)
theorem p_take {k fr : Nat} {x : List Nat} {ts : List (List Nat)} {bg b e : Nat} {σ : List (Nat × Nat)} {N M cn ob dp rq T : Nat} {s t : uS} {c : Nat} (h : pj k fr x ts bg b e ((13, c) :: σ) N M cn ob dp rq T s t) (hc : c < 128) : RU x s t (pd T s) (fn_X12_take (nI c) t) (fun s1 T1 t1 => b < e ∧ tkH k fr x ts bg e σ N M cn ob dp rq s t s1 T1 t1) := by
  obtain ⟨v, h1, h2, h3⟩ := h.sg hc
  obtain ⟨k1, k2, k3, k4, k5, k6, k7, k8, k9, k10, k11, k12, k13⟩ := h.2.2.2
  rw [pd_13 h, h1, Option.bind_some]
  unfold fn_X12_take
  rw [h2, Option.bind_some]
  cases v with
  | true =>
    obtain ⟨h4, h5⟩ := h3 rfl
    rw [if_pos rfl, if_pos rfl, c_pop h.2.1, Option.bind_some]
    refine (pj_go (σ1 := σ) (G := fun s1 T1 t1 => b < e ∧ tkH k fr x ts bg e σ N M cn ob dp rq s t s1 T1 t1) h (by rw [h4]; decide) h5 (out_I out_r (Or.inl rfl)) ol_r h.2.1.pop h.2.2.1 (by simp only [List.length_cons]; omega) (by simp only [List.length_cons] at k5; omega) k6.tl k7 k8 k9 k10 k11 k12 (fun s1 t1 b1 e1 g1 g2 g3 g4 => ⟨h5, b1, e1, g1, g4, out_t (out_I out_r (Or.inr ⟨rfl, rfl⟩)) (out_w g2 (fun _ _ z => Or.inl z) (fun _ _ z => z)), g3⟩)).uu (fun p t1 z => z.U) (fun s1 T1 t1 _ _ z => RU.ret z)
  | false =>
    rw [if_neg (by decide), if_neg (by decide)]
    exact h.RU out_r (h.fl.uu fun t1 z => z.U)
