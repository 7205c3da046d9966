/-! the tree of a script -/
def stR (l i n u w : Nat) (ok : List Nat → Bool) (ts : List (List Nat)) (s t : uS) : Prop := ∃ f : Nat, u ≤ f ∧ f < w ∧ f < ts.length ∧ ok (ts.getD f []) = true ∧ s.F (17 + 3 * i) l = nI f ∧ t.F 1102 n = nI f
def flR (i n : Nat) (ts : List (List Nat)) (s t : uS) : Prop := ∃ f m : Nat, 1 ≤ m ∧ m ≤ 10 ∧ f + m ≤ ts.length ∧ t.F 1102 n = nI f ∧ t.F 1103 n = nI m ∧ s.I (16 + 3 * i) 11 = nI (flL 2 0 (txs ts f m))
def vaR (i n u w : Nat) (s t : uS) : Prop := ∃ g : Nat, vcS i n g u w s t ∧ vcT 5 1102 i n u w s t
def tgE (i n : Nat) (ts : List (List Nat)) (s t : uS) : Prop := ∃ g : Nat, tgS ts i n g s t
def adB (w : List Nat) : Bool := (adr w).isSome
def acR (κ i n u w : Nat) (ts : List (List Nat)) (s t : uS) : Prop := (κ = 3 ∨ κ = 4 ∨ κ = 5 → tgE i n ts s t) ∧ (κ = 4 → stR 3 i n u w bxn ts s t) ∧ (κ = 5 → stR 4 i n u w adB ts s t) ∧ (κ = 6 → stR 5 i n u w (fun _ => true) ts s t) ∧ (7 ≤ κ ∧ κ ≤ 9 → flR i n ts s t) ∧ (κ = 10 → vaR i n u w s t)
theorem getD_apL {ts more : List (List Nat)} {f : Nat} (h : f < ts.length) : (ts ++ more).getD f [] = ts.getD f [] := by
  rw [List.getD_eq_getElem?_getD, List.getD_eq_getElem?_getD, List.getElem?_append_left h]
theorem stR.fr {l i n u w : Nat} {ok : List Nat → Bool} {ts more : List (List Nat)} {s t s1 t1 : uS} (h : stR l i n u w ok ts s t) (a : s1.F (17 + 3 * i) l = s.F (17 + 3 * i) l) (b : t1.F 1102 n = t.F 1102 n) : stR l i n u w ok (ts ++ more) s1 t1 := by
  obtain ⟨f, h1, h2, h3, h4, h5, h6⟩ := h
  exact ⟨f, h1, h2, by rw [List.length_append]; omega, by rw [getD_apL h3]; exact h4, a.trans h5, b.trans h6⟩
theorem acR.fr {κ i n u w : Nat} {ts more : List (List Nat)} {s t s1 t1 : uS} (h : acR κ i n u w ts s t) (a : ndS i s s1) (b : ∀ r : Nat, 1102 ≤ r → r ≤ 1115 → t1.F r n = t.F r n) : acR κ i n u w (ts ++ more) s1 t1 := by
  obtain ⟨h1, h2, h3, h4, h5, h6⟩ := h
  obtain ⟨a1, a2, a3⟩ := a
  refine ⟨fun z => ?_, fun z => (h2 z).fr (a2 _) (b _ (by omega) (by omega)), fun z => (h3 z).fr (a2 _) (b _ (by omega) (by omega)), fun z => (h4 z).fr (a2 _) (b _ (by omega) (by omega)), fun z => ?_, fun z => ?_⟩
  · obtain ⟨g, hg⟩ := h1 z
    exact ⟨g, hg.fr (a1 _) (a1 _) (a3 _) (b _ (by omega) (by omega)) (b _ (by omega) (by omega)) (b _ (by omega) (by omega))⟩
  · obtain ⟨f, m, g1, g2, g3, g4, g5, g6⟩ := h5 z
    exact ⟨f, m, g1, g2, by rw [List.length_append]; omega, (b _ (by omega) (by omega)).trans g4, (b _ (by omega) (by omega)).trans g5, by rw [txs_app g3]; exact (a1 _).trans g6⟩
  · obtain ⟨g, g1, g2⟩ := h6 z
    exact ⟨g, g1.same (a1 _) (a1 _) (fun r f hr _ => by rcases hr with y | y <;> rw [y]; exact a2 f; exact a3 f) (fun r hr => b r (by omega) (by omega)), g2.fr (Nat.le_refl _) (a2 _) (b _ (by omega) (by omega))⟩
/-- the commands of a block: the children of the node P -/
def lcR (C : Nat → Nat → Nat → Nat → Nat → Nat → Prop) (t : uS) (P i0 i1 n0 n1 u w : Nat) : Prop := (i1 = i0 ∧ n1 = n0 ∧ u ≤ w ∧ t.F 1099 P = -1) ∨ ∃ L : List (Nat × Nat × Nat), t.F 1099 P = nI n0 ∧ chR C t L i0 i1 n0 n1 u w
/-- a branch: the class's node i, of the kind κ, up to behind its block; the reference's node m - 1 -/
def bnR (C : Nat → Nat → Nat → Nat → Nat → Nat → Prop) (s t : uS) (κ i j n m u w : Nat) : Prop := s.I (16 + 3 * i) 0 = nI κ ∧ s.I (16 + 3 * i) 4 = nI j ∧ ∃ it nt ut : Nat, i < it ∧ it < j ∧ n ≤ nt ∧ nt + 1 < m ∧ u ≤ ut ∧ ut ≤ w ∧ s.I (16 + 3 * (j - 1)) 0 = nI 24 ∧ t.F 1104 (m - 1) = nI nt ∧ ((κ = 23 ∧ it = i + 1 ∧ t.F 1102 (m - 1) = -1) ∨ (κ ≠ 23 ∧ n < nt ∧ t.F 1102 (m - 1) = nI n ∧ tsR 9 s t i (i + 1) it n nt u ut)) ∧ lcR C t nt it (j - 1) (nt + 1) (m - 1) ut w
def brH : List (Nat × Nat × Nat) → Nat → Nat
  | [], m => m
  | q :: _, _ => q.2.1
def brsR (C : Nat → Nat → Nat → Nat → Nat → Nat → Prop) (s t : uS) (z : Bool) : List (Nat × Nat × Nat) → Nat → Nat → Nat → Nat → Nat → Nat → Nat → Prop
  | [], κ, i, j, n, m, u, w => (z = false → κ ≠ 23) ∧ bnR C s t κ i j n m u w ∧ t.F 1101 (m - 1) = -1
  | q :: L, κ, i, j, n, m, u, w => κ ≠ 23 ∧ bnR C s t κ i q.1 n q.2.1 u q.2.2 ∧ t.F 1101 (q.2.1 - 1) = nI (brH L m - 1) ∧ ((brsR C s t z L 22 q.1 j q.2.1 m q.2.2 w) ∨ (brsR C s t z L 23 q.1 j q.2.1 m q.2.2 w))
def cnR : Nat → List (List Nat) → uS → uS → Nat → Nat → Nat → Nat → Nat → Nat → Prop
  | 0 => fun _ _ _ _ _ _ _ _ _ => False
  | B + 1 => fun ts s t i j n m u w => i < j ∧ n < m ∧ u ≤ w ∧ ∃ κ : Nat, κ ≤ 10 ∧ s.I (16 + 3 * i) 0 = nI κ ∧ ((1 ≤ κ ∧ j = i + 1 ∧ m = n + 1 ∧ t.F 1098 n = nI (κ + 1) ∧ acR κ i n u w ts s t) ∨ (κ = 0 ∧ t.F 1098 n = nI 0 ∧ ∃ L : List (Nat × Nat × Nat), t.F 1099 n = nI (brH L m - 1) ∧ brsR (cnR B ts s t) s t true L 0 i j (n + 1) m u w))
theorem cnR.lt : ∀ {B : Nat} {ts : List (List Nat)} {s t : uS} {i j n m u w : Nat}, cnR B ts s t i j n m u w → i < j ∧ n < m ∧ u ≤ w
  | 0, _, _, _, _, _, _, _, _, _, h => h.elim
  | _ + 1, _, _, _, _, _, _, _, _, _, h => ⟨h.1, h.2.1, h.2.2.1⟩
theorem bnR.lt {C : Nat → Nat → Nat → Nat → Nat → Nat → Prop} {s t : uS} {κ i j n m u w : Nat} (h : bnR C s t κ i j n m u w) : i + 1 < j ∧ n + 1 < m ∧ u ≤ w := by
  obtain ⟨h1, h2, it, nt, ut, h3, h4, h5, h6, h7, h8, -⟩ := h
  omega
theorem brsR.lt {C : Nat → Nat → Nat → Nat → Nat → Nat → Prop} {s t : uS} {z : Bool} : ∀ {L : List (Nat × Nat × Nat)} {κ i j n m u w : Nat}, brsR C s t z L κ i j n m u w → i + 1 < j ∧ n + 1 < m ∧ u ≤ w ∧ n + 1 < brH L m ∧ brH L m ≤ m
  | [], κ, i, j, n, m, u, w, h => by
    have := h.2.1.lt
    exact ⟨this.1, this.2.1, this.2.2, this.2.1, Nat.le_refl _⟩
  | q :: L, κ, i, j, n, m, u, w, h => by
    have a := h.2.1.lt
    have b : q.1 + 1 < j ∧ q.2.1 + 1 < m ∧ q.2.2 ≤ w ∧ q.2.1 + 1 < brH L m ∧ brH L m ≤ m := by
      rcases h.2.2.2 with y | y
      · exact brsR.lt y
      · exact brsR.lt y
    show _ ∧ _ ∧ _ ∧ n + 1 < q.2.1 ∧ q.2.1 ≤ m
    omega
theorem lcR.fr {C C1 : Nat → Nat → Nat → Nat → Nat → Nat → Prop} {t t1 : uS} (hC : ∀ i j n m u w : Nat, C i j n m u w → i < j ∧ n < m ∧ u ≤ w) {P i0 i1 n0 n1 u w : Nat} (h : lcR C t P i0 i1 n0 n1 u w) (a : ∀ i' j' n' m' u' w' : Nat, i0 ≤ i' → j' ≤ i1 → n0 ≤ n' → m' ≤ n1 → C i' j' n' m' u' w' → C1 i' j' n' m' u' w') (b : t1.F 1099 P = t.F 1099 P) (c : ∀ f : Nat, n0 ≤ f → f < n1 → t1.F 1101 f = t.F 1101 f) : lcR C1 t1 P i0 i1 n0 n1 u w := by
  rcases h with ⟨h1, h2, h3, h4⟩ | ⟨L, h1, h2⟩
  · exact Or.inl ⟨h1, h2, h3, b.trans h4⟩
  · exact Or.inr ⟨L, b.trans h1, chR.fr hC h2 a c⟩
theorem bnR.fr {C C1 : Nat → Nat → Nat → Nat → Nat → Nat → Prop} {s t s1 t1 : uS} (hC : ∀ i j n m u w : Nat, C i j n m u w → i < j ∧ n < m ∧ u ≤ w) {κ i j n m u w : Nat} (h : bnR C s t κ i j n m u w) (a : ∀ i' j' n' m' u' w' : Nat, i ≤ i' → j' ≤ j → n ≤ n' → m' ≤ m → C i' j' n' m' u' w' → C1 i' j' n' m' u' w') (o : ∀ k : Nat, i ≤ k → k < j → ndS k s s1) (q : ∀ r f : Nat, 1098 ≤ r → r ≤ 1115 → n ≤ f → f < m → (r = 1101 → f < m - 1) → t1.F r f = t.F r f) : bnR C1 s1 t1 κ i j n m u w := by
  have hlt := h.lt
  obtain ⟨h1, h2, it, nt, ut, h3, h4, h5, h6, h7, h8, h9, h10, h11, h12⟩ := h
  refine ⟨((o i (Nat.le_refl _) (by omega)).1 _).trans h1, ((o i (Nat.le_refl _) (by omega)).1 _).trans h2, it, nt, ut, h3, h4, h5, h6, h7, h8, ((o (j - 1) (by omega) (by omega)).1 _).trans h9, (q 1104 (m - 1) (by omega) (by omega) (by omega) (by omega) (by omega)).trans h10, ?_, ?_⟩
  · rcases h11 with ⟨g1, g2, g3⟩ | ⟨g1, g2, g3, g4⟩
    · exact Or.inl ⟨g1, g2, (q 1102 (m - 1) (by omega) (by omega) (by omega) (by omega) (by omega)).trans g3⟩
    · exact Or.inr ⟨g1, g2, (q 1102 (m - 1) (by omega) (by omega) (by omega) (by omega) (by omega)).trans g3, g4.fr (fun k e1 e2 => o k (by omega) (by omega)) (fun r f e1 e2 e3 e4 e5 => q r f e1 e2 (by omega) (by omega) (fun _ => by omega))⟩
  · exact h12.fr hC (fun i' j' n' m' u' w' e1 e2 e3 e4 => a i' j' n' m' u' w' (by omega) (by omega) (by omega) (by omega)) (q 1099 nt (by omega) (by omega) (by omega) (by omega) (by omega)) (fun f e1 e2 => q 1101 f (by omega) (by omega) (by omega) (by omega) (fun _ => by omega))
theorem brsR.fr {C C1 : Nat → Nat → Nat → Nat → Nat → Nat → Prop} {s t s1 t1 : uS} {z : Bool} (hC : ∀ i j n m u w : Nat, C i j n m u w → i < j ∧ n < m ∧ u ≤ w) : ∀ {L : List (Nat × Nat × Nat)} {κ i j n m u w : Nat}, brsR C s t z L κ i j n m u w → (∀ i' j' n' m' u' w' : Nat, i ≤ i' → j' ≤ j → n ≤ n' → m' ≤ m → C i' j' n' m' u' w' → C1 i' j' n' m' u' w') → (∀ k : Nat, i ≤ k → k < j → ndS k s s1) → (∀ r f : Nat, 1098 ≤ r → r ≤ 1115 → n ≤ f → f < m → t1.F r f = t.F r f) → brsR C1 s1 t1 z L κ i j n m u w
  | [], κ, i, j, n, m, u, w, h, a, o, q => by
    have := h.2.1.lt
    exact ⟨h.1, h.2.1.fr hC a o (fun r f e1 e2 e3 e4 _ => q r f e1 e2 e3 e4), (q 1101 (m - 1) (by omega) (by omega) (by omega) (by omega)).trans h.2.2⟩
  | p :: L, κ, i, j, n, m, u, w, h, a, o, q => by
    have x1 := h.2.1.lt
    have x2 : p.1 + 1 < j ∧ p.2.1 + 1 < m ∧ p.2.2 ≤ w := by
      rcases h.2.2.2 with y | y
      · have := brsR.lt y; omega
      · have := brsR.lt y; omega
    refine ⟨h.1, h.2.1.fr hC (fun i' j' n' m' u' w' e1 e2 e3 e4 => a i' j' n' m' u' w' e1 (by omega) e3 (by omega)) (fun k e1 e2 => o k e1 (by omega)) (fun r f e1 e2 e3 e4 _ => q r f e1 e2 e3 (by omega)), (q 1101 (p.2.1 - 1) (by omega) (by omega) (by omega) (by omega)).trans h.2.2.1, ?_⟩
    have y := fun κ' (y : brsR C s t z L κ' p.1 j p.2.1 m p.2.2 w) => brsR.fr hC (s1 := s1) (t1 := t1) y (fun i' j' n' m' u' w' e1 e2 e3 e4 => a i' j' n' m' u' w' (by omega) e2 (by omega) e4) (fun k e1 e2 => o k (by omega) e2) (fun r f e1 e2 e3 e4 => q r f e1 e2 (by omega) e4)
    rcases h.2.2.2 with g | g
    · exact Or.inl (y 22 g)
    · exact Or.inr (y 23 g)
theorem cnR.fr : ∀ {B : Nat} {ts more : List (List Nat)} {s t s1 t1 : uS} {i j n m u w : Nat}, cnR B ts s t i j n m u w → (∀ k : Nat, i ≤ k → k < j → ndS k s s1) → (∀ r f : Nat, 1098 ≤ r → r ≤ 1115 → n ≤ f → f < m → (r = 1101 → n < f) → t1.F r f = t.F r f) → cnR B (ts ++ more) s1 t1 i j n m u w
  | 0, _, _, _, _, _, _, _, _, _, _, _, _, h, _, _ => h.elim
  | B + 1, ts, more, s, t, s1, t1, i, j, n, m, u, w, h, a, b => by
    obtain ⟨h1, h2, h3, κ, h4, h5, h6⟩ := h
    have b0 : ∀ r : Nat, 1098 ≤ r → r ≤ 1115 → r ≠ 1101 → t1.F r n = t.F r n := fun r q1 q2 q3 => b r n q1 q2 (Nat.le_refl _) h2 (fun z => absurd z q3)
    refine ⟨h1, h2, h3, κ, h4, ((a i (Nat.le_refl _) h1).1 _).trans h5, ?_⟩
    rcases h6 with ⟨g1, g2, g3, g4, g5⟩ | ⟨g1, g2, L, g3, g4⟩
    · exact Or.inl ⟨g1, g2, g3, (b0 _ (by omega) (by omega) (by omega)).trans g4, g5.fr (a i (Nat.le_refl _) h1) (fun r e1 e2 => b0 r (by omega) e2 (by omega))⟩
    · refine Or.inr ⟨g1, (b0 _ (by omega) (by omega) (by omega)).trans g2, L, (b0 _ (by omega) (by omega) (by omega)).trans g3, ?_⟩
      refine brsR.fr (fun _ _ _ _ _ _ z => cnR.lt z) g4 ?_ a (fun r f e1 e2 e3 e4 => b r f e1 e2 (by omega) e4 (fun _ => by omega))
      intro i' j' n' m' u' w' e1 e2 e3 e4 z
      exact cnR.fr z (fun k c1 c2 => a k (by omega) (by omega)) (fun r f c1 c2 c3 c4 c5 => b r f c1 c2 (by omega) (by omega) (fun _ => by omega))
theorem brsR.snoc {C : uS → Nat → Nat → Nat → Nat → Nat → Nat → Prop} (hC : frP C) {s t : uS} {z : Bool} : ∀ {L : List (Nat × Nat × Nat)} {κ i j n m u w κ2 j2 m2 w2 : Nat}, brsR (C t) s t false L κ i j n m u w → (κ2 = 22 ∨ κ2 = 23) → (z = false → κ2 ≠ 23) → bnR (C t) s t κ2 j j2 m m2 w w2 → t.F 1101 (m2 - 1) = -1 → brsR (C (wF t 1101 (m - 1) (nI (m2 - 1)))) s (wF t 1101 (m - 1) (nI (m2 - 1))) z (L ++ [(j, m, w)]) κ i j2 n m2 u w2
  | [], κ, i, j, n, m, u, w, κ2, j2, m2, w2, h, hκ, hz, g, e => by
    have x1 := h.2.1.lt
    have x2 := g.lt
    have F : ∀ r f : Nat, (r = 1101 → f < m - 1) ∨ m ≤ f → (wF t 1101 (m - 1) (nI (m2 - 1))).F r f = t.F r f := fun r f hf => wF_o (by omega)
    have cc : ∀ i' j' n' m' u' w' : Nat, (m' ≤ m - 1 ∨ m ≤ n') → C t i' j' n' m' u' w' → C (wF t 1101 (m - 1) (nI (m2 - 1))) i' j' n' m' u' w' := fun i' j' n' m' u' w' hh y => hC.2 _ _ _ _ _ _ _ _ y (fun r f c1 c2 c3 c4 c5 => F r f (by omega))
    have k1 : bnR (C (wF t 1101 (m - 1) (nI (m2 - 1)))) s (wF t 1101 (m - 1) (nI (m2 - 1))) κ i j n m u w := by
      obtain ⟨a1, a2, it, nt, ut, a3, a4, a5, a6, a7, a8, a9, a10, a11, a12⟩ := h.2.1
      refine ⟨a1, a2, it, nt, ut, a3, a4, a5, a6, a7, a8, a9, (F 1104 _ (by omega)).trans a10, ?_, ?_⟩
      · rcases a11 with ⟨g1, g2, g3⟩ | ⟨g1, g2, g3, g4⟩
        · exact Or.inl ⟨g1, g2, (F 1102 _ (by omega)).trans g3⟩
        · exact Or.inr ⟨g1, g2, (F 1102 _ (by omega)).trans g3, g4.fr (fun _ _ _ => ⟨fun _ => rfl, fun _ => rfl, fun _ => rfl⟩) (fun r f e1 e2 e3 e4 e5 => F r f (by omega))⟩
      · exact a12.fr (hC.1 t) (fun i' j' n' m' u' w' e1 e2 e3 e4 y => cc _ _ _ _ _ _ (by omega) y) (F 1099 _ (by omega)) (fun f e1 e2 => F 1101 f (by omega))
    have k2 : bnR (C (wF t 1101 (m - 1) (nI (m2 - 1)))) s (wF t 1101 (m - 1) (nI (m2 - 1))) κ2 j j2 m m2 w w2 := g.fr (hC.1 t) (fun i' j' n' m' u' w' e1 e2 e3 e4 y => cc _ _ _ _ _ _ (by omega) y) (fun _ _ _ => ⟨fun _ => rfl, fun _ => rfl, fun _ => rfl⟩) (fun r f e1 e2 e3 e4 e5 => F r f (by omega))
    have k3 : brsR (C (wF t 1101 (m - 1) (nI (m2 - 1)))) s (wF t 1101 (m - 1) (nI (m2 - 1))) z [] κ2 j j2 m m2 w w2 := ⟨hz, k2, (F 1101 _ (by omega)).trans e⟩
    refine ⟨h.1 rfl, k1, wF_e _ _ _ _, ?_⟩
    rcases hκ with y | y
    · subst y; exact Or.inl k3
    · subst y; exact Or.inr k3
  | p :: L, κ, i, j, n, m, u, w, κ2, j2, m2, w2, h, hκ, hz, g, e => by
    have x1 := h.2.1.lt
    have x2 : p.1 + 1 < j ∧ p.2.1 + 1 < m ∧ p.2.2 ≤ w ∧ p.2.1 + 1 < brH L m ∧ brH L m ≤ m := by
      rcases h.2.2.2 with y | y
      · exact brsR.lt y
      · exact brsR.lt y
    have F : ∀ r f : Nat, f < m - 1 → (wF t 1101 (m - 1) (nI (m2 - 1))).F r f = t.F r f := fun r f hf => wF_o (by omega)
    refine ⟨h.1, h.2.1.fr (hC.1 t) (fun i' j' n' m' u' w' e1 e2 e3 e4 y => hC.2 _ _ _ _ _ _ _ _ y (fun r f c1 c2 c3 c4 c5 => F r f (by omega))) (fun _ _ _ => ⟨fun _ => rfl, fun _ => rfl, fun _ => rfl⟩) (fun r f e1 e2 e3 e4 e5 => F r f (by omega)), ?_, ?_⟩
    · rw [F 1101 _ (by omega), h.2.2.1]
      congr 2
      cases L with
      | nil => rfl
      | cons _ _ => rfl
    · rcases h.2.2.2 with y | y
      · exact Or.inl (brsR.snoc hC y hκ hz g e)
      · exact Or.inr (brsR.snoc hC y hκ hz g e)
theorem frP_cm {B : Nat} {ts : List (List Nat)} {s : uS} : frP (fun t => cnR B ts s t) := ⟨fun _ _ _ _ _ _ _ h => h.lt, fun t t1 i j n m u w h a => by have := cnR.fr (more := []) (s1 := s) (t1 := t1) h (fun _ _ _ => ⟨fun _ => rfl, fun _ => rfl, fun _ => rfl⟩) a; rw [List.append_nil] at this; exact this⟩
