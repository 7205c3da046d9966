/-! pieces of the class's parser: nodes, pushes, signs; strings on both sides -/
theorem ucl_nod : ∀ i : Nat, i < 320 → ucl (17 + 3 * i) = (20, 12) ∧ ucl (18 + 3 * i) = (20, 12) := by decide +kernel
theorem g_fst {s : uS} {i l : Nat} (hi : i < 320) (hl : l < 12) : iget 20 s (16 + 3 * i + 1) (nI l) = some (s.F (17 + 3 * i) l) := by
  rw [show 16 + 3 * i + 1 = 17 + 3 * i by omega]
  exact iget_c (by omega) (N := 12) (ucl_nod i hi).1 hl (by decide)
theorem p_fst {s : uS} {i l : Nat} {v : Int32} (hi : i < 320) (hl : l < 12) : iput 20 s (16 + 3 * i + 1) (nI l) v = some (wF s (17 + 3 * i) l v) := by
  rw [show 16 + 3 * i + 1 = 17 + 3 * i by omega]
  exact iput_c (by omega) (N := 12) (ucl_nod i hi).1 hl (by decide)
theorem g_amt {s : uS} {i l : Nat} (hi : i < 320) (hl : l < 12) : iget 20 s (16 + 3 * i + 2) (nI l) = some (s.F (18 + 3 * i) l) := by
  rw [show 16 + 3 * i + 2 = 18 + 3 * i by omega]
  exact iget_c (by omega) (N := 12) (ucl_nod i hi).2 hl (by decide)
theorem p_amt {s : uS} {i l : Nat} {v : Int32} (hi : i < 320) (hl : l < 12) : iput 20 s (16 + 3 * i + 2) (nI l) v = some (wF s (18 + 3 * i) l v) := by
  rw [show 16 + 3 * i + 2 = 18 + 3 * i by omega]
  exact iput_c (by omega) (N := 12) (ucl_nod i hi).2 hl (by decide)
def psh (s : uS) (n : Nat) (a c : Int32) : uS := wI (wF (wF s 14 n a) 15 n c) 6 5 (nI (n + 1))
theorem c_push {s : uS} {n : Nat} {a c : Int32} (h : s.I 6 5 = nI n) (hn : n < 120) : fn_X4_push a c s = some (psh s n a c) := by
  unfold fn_X4_push psh
  rw [h, if_neg (show ¬ (120 : Int32) ≤ nI n from nI_ge hn (by decide)), p_14 hn, Option.bind_some, wF_I, h, p_15 hn, Option.bind_some, wF_I, wF_I, h, nI_1]
theorem c_pushL {s : uS} {n i l : Nat} {a : Int32} (h : s.I 6 5 = nI n) (hn : n < 120) : fn_X4_pushList a (nI i) (nI l) s = some (psh s n a (nI (12 * i + l))) := by
  unfold fn_X4_pushList
  rw [show nI i * 12 + nI l = nI (12 * i + l) by rw [show (12 : Int32) = nI 12 from rfl, nI_mul, nI_add, Nat.mul_comm], c_push h hn, Option.bind_some]
theorem psh_I {s : uS} {n k f : Nat} {a c : Int32} (h : ¬ (k = 6 ∧ f = 5)) : (psh s n a c).I k f = s.I k f := (wI_o h).trans rfl
theorem psh_5 {s : uS} {n : Nat} {a c : Int32} : (psh s n a c).I 6 5 = nI (n + 1) := wI_e _ _ _ _
theorem psh_F {s : uS} {n k : Nat} {a c : Int32} (h : k ≠ 14) (g : k ≠ 15) : (psh s n a c).F k = s.F k := by
  unfold psh
  rw [wI_F, wF_r g, wF_r h]
theorem psh_o {PI PF : Nat → Nat → Prop} {s s0 : uS} {n : Nat} {a c : Int32} (h : out PI PF s0 s) (i : PI 6 5) (f : PF 14 n) (g : PF 15 n) : out PI PF s0 (psh s n a c) := out_I (out_F (out_F h f) g) i
theorem stk.psh {s : uS} {σ : List (Nat × Nat)} {a c : Nat} (h : stk s σ) : stk (psh s σ.length (nI a) (nI c)) ((a, c) :: σ) := by
  refine ⟨?_, ?_, h.fr (fun i hi => ⟨?_, ?_⟩)⟩
  · show (wI (wF (wF s 14 σ.length (nI a)) 15 σ.length (nI c)) 6 5 (nI (σ.length + 1))).F 14 σ.length = _
    rw [wI_F, wF_o (by omega), wF_e]
  · show (wI (wF (wF s 14 σ.length (nI a)) 15 σ.length (nI c)) 6 5 (nI (σ.length + 1))).F 15 σ.length = _
    rw [wI_F, wF_e]
  · show (wI (wF (wF s 14 σ.length (nI a)) 15 σ.length (nI c)) 6 5 (nI (σ.length + 1))).F 14 i = _
    rw [wI_F, wF_o (by omega), wF_o (by omega)]
  · show (wI (wF (wF s 14 σ.length (nI a)) 15 σ.length (nI c)) 6 5 (nI (σ.length + 1))).F 15 i = _
    rw [wI_F, wF_o (by omega), wF_o (by omega)]
theorem pm.psh {σ : List (Nat × Nat)} {N cn ob rq a c : Nat} {s : uS} (h : pm σ N cn ob rq s) : pm ((a, c) :: σ) N cn ob rq (psh s σ.length (nI a) (nI c)) := by
  obtain ⟨h1, h2, h3, h4, h5, h6⟩ := h
  exact ⟨psh_5, h2.psh, (psh_I (by omega)).trans h3, (psh_I (by omega)).trans h4, (psh_I (by omega)).trans h5, (psh_I (by omega)).trans h6⟩
theorem pm.pop {σ : List (Nat × Nat)} {N cn ob rq : Nat} {p : Nat × Nat} {s : uS} (h : pm (p :: σ) N cn ob rq s) : pm σ N cn ob rq (wI s 6 5 (nI σ.length)) := by
  obtain ⟨h1, h2, h3, h4, h5, h6⟩ := h
  exact ⟨wI_e _ _ _ _, h2.2.2.fr (fun _ _ => ⟨rfl, rfl⟩), (wI_o (by omega)).trans h3, (wI_o (by omega)).trans h4, (wI_o (by omega)).trans h5, (wI_o (by omega)).trans h6⟩
theorem pm.fr {σ : List (Nat × Nat)} {N cn ob rq : Nat} {s S : uS} (h : pm σ N cn ob rq s) (i : ∀ f : Nat, S.I 6 f = s.I 6 f) (f : ∀ r f : Nat, r = 14 ∨ r = 15 → S.F r f = s.F r f) : pm σ N cn ob rq S := by
  obtain ⟨h1, h2, h3, h4, h5, h6⟩ := h
  exact ⟨(i _).trans h1, h2.fr (fun j _ => ⟨f _ _ (Or.inl rfl), f _ _ (Or.inr rfl)⟩), (i _).trans h3, (i _).trans h4, (i _).trans h5, (i _).trans h6⟩
theorem pm.h1 {σ : List (Nat × Nat)} {N cn ob rq : Nat} {p : Nat × Nat} {s : uS} (h : pm (p :: σ) N cn ob rq s) : s.I 6 5 - 1 = nI σ.length := by
  rw [h.1, List.length_cons]; exact nI_sub (show 1 ≤ σ.length + 1 by omega)
theorem c_pop {σ : List (Nat × Nat)} {N cn ob rq : Nat} {p : Nat × Nat} {s : uS} {c : Int32} (h : pm (p :: σ) N cn ob rq s) : fn_X4_pop c s = some (wI s 6 5 (nI σ.length), c) := by
  unfold fn_X4_pop
  rw [h.h1]
/-- a new node -/
def anI (N k f : Nat) : Prop := (k = 6 ∧ f = 2) ∨ k = 16 + 3 * N
def anF (N k _f : Nat) : Prop := k = 18 + 3 * N
def nodN (N : Nat) (κ p d : Int32) (S : uS) : Prop := S.I (16 + 3 * N) 0 = κ ∧ S.I (16 + 3 * N) 1 = p ∧ S.I (16 + 3 * N) 2 = d ∧ S.I (16 + 3 * N) 3 = nI (N + 1) ∧ S.I (16 + 3 * N) 4 = nI (N + 1) ∧ S.I (16 + 3 * N) 5 = nI 0 ∧ S.I (16 + 3 * N) 6 = nI 0 ∧ S.I (16 + 3 * N) 8 = nI 0 ∧ S.I (16 + 3 * N) 9 = nI 0 ∧ S.I (16 + 3 * N) 11 = nI 0 ∧ ∀ l : Nat, l < 12 → S.F (18 + 3 * N) l = nI 0
theorem c_fill {s : uS} {i : Nat} (hi : i < 320) : fn_J7_fill_53178 (16 + 3 * i + 2) 0 s = some (cpy s (18 + 3 * i) 0 0 12 (fun _ => nI 0)) := by
  unfold fn_J7_fill_53178
  rw [ulen_c (k := 16 + 3 * i + 2) (N := 12) (t := 20) (by omega) (by rw [show 16 + 3 * i + 2 = 18 + 3 * i by omega]; exact (ucl_nod i hi).2) (by decide), Option.bind_some]
  refine cpy0 (F := fun n j s => fn_J7_fill_53178_5 n (16 + 3 * i + 2) 0 j (nI 12) s) (fin := fun s => some s) ?_ ?_ (by show 12 < 1000000; omega)
  · intro n j hj
    show fb_J7_fill_53178_5 _ _ _ (nI j) _ _ = _
    unfold fb_J7_fill_53178_5
    rw [if_neg (nI_ge hj (by decide)), p_amt hi hj, Option.bind_some, nI_1, Nat.zero_add]
    rfl
  · intro n
    show fb_J7_fill_53178_5 _ _ _ (nI 12) _ _ = _
    unfold fb_J7_fill_53178_5
    rw [if_pos (nI_le (Nat.le_refl _) (by decide))]
theorem c_node {s : uS} {N : Nat} {κ p d : Int32} (h : s.I 6 2 = nI N) (hN : N < 320) : ∃ S : uS, fn_X4_addNode κ p d s = some (S, nI N) ∧ S.I 6 2 = nI (N + 1) ∧ out (anI N) (anF N) s S ∧ nodN N κ p d S := by
  unfold fn_X4_addNode fn_X3_reset
  rw [h, if_pos (show nI N < (320 : Int32) from nI_lt hN (by decide)), pgt_nod hN, Option.bind_some, if_pos (so_nod hN), c_fill hN, Option.bind_some, Option.bind_some, pgt_nod hN, Option.bind_some, if_pos (so_nod hN), pgt_nod hN, Option.bind_some, if_pos (so_nod hN)]
  refine ⟨_, rfl, ?_, ?_, ?_⟩
  · rw [wI_o (by omega), wI_o (by omega), cpy_I, wI_o (by omega), wI_o (by omega), wI_o (by omega), wI_o (by omega), wI_o (by omega), wI_o (by omega), wI_o (by omega), wI_o (by omega), wI_e, nI_1]
  · refine out_I (out_I (out_t (s1 := wI (wI (wI (wI (wI (wI (wI (wI (wI s 6 2 (nI N + 1)) (16 + 3 * N) 0 κ) (16 + 3 * N) 1 p) (16 + 3 * N) 2 d) (16 + 3 * N) 5 0) (16 + 3 * N) 6 0) (16 + 3 * N) 8 0) (16 + 3 * N) 9 0) (16 + 3 * N) 11 0) ?_ (out_cpy (fun f => rfl))) (Or.inr rfl)) (Or.inr rfl)
    iterate 8 refine out_I ?_ (Or.inr rfl)
    exact out_I out_r (Or.inl ⟨rfl, rfl⟩)
  · have h62 : ∀ f : Nat, (wI (wI (wI (wI (wI (wI (wI (wI (wI s 6 2 (nI N + 1)) (16 + 3 * N) 0 κ) (16 + 3 * N) 1 p) (16 + 3 * N) 2 d) (16 + 3 * N) 5 0) (16 + 3 * N) 6 0) (16 + 3 * N) 8 0) (16 + 3 * N) 9 0) (16 + 3 * N) 11 0).I 6 2 = nI (N + 1) := fun _ => by
      rw [wI_o (by omega), wI_o (by omega), wI_o (by omega), wI_o (by omega), wI_o (by omega), wI_o (by omega), wI_o (by omega), wI_o (by omega), wI_e, nI_1]
    refine ⟨?_, ?_, ?_, ?_, ?_, ?_, ?_, ?_, ?_, ?_, fun l hl => ?_⟩
    · rw [wI_o (by omega), wI_o (by omega), cpy_I, wI_o (by omega), wI_o (by omega), wI_o (by omega), wI_o (by omega), wI_o (by omega), wI_o (by omega), wI_o (by omega), wI_e]
    · rw [wI_o (by omega), wI_o (by omega), cpy_I, wI_o (by omega), wI_o (by omega), wI_o (by omega), wI_o (by omega), wI_o (by omega), wI_o (by omega), wI_e]
    · rw [wI_o (by omega), wI_o (by omega), cpy_I, wI_o (by omega), wI_o (by omega), wI_o (by omega), wI_o (by omega), wI_o (by omega), wI_e]
    · rw [wI_o (by omega), wI_e, cpy_I, h62 0]
    · rw [wI_e, wI_o (by omega), cpy_I, h62 0]
    · rw [wI_o (by omega), wI_o (by omega), cpy_I, wI_o (by omega), wI_o (by omega), wI_o (by omega), wI_o (by omega), wI_e]; rfl
    · rw [wI_o (by omega), wI_o (by omega), cpy_I, wI_o (by omega), wI_o (by omega), wI_o (by omega), wI_e]; rfl
    · rw [wI_o (by omega), wI_o (by omega), cpy_I, wI_o (by omega), wI_o (by omega), wI_e]; rfl
    · rw [wI_o (by omega), wI_o (by omega), cpy_I, wI_o (by omega), wI_e]; rfl
    · rw [wI_o (by omega), wI_o (by omega), cpy_I, wI_e]; rfl
    · rw [wI_F, wI_F]
      have := cpy_Fe (s := wI (wI (wI (wI (wI (wI (wI (wI (wI s 6 2 (nI N + 1)) (16 + 3 * N) 0 κ) (16 + 3 * N) 1 p) (16 + 3 * N) 2 d) (16 + 3 * N) 5 0) (16 + 3 * N) 6 0) (16 + 3 * N) 8 0) (16 + 3 * N) 9 0) (16 + 3 * N) 11 0) (K := 18 + 3 * N) (off := 0) (i := 0) (L := 12) (g := fun _ => nI 0) (j := l) (Nat.zero_le _) hl
      rw [Nat.zero_add] at this
      exact this
/-- a new node of the reference -/
def rndF (M k f : Nat) : Prop := (1098 ≤ k ∧ k ≤ 1115) ∧ f = M
def rndI (k f : Nat) : Prop := k = 1079 ∧ f = 41
def nodR (M : Nat) (κ : Int32) (U : uS) : Prop := U.F 1098 M = κ ∧ U.F 1099 M = -1 ∧ U.F 1100 M = -1 ∧ U.F 1101 M = -1 ∧ U.F 1103 M = 0 ∧ U.F 1105 M = 0 ∧ U.F 1106 M = -1 ∧ U.F 1108 M = 0 ∧ U.F 1109 M = -1 ∧ U.F 1110 M = 0 ∧ U.F 1111 M = -1 ∧ U.F 1112 M = -1 ∧ U.F 1113 M = 0 ∧ U.F 1114 M = -1 ∧ U.F 1115 M = -1
theorem r_node {t : uS} {M : Nat} {κ : Int32} (h : t.I 1079 41 = nI M) (hM : M < 519) : ∃ U : uS, fn_X12_node κ t = some (U, nI M) ∧ U.I 1079 41 = nI (M + 1) ∧ out rndI (rndF M) t U ∧ nodR M κ U := by
  have hi : M < 520 := by omega
  unfold fn_X12_node fb_X12_node_20
  rw [h, if_neg (show ¬ (519 : Int32) ≤ nI M from nI_ge hM (by decide))]
  simp only [p_1098 hi, p_1099 hi, p_1100 hi, p_1101 hi, p_1103 hi, p_1105 hi, p_1106 hi, p_1108 hi, p_1109 hi, p_1110 hi, p_1111 hi, p_1112 hi, p_1113 hi, p_1114 hi, p_1115 hi, Option.bind_some]
  refine ⟨_, rfl, ?_, ?_, ?_⟩
  · iterate 15 rw [wF_I]
    rw [wI_e, nI_1]
  · iterate 15 refine out_F ?_ (show rndF M _ _ from ⟨by omega, rfl⟩)
    exact out_I out_r ⟨rfl, rfl⟩
  · refine ⟨?_, ?_, ?_, ?_, ?_, ?_, ?_, ?_, ?_, ?_, ?_, ?_, ?_, ?_, ?_⟩
    · rw [wF_r (show 1098 ≠ 1115 by decide), wF_r (show 1098 ≠ 1114 by decide), wF_r (show 1098 ≠ 1113 by decide), wF_r (show 1098 ≠ 1112 by decide), wF_r (show 1098 ≠ 1111 by decide), wF_r (show 1098 ≠ 1110 by decide), wF_r (show 1098 ≠ 1109 by decide), wF_r (show 1098 ≠ 1108 by decide), wF_r (show 1098 ≠ 1106 by decide), wF_r (show 1098 ≠ 1105 by decide), wF_r (show 1098 ≠ 1103 by decide), wF_r (show 1098 ≠ 1101 by decide), wF_r (show 1098 ≠ 1100 by decide), wF_r (show 1098 ≠ 1099 by decide)]; exact wF_e _ _ _ _
    · rw [wF_r (show 1099 ≠ 1115 by decide), wF_r (show 1099 ≠ 1114 by decide), wF_r (show 1099 ≠ 1113 by decide), wF_r (show 1099 ≠ 1112 by decide), wF_r (show 1099 ≠ 1111 by decide), wF_r (show 1099 ≠ 1110 by decide), wF_r (show 1099 ≠ 1109 by decide), wF_r (show 1099 ≠ 1108 by decide), wF_r (show 1099 ≠ 1106 by decide), wF_r (show 1099 ≠ 1105 by decide), wF_r (show 1099 ≠ 1103 by decide), wF_r (show 1099 ≠ 1101 by decide), wF_r (show 1099 ≠ 1100 by decide)]; exact wF_e _ _ _ _
    · rw [wF_r (show 1100 ≠ 1115 by decide), wF_r (show 1100 ≠ 1114 by decide), wF_r (show 1100 ≠ 1113 by decide), wF_r (show 1100 ≠ 1112 by decide), wF_r (show 1100 ≠ 1111 by decide), wF_r (show 1100 ≠ 1110 by decide), wF_r (show 1100 ≠ 1109 by decide), wF_r (show 1100 ≠ 1108 by decide), wF_r (show 1100 ≠ 1106 by decide), wF_r (show 1100 ≠ 1105 by decide), wF_r (show 1100 ≠ 1103 by decide), wF_r (show 1100 ≠ 1101 by decide)]; exact wF_e _ _ _ _
    · rw [wF_r (show 1101 ≠ 1115 by decide), wF_r (show 1101 ≠ 1114 by decide), wF_r (show 1101 ≠ 1113 by decide), wF_r (show 1101 ≠ 1112 by decide), wF_r (show 1101 ≠ 1111 by decide), wF_r (show 1101 ≠ 1110 by decide), wF_r (show 1101 ≠ 1109 by decide), wF_r (show 1101 ≠ 1108 by decide), wF_r (show 1101 ≠ 1106 by decide), wF_r (show 1101 ≠ 1105 by decide), wF_r (show 1101 ≠ 1103 by decide)]; exact wF_e _ _ _ _
    · rw [wF_r (show 1103 ≠ 1115 by decide), wF_r (show 1103 ≠ 1114 by decide), wF_r (show 1103 ≠ 1113 by decide), wF_r (show 1103 ≠ 1112 by decide), wF_r (show 1103 ≠ 1111 by decide), wF_r (show 1103 ≠ 1110 by decide), wF_r (show 1103 ≠ 1109 by decide), wF_r (show 1103 ≠ 1108 by decide), wF_r (show 1103 ≠ 1106 by decide), wF_r (show 1103 ≠ 1105 by decide)]; exact wF_e _ _ _ _
    · rw [wF_r (show 1105 ≠ 1115 by decide), wF_r (show 1105 ≠ 1114 by decide), wF_r (show 1105 ≠ 1113 by decide), wF_r (show 1105 ≠ 1112 by decide), wF_r (show 1105 ≠ 1111 by decide), wF_r (show 1105 ≠ 1110 by decide), wF_r (show 1105 ≠ 1109 by decide), wF_r (show 1105 ≠ 1108 by decide), wF_r (show 1105 ≠ 1106 by decide)]; exact wF_e _ _ _ _
    · rw [wF_r (show 1106 ≠ 1115 by decide), wF_r (show 1106 ≠ 1114 by decide), wF_r (show 1106 ≠ 1113 by decide), wF_r (show 1106 ≠ 1112 by decide), wF_r (show 1106 ≠ 1111 by decide), wF_r (show 1106 ≠ 1110 by decide), wF_r (show 1106 ≠ 1109 by decide), wF_r (show 1106 ≠ 1108 by decide)]; exact wF_e _ _ _ _
    · rw [wF_r (show 1108 ≠ 1115 by decide), wF_r (show 1108 ≠ 1114 by decide), wF_r (show 1108 ≠ 1113 by decide), wF_r (show 1108 ≠ 1112 by decide), wF_r (show 1108 ≠ 1111 by decide), wF_r (show 1108 ≠ 1110 by decide), wF_r (show 1108 ≠ 1109 by decide)]; exact wF_e _ _ _ _
    · rw [wF_r (show 1109 ≠ 1115 by decide), wF_r (show 1109 ≠ 1114 by decide), wF_r (show 1109 ≠ 1113 by decide), wF_r (show 1109 ≠ 1112 by decide), wF_r (show 1109 ≠ 1111 by decide), wF_r (show 1109 ≠ 1110 by decide)]; exact wF_e _ _ _ _
    · rw [wF_r (show 1110 ≠ 1115 by decide), wF_r (show 1110 ≠ 1114 by decide), wF_r (show 1110 ≠ 1113 by decide), wF_r (show 1110 ≠ 1112 by decide), wF_r (show 1110 ≠ 1111 by decide)]; exact wF_e _ _ _ _
    · rw [wF_r (show 1111 ≠ 1115 by decide), wF_r (show 1111 ≠ 1114 by decide), wF_r (show 1111 ≠ 1113 by decide), wF_r (show 1111 ≠ 1112 by decide)]; exact wF_e _ _ _ _
    · rw [wF_r (show 1112 ≠ 1115 by decide), wF_r (show 1112 ≠ 1114 by decide), wF_r (show 1112 ≠ 1113 by decide)]; exact wF_e _ _ _ _
    · rw [wF_r (show 1113 ≠ 1115 by decide), wF_r (show 1113 ≠ 1114 by decide)]; exact wF_e _ _ _ _
    · rw [wF_r (show 1114 ≠ 1115 by decide)]; exact wF_e _ _ _ _
    · exact wF_e _ _ _ _
/-- signs -/
theorem pj.sg {k fr : Nat} {x : List Nat} {ts : List (List Nat)} {bg b e : Nat} {σ : List (Nat × Nat)} {N M cn ob dp rq T : Nat} {s t : uS} (h : pj k fr x ts bg b e σ N M cn ob dp rq T s t) {c : Nat} (hc : c < 128) : ∃ v : Bool, fn_X2_isSign (nI c) s = some v ∧ fn_X12_isSign (nI c) t = some v ∧ (v = true → s.I 7 2 = 4 ∧ b < e) := by
  have h40 := h.1.l.2.2.1
  have e100 : (100 : Int32) + nI c = nI (100 + c) := by rw [show (100 : Int32) = nI 100 from rfl, nI_add]
  have no : s.I 7 2 ≠ 4 → (∃ z : Nat, z < 100 ∧ t.I 1079 31 = nI z) → ∃ v : Bool, fn_X2_isSign (nI c) s = some v ∧ fn_X12_isSign (nI c) t = some v ∧ (v = true → s.I 7 2 = 4 ∧ b < e) := by
    rintro g1 ⟨z, z1, z2⟩
    refine ⟨false, c_sign0 g1, ?_, fun z => by cases z⟩
    unfold fn_X12_isSign fn_X12_is
    rw [h40, if_neg (show ¬ (0 : Int32) ≤ -1 by decide), z2, e100, if_neg (show ¬ nI z = nI (100 + c) by rw [nI_eq (by omega) (by omega)]; omega), Option.bind_some]
  rcases h.1 with h | h | h | h | h | h
  · exact no (by rw [h.2.2.2.1]; decide) ⟨0, by omega, h.2.2.2.2⟩
  · exact no (by rw [h.2.2.1]; decide) ⟨1, by omega, h.2.2.2.1⟩
  · exact no (by rw [h.2.2.1]; decide) ⟨2, by omega, h.2.2.2.1⟩
  · exact no (by rw [h.2.2.1]; decide) ⟨3, by omega, h.2.2.2.1⟩
  · obtain ⟨a1, a2, ⟨g1, g2, g3, g4, g5, g6, g7⟩, a4, a5, a6⟩ := h
    have hb := g1.by b
    refine ⟨decide (x.getD b 0 = c), ?_, ?_, fun _ => ⟨a4, by omega⟩⟩
    · unfold fn_X2_isSign
      rw [if_pos a4, g1.1, Option.bind_some, g6, g1.at a2, Option.bind_some]
      by_cases q : x.getD b 0 = c
      · rw [if_pos ((sb_e hb hc).mpr q), decide_eq_true q]
      · rw [if_neg (fun z => q ((sb_e hb hc).mp z)), decide_eq_false q]
    · unfold fn_X12_isSign fn_X12_is
      rw [h40, if_neg (show ¬ (0 : Int32) ≤ -1 by decide), a5, e100]
      by_cases q : x.getD b 0 = c
      · rw [if_pos (by rw [q]), decide_eq_true q, Option.bind_some]
      · rw [if_neg (by rw [nI_eq (by omega) (by omega)]; omega), decide_eq_false q, Option.bind_some]
  · obtain ⟨a, str, -, -, -, -, -, -, -, -, -, z, z2⟩ := h
    exact no (by rw [z]; decide) ⟨4, by omega, z2⟩
/-- the kinds of tokens -/
theorem pj.is {k fr : Nat} {x : List Nat} {ts : List (List Nat)} {bg b e : Nat} {σ : List (Nat × Nat)} {N M cn ob dp rq T : Nat} {s t : uS} (h : pj k fr x ts bg b e σ N M cn ob dp rq T s t) {c : Nat} (hc : c < 4) : fn_X12_is (nI (c + 1)) t = some (decide (s.I 7 2 = nI c)) := by
  have h40 := h.1.l.2.2.1
  have main : ∀ a z : Nat, s.I 7 2 = nI a → t.I 1079 31 = nI z → a < 6 → z < 400 → (a = c ↔ z = c + 1) → fn_X12_is (nI (c + 1)) t = some (decide (s.I 7 2 = nI c)) := by
    intro a z h1 h2 ha hz h3
    unfold fn_X12_is
    rw [h40, if_neg (show ¬ (0 : Int32) ≤ -1 by decide), h2, h1]
    by_cases q : z = c + 1
    · rw [if_pos (by rw [q]), decide_eq_true (by rw [h3.mpr q])]
    · rw [if_neg (by rw [nI_eq (by omega) (by omega)]; exact q), decide_eq_false (by rw [nI_eq (by omega) (by omega)]; exact fun w => q (h3.mp w))]
  rcases h.1 with h | h | h | h | h | h
  · exact main 5 0 h.2.2.2.1 h.2.2.2.2 (by omega) (by omega) (by omega)
  · exact main 0 1 h.2.2.1 h.2.2.2.1 (by omega) (by omega) (by omega)
  · exact main 1 2 h.2.2.1 h.2.2.2.1 (by omega) (by omega) (by omega)
  · exact main 2 3 h.2.2.1 h.2.2.2.1 (by omega) (by omega) (by omega)
  · have hb := h.2.2.1.1.by b
    exact main 4 (100 + x.getD b 0) h.2.2.2.1 h.2.2.2.2.1 (by omega) (by omega) (by omega)
  · obtain ⟨a, str, -, -, -, -, -, -, -, -, -, z, z2⟩ := h
    exact main 3 4 z z2 (by omega) (by omega) (by omega)
