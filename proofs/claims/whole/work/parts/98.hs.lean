/-! the class's entries: those of messages and notes are never those of scripts -/
def oE (s : uS) (k : Nat) : Prop := (∃ i : Nat, s.P 5 i = some k) ∨ ∃ v i : Nat, v < 4 ∧ s.P (987 + 16 * v) i = some k
def Fp (lo : Nat) (s s1 : uS) : Prop := lo ≤ s1.n ∧ s.n ≤ s1.n ∧ (∀ k : Nat, oE s1 k → oE s k ∨ (lo ≤ k ∧ k < s1.n)) ∧ ∀ u : Nat, u < 4 → s1.I (985 + 16 * u) 3 = s.I (985 + 16 * u) 3 ∧ s1.P (986 + 16 * u) = s.P (986 + 16 * u)
theorem Fp.tr {lo : Nat} {s s1 s2 : uS} (h : Fp lo s s1) (g : Fp lo s1 s2) : Fp lo s s2 := by
  obtain ⟨a1, a2, a3, a4⟩ := h
  obtain ⟨b1, b2, b3, b4⟩ := g
  refine ⟨b1, Nat.le_trans a2 b2, fun k hk => ?_, fun u hu => ⟨(b4 u hu).1.trans (a4 u hu).1, (b4 u hu).2.trans (a4 u hu).2⟩⟩
  rcases b3 k hk with y | y
  · rcases a3 k y with z | z
    · exact Or.inl z
    · exact Or.inr ⟨z.1, Nat.lt_of_lt_of_le z.2 b2⟩
  · exact Or.inr y
theorem Fp_P {lo : Nat} {s s1 : uS} (hlo : lo ≤ s.n) (hn : s.n ≤ s1.n) (h5 : s1.P 5 = s.P 5) (hu : ∀ u : Nat, u < 4 → s1.P (986 + 16 * u) = s.P (986 + 16 * u) ∧ s1.P (987 + 16 * u) = s.P (987 + 16 * u) ∧ s1.I (985 + 16 * u) 3 = s.I (985 + 16 * u) 3) : Fp lo s s1 := by
  refine ⟨Nat.le_trans hlo hn, hn, fun k hk => Or.inl ?_, fun u y => ⟨(hu u y).2.2, (hu u y).1⟩⟩
  rcases hk with ⟨i, hi⟩ | ⟨v, i, hv, hi⟩
  · exact Or.inl ⟨i, by rw [← h5]; exact hi⟩
  · exact Or.inr ⟨v, i, hv, by rw [← (hu v hv).2.1]; exact hi⟩
theorem Fp_r {lo : Nat} {s : uS} (hlo : lo ≤ s.n) : Fp lo s s := Fp_P hlo (Nat.le_refl _) rfl (fun _ _ => ⟨rfl, rfl, rfl⟩)
theorem Fp_wI {lo : Nat} {s : uS} {a f : Nat} {v : Int32} (hlo : lo ≤ s.n) (h : f = 3 → a < 985 ∨ 1033 < a) : Fp lo s (wI s a f v) := Fp_P hlo (Nat.le_refl _) rfl (fun u hu => ⟨rfl, rfl, by rw [wI_o (by omega)]⟩)
def L13 : List Nat := [5, 985, 986, 987, 1001, 1002, 1003, 1017, 1018, 1019, 1033, 1034, 1035]
def okL (ps : List (Nat × Nat)) (as rs ks : List Nat) : Bool := L13.all fun k => !rs.contains (rg k) && !ks.contains k && !as.contains k && ps.all fun q => q.1 != k
theorem Fp_agf {lo : Nat} {ps : List (Nat × Nat)} {as rs ks : List Nat} {s s1 : uS} (h : agf ps as rs ks s s1) (h11 : 1171 ≤ lo) (hlo : lo ≤ s.n) (g : okL ps as rs ks = true) : Fp lo s s1 := by
  obtain ⟨a1, a2, a3, a4, a5⟩ := h (Nat.le_trans h11 hlo)
  unfold okL at g
  rw [List.all_eq_true] at g
  have key : ∀ k ∈ L13, s1.P k = s.P k ∧ ∀ f : Nat, s1.I k f = s.I k f := by
    intro k hk
    have q := g k hk
    rw [Bool.and_eq_true, Bool.and_eq_true, Bool.and_eq_true] at q
    obtain ⟨⟨⟨q1, q2⟩, q3⟩, q4⟩ := q
    have n1 : rg k ∉ rs := fun z => by rw [List.contains_iff_mem.mpr z] at q1; cases q1
    have n2 : k ∉ ks := fun z => by rw [List.contains_iff_mem.mpr z] at q2; cases q2
    have n3 : k ∉ as := fun z => by rw [List.contains_iff_mem.mpr z] at q3; cases q3
    rw [List.all_eq_true] at q4
    have n4 : ∀ f : Nat, (k, f) ∉ ps := fun f z => by have := q4 _ z; simp at this
    have hk1 : k < s.n := by
      have : ∀ x ∈ L13, x < 1171 := by unfold L13; decide
      have := this k hk
      omega
    exact ⟨(a5 k hk1 n1 n2 n3).2.2, fun f => (a4 k f hk1 n1 n2 (n4 f)).1⟩
  have m5 : (5 : Nat) ∈ L13 := by decide
  have mu : ∀ u : Nat, u < 4 → 985 + 16 * u ∈ L13 ∧ 986 + 16 * u ∈ L13 ∧ 987 + 16 * u ∈ L13 := by
    intro u hu
    rcases (show u = 0 ∨ u = 1 ∨ u = 2 ∨ u = 3 by omega) with rfl | rfl | rfl | rfl <;> decide
  exact Fp_P hlo a1 (key 5 m5).1 (fun u hu => ⟨(key _ (mu u hu).2.1).1, (key _ (mu u hu).2.2).1, (key _ (mu u hu).1).2 3⟩)
theorem so10 {k : Nat} (h : uSo k 10) : k = 985 ∨ k = 1001 ∨ k = 1017 ∨ k = 1033 := by
  have : ∀ k, k < 1171 → (ucl k).1 = 10 → k = 985 ∨ k = 1001 ∨ k = 1017 ∨ k = 1033 := by decide +kernel
  exact this k h.1 h.2
theorem so5 {k : Nat} (h : uSo k 5) : k = 976 ∨ k = 992 ∨ k = 1008 ∨ k = 1024 ∨ k = 1040 := by
  have : ∀ k, k < 1171 → (ucl k).1 = 5 → k = 976 ∨ k = 992 ∨ k = 1008 ∨ k = 1024 ∨ k = 1040 := by decide +kernel
  exact this k h.1 h.2
theorem nent_n {s s1 : uS} (h : nent s = some s1) : s1.n = s.n + 1 := by
  obtain ⟨-, h⟩ := uu_grd h
  cases h
  rfl
theorem fp_nent {lo : Nat} {s s1 : uS} (h : nent s = some s1) (h11 : 1171 ≤ lo) (hlo : lo ≤ s.n) : Fp lo s s1 := Fp_agf (agf_nent (ps := []) (as := []) (rs := [12]) (ks := []) h (by decide)) h11 hlo (by decide)
/-- an entry laid into a row -/
theorem Fp_wP {lo : Nat} {s : uS} {K i e : Nat} (hlo : lo ≤ s.n) (hK : K = 5 ∨ ∃ v : Nat, v < 4 ∧ K = 987 + 16 * v) (he : oE s e ∨ (lo ≤ e ∧ e < s.n)) : Fp lo s (wP s K i (some e)) := by
  refine ⟨hlo, Nat.le_refl _, fun k hk => ?_, fun u hu => ⟨rfl, funext fun j => ?_⟩⟩
  · have cs : ∀ a b : Nat, (wP s K i (some e)).P a b = some k → s.P a b = some k ∨ k = e := by
      intro a b z
      rw [wP_P] at z
      by_cases c : a = K ∧ b = i
      · rw [if_pos c] at z; exact Or.inr (Option.some.inj z).symm
      · rw [if_neg c] at z; exact Or.inl z
    rcases hk with ⟨j, hj⟩ | ⟨v, j, hv, hj⟩
    · rcases cs _ _ hj with z | z
      · exact Or.inl (Or.inl ⟨j, z⟩)
      · rw [z]; exact he
    · rcases cs _ _ hj with z | z
      · exact Or.inl (Or.inr ⟨v, j, hv, z⟩)
      · rw [z]; exact he
  · rw [wP_P, if_neg (fun z => by rcases hK with y | ⟨v, y1, y2⟩ <;> omega)]
theorem fp_store {lo e : Nat} {s s1 : uS} (h : fn_X11_storeMail (some e) s = some s1) (hlo : lo ≤ s.n) (he : lo ≤ e ∧ e < s.n) : Fp lo s s1 := by
  unfold fn_X11_storeMail at h
  obtain ⟨v5, e6, h⟩ := uu_ob h
  by_cases c7 : v5 ≤ (s.I 0 10)
  · replace h := uu_pos c7 h
    cases h
    exact Fp_r hlo
  · replace h := uu_neg c7 h
    obtain ⟨s8, e9, h⟩ := uu_ob h
    have f8 : Fp lo s s8 := by
      obtain ⟨-, e9⟩ := uu_grd e9
      cases e9
      exact Fp_wP (K := 5) hlo (Or.inl rfl) (Or.inr he)
    obtain ⟨g10, h⟩ := uu_grd h
    obtain ⟨j11, e12, h⟩ := uu_ob h
    obtain ⟨v13, e14, h⟩ := uu_ob h
    obtain ⟨g15, h⟩ := uu_grd h
    split at h
    · cases h
      exact f8.tr (((Fp_wI f8.1 (fun z => by omega)).tr (Fp_wI f8.1 (fun z => by omega))).tr (Fp_wI f8.1 (fun z => by omega)))
    · cases h
      exact f8.tr ((Fp_wI f8.1 (fun z => by omega)).tr (Fp_wI f8.1 (fun z => by omega)))
theorem fp_51 {lo k0 k1 k2 : Nat} {x3 : Int32} {s r : uS} (hk0 : uSo k0 10) (h : fb_X10_addNote_51 k0 k1 k2 x3 s = some r) (h11 : 1171 ≤ lo) (hlo : lo ≤ s.n) : Fp lo s r := by
  unfold fb_X10_addNote_51 at h
  obtain ⟨s1, e2, h⟩ := uu_ob h
  have f1 := fp_nent e2 h11 hlo
  have n1 := nent_n e2
  refine f1.tr ?_
  obtain ⟨g3, h⟩ := uu_grd h
  obtain ⟨s4, e5, h⟩ := uu_ob h
  have f4 : Fp lo s1 s4 := Fp_agf (zc_X1_init e5) h11 f1.1 (by decide)
  refine f4.tr ?_
  obtain ⟨g6, h⟩ := uu_grd h
  have f5 : Fp lo s4 (wI s4 s.n 5 x3) := Fp_wI f4.1 (fun z => by omega)
  refine f5.tr ?_
  obtain ⟨s7, e8, h⟩ := uu_ob h
  have hnn : s.n < s4.n := by have := f4.2.1; omega
  have hK : k0 + 2 = 5 ∨ ∃ v : Nat, v < 4 ∧ k0 + 2 = 987 + 16 * v := by
    right
    rcases so10 hk0 with y | y | y | y
    · exact ⟨0, by decide, by omega⟩
    · exact ⟨1, by decide, by omega⟩
    · exact ⟨2, by decide, by omega⟩
    · exact ⟨3, by decide, by omega⟩
  have f7 : Fp lo (wI s4 s.n 5 x3) s7 := by
    obtain ⟨-, e8⟩ := uu_grd e8
    cases e8
    exact Fp_wP (K := k0 + 2) (e := s.n) f5.1 hK (Or.inr ⟨hlo, hnn⟩)
  refine f7.tr ?_
  cases h
  exact Fp_wI f7.1 (fun z => by omega)
theorem fp_12 {lo : Nat} (h11 : 1171 ≤ lo) : ∀ (n k0 k1 k2 : Nat) (x3 x4 : Int32) (s r : uS), uSo k0 10 → fn_X10_addNote_12 n k0 k1 k2 x3 x4 s = some r → lo ≤ s.n → Fp lo s r := by
  intro n
  induction n with
  | zero => intro k0 k1 k2 x3 x4 s r hk0 h; cases h
  | succ n ih =>
    intro k0 k1 k2 x3 x4 s r hk0 h hlo
    replace h : fb_X10_addNote_12 (fn_X10_addNote_12 n) k0 k1 k2 x3 x4 s = some r := h
    unfold fb_X10_addNote_12 at h
    by_cases c1 : (40 : Int32) ≤ x4
    · replace h := uu_pos c1 h
      refine (Fp_wI (a := k0) (f := 4) (v := (s.I k0 4) - 1) hlo (fun z => by omega)).tr ?_
      exact fp_51 hk0 h h11 hlo
    · replace h := uu_neg c1 h
      obtain ⟨j2, e3, h⟩ := uu_ob h
      obtain ⟨s4, e5, h⟩ := uu_ob h
      obtain ⟨-, e5⟩ := uu_grd e5
      cases e5
      have hv : ∃ v : Nat, v < 4 ∧ k0 + 2 = 987 + 16 * v := by
        rcases so10 hk0 with y | y | y | y
        · exact ⟨0, by decide, by omega⟩
        · exact ⟨1, by decide, by omega⟩
        · exact ⟨2, by decide, by omega⟩
        · exact ⟨3, by decide, by omega⟩
      have hj : oE s j2 := by
        obtain ⟨v, v1, v2⟩ := hv
        unfold pgt at e3
        obtain ⟨g1, e3⟩ := uu_grd e3
        have hc : (uCl s (k0 + 2)).1 = 27 := g1.1.2
        unfold uP at e3
        rw [if_pos hc] at e3
        exact Or.inr ⟨v, _, v1, by rw [← v2]; exact e3⟩
      have f1 : Fp lo s (wP s (k0 + 2) (x4 - 1).toNatClampNeg (some j2)) := Fp_wP hlo (Or.inr hv) (Or.inl hj)
      refine f1.tr ?_
      exact ih k0 k1 k2 x3 (x4 + 1) _ r hk0 h hlo
theorem fp_note {lo k0 k1 k2 : Nat} {x3 : Int32} {s r : uS} (hk0 : uSo k0 10) (h : fn_X10_addNote k0 k1 k2 x3 s = some r) (h11 : 1171 ≤ lo) (hlo : lo ≤ s.n) : Fp lo s r := by
  unfold fn_X10_addNote at h
  split at h
  · exact fp_12 h11 _ _ _ _ _ _ _ _ hk0 h hlo
  · exact fp_51 hk0 h h11 hlo
theorem fp_156 {lo : Nat} (h11 : 1171 ≤ lo) : ∀ (n k2 k4 : Nat) (x5 : Int32) (s r : uS), uSo k2 10 → fn_X11_storePlan_156 n k2 k4 x5 s = some r → lo ≤ s.n → Fp lo s r := by
  intro n
  induction n with
  | zero => intro k2 k4 x5 s r hk h; cases h
  | succ n ih =>
    intro k2 k4 x5 s r hk2 h hlo
    replace h : fb_X11_storePlan_156 (fn_X11_storePlan_156 n) k2 k4 x5 s = some r := h
    unfold fb_X11_storePlan_156 at h
    by_cases c1 : (s.I 1070 7) ≤ x5
    · replace h := uu_pos c1 h
      by_cases c2 : (s.I 1070 8) = 0
      · replace h := uu_pos c2 h
        cases h
        exact Fp_r hlo
      · replace h := uu_neg c2 h
        obtain ⟨r3, e4, h⟩ := uu_ob h
        have f1 : Fp lo s r3.1 := Fp_agf (zc_X9_copyOf so_1043 e4) h11 hlo (by decide)
        refine f1.tr ?_
        obtain ⟨s5, e6, h⟩ := uu_ob h
        have f2 := fp_nent e6 h11 f1.1
        have n2 := nent_n e6
        refine f2.tr ?_
        obtain ⟨r7, e8, h⟩ := uu_ob h
        have f3 : Fp lo s5 r7.1 := Fp_agf (zc_J7_copyOf_9075b e8) h11 f2.1 (by decide)
        refine f3.tr ?_
        obtain ⟨g9, h⟩ := uu_grd h
        obtain ⟨s10, e11, h⟩ := uu_ob h
        have f4 : Fp lo r7.1 s10 := Fp_agf (zc_X1_init e11) h11 f3.1 (by decide)
        refine f4.tr ?_
        obtain ⟨s12, e13, h⟩ := uu_ob h
        have f5 : Fp lo s10 s12 := fp_store e13 f4.1 ⟨f1.1, by have := f3.2.1; have := f4.2.1; omega⟩
        refine f5.tr ?_
        rcases uu_oe h with ⟨eo14, h⟩ | ⟨j14, eo14, h⟩
        · cases h
          exact Fp_r f5.1
        · obtain ⟨hj14, h⟩ := uu_grd h
          rcases uu_oe h with ⟨eo15, h⟩ | ⟨j15, eo15, h⟩
          · cases h
          · obtain ⟨hj15, h⟩ := uu_grd h
            obtain ⟨v16, e17, h⟩ := uu_ob h
            obtain ⟨r18, e19, h⟩ := uu_ob h
            have f6 : Fp lo s12 r18.1 := Fp_agf (zc_X9_copyOf so_8 e19) h11 f5.1 (by decide)
            refine f6.tr ?_
            obtain ⟨s20, e21, h⟩ := uu_ob h
            cases h
            exact fp_note hk2 e21 h11 f6.1
    · replace h := uu_neg c1 h
      obtain ⟨s22, e23, h⟩ := uu_ob h
      have f1 := fp_nent e23 h11 hlo
      have n1 := nent_n e23
      refine f1.tr ?_
      obtain ⟨v24, e25, h⟩ := uu_ob h
      obtain ⟨r26, e27, h⟩ := uu_ob h
      have f2 : Fp lo s22 r26.1 := Fp_agf (zc_X9_copyOf so_8 e27) h11 f1.1 (by decide)
      refine f2.tr ?_
      obtain ⟨g28, h⟩ := uu_grd h
      obtain ⟨s29, e30, h⟩ := uu_ob h
      have f3 : Fp lo r26.1 s29 := Fp_agf (zc_X1_init e30) h11 f2.1 (by decide)
      refine f3.tr ?_
      obtain ⟨s31, e32, h⟩ := uu_ob h
      have f4 : Fp lo s29 s31 := fp_store e32 f3.1 ⟨hlo, by have := f2.2.1; have := f3.2.1; omega⟩
      refine f4.tr ?_
      exact ih k2 k4 (x5 + 1) _ _ hk2 h f4.1
theorem fp_79 {lo : Nat} (h11 : 1171 ≤ lo) : ∀ (n : Nat) (x1 : Int32) (k2 k4 : Nat) (x5 : Int32) (s r : uS), uSo k2 10 → fn_X11_storePlan_79 n x1 k2 k4 x5 s = some r → lo ≤ s.n → Fp lo s r := by
  intro n
  induction n with
  | zero => intro x1 k2 k4 x5 s r hk h; cases h
  | succ n ih =>
    intro x1 k2 k4 x5 s r hk2 h hlo
    replace h : fb_X11_storePlan_79 (fn_X11_storePlan_79 n) x1 k2 k4 x5 s = some r := h
    unfold fb_X11_storePlan_79 at h
    by_cases c1 : (s.I 1070 5) ≤ x5
    · replace h := uu_pos c1 h
      exact fp_156 h11 _ _ _ _ _ _ hk2 h hlo
    · replace h := uu_neg c1 h
      obtain ⟨s2, e3, h⟩ := uu_ob h
      have f1 := fp_nent e3 h11 hlo
      have n1 := nent_n e3
      refine f1.tr ?_
      obtain ⟨s4, e5, h⟩ := uu_ob h
      have f2 : Fp lo s2 s4 := Fp_agf (zc_X1_init e5) h11 f1.1 (by decide)
      refine f2.tr ?_
      obtain ⟨g6, h⟩ := uu_grd h
      obtain ⟨v7, e8, h⟩ := uu_ob h
      obtain ⟨g9, h⟩ := uu_grd h
      obtain ⟨v10, e11, h⟩ := uu_ob h
      obtain ⟨g12, h⟩ := uu_grd h
      obtain ⟨s13, e14, h⟩ := uu_ob h
      have hb : f2.2.1 = f2.2.1 := rfl
      have f3 : Fp lo s4 (wI (wI (wI s4 s.n 2 x1) s.n 3 v7) s.n 4 v10) := ((Fp_wI f2.1 (fun z => by omega)).tr (Fp_wI f2.1 (fun z => by omega))).tr (Fp_wI f2.1 (fun z => by omega))
      refine f3.tr ?_
      have f4 : Fp lo (wI (wI (wI s4 s.n 2 x1) s.n 3 v7) s.n 4 v10) s13 := fp_store e14 f2.1 ⟨hlo, by show s.n < s4.n; have := f2.2.1; omega⟩
      refine f4.tr ?_
      exact ih x1 k2 k4 (x5 + 1) _ _ hk2 h f4.1
theorem fp_21 {lo : Nat} (h11 : 1171 ≤ lo) : ∀ (n : Nat) (x1 : Int32) (k2 : Nat) (x4 : Int32) (s r : uS), uSo k2 10 → fn_X11_storePlan_21 n x1 k2 x4 s = some r → lo ≤ s.n → Fp lo s r := by
  intro n
  induction n with
  | zero => intro x1 k2 x4 s r hk h; cases h
  | succ n ih =>
    intro x1 k2 x4 s r hk2 h hlo
    replace h : fb_X11_storePlan_21 (fn_X11_storePlan_21 n) x1 k2 x4 s = some r := h
    unfold fb_X11_storePlan_21 at h
    by_cases c1 : (s.I 1070 6) ≤ x4
    · replace h := uu_pos c1 h
      obtain ⟨r2, e3, h⟩ := uu_ob h
      have f1 : Fp lo s r2.1 := Fp_agf (zc_J7_copyOf_9075b e3) h11 hlo (by decide)
      exact f1.tr (fp_79 h11 _ _ _ _ _ _ _ hk2 h f1.1)
    · replace h := uu_neg c1 h
      obtain ⟨v4, e5, h⟩ := uu_ob h
      obtain ⟨s6, e7, h⟩ := uu_ob h
      have f1 : Fp lo s s6 := by
        have a := zc_X9_addFrom (so_boxes hk2) so_8 e7
        rcases so10 hk2 with rfl | rfl | rfl | rfl
        · exact Fp_agf a h11 hlo (by decide)
        · exact Fp_agf a h11 hlo (by decide)
        · exact Fp_agf a h11 hlo (by decide)
        · exact Fp_agf a h11 hlo (by decide)
      exact f1.tr (ih x1 k2 (x4 + 1) _ _ hk2 h f1.1)
theorem fp_plan {lo : Nat} {x1 : Int32} {s r : uS} (h11 : 1171 ≤ lo) (h : fn_X11_storePlan x1 s = some r) (hlo : lo ≤ s.n) : Fp lo s r := by
  unfold fn_X11_storePlan at h
  obtain ⟨j1, e2, h⟩ := uu_ob h
  obtain ⟨g3, h⟩ := uu_grd h
  exact fp_21 h11 _ _ _ _ _ _ g3 h hlo
theorem fp_line {lo k : Nat} {w : List Nat} {s r : uS} (hk : uSo k 5) (h : fn_X5_line k w s = some r) (h11 : 1171 ≤ lo) (hlo : lo ≤ s.n) : Fp lo s r := by
  have a := zc_X5_line hk h
  rcases so5 hk with rfl | rfl | rfl | rfl | rfl
  · exact Fp_agf a h11 hlo (by decide)
  · exact Fp_agf a h11 hlo (by decide)
  · exact Fp_agf a h11 hlo (by decide)
  · exact Fp_agf a h11 hlo (by decide)
  · exact Fp_agf a h11 hlo (by decide)
theorem fp_122 {lo : Nat} (h11 : 1171 ≤ lo) {K20 : Int32 → Int32 → uS → Option uS} (hK20 : ∀ (x1 x2 : Int32) (s r : uS), K20 x1 x2 s = some r → lo ≤ s.n → Fp lo s r) {x1 x2 x3 : Int32} {s r : uS} (h : fb_X11_deliver_122 K20 x1 x2 x3 s = some r) (hlo : lo ≤ s.n) : Fp lo s r := by
  unfold fb_X11_deliver_122 at h
  obtain ⟨s1, e2, h⟩ := uu_ob h
  have f1 : Fp lo s s1 := Fp_agf (zc_X7_finish e2) h11 hlo (by decide)
  refine f1.tr ?_
  obtain ⟨v3, e4, h⟩ := uu_ob h
  by_cases c5 : v3 = true
  · replace h := uu_pos c5 h
    obtain ⟨r6, e7, h⟩ := uu_ob h
    have f2 : Fp lo s1 r6.1 := Fp_agf (zc_X11_commit e7) h11 f1.1 (by decide)
    refine f2.tr ?_
    by_cases c8 : r6.2 = true
    · replace h := uu_pos c8 h
      obtain ⟨s9, e10, h⟩ := uu_ob h
      have f3 := fp_plan h11 e10 f2.1
      refine f3.tr ?_
      obtain ⟨s11, e12, h⟩ := uu_ob h
      have f4 : Fp lo s9 s11 := Fp_agf (zc_X0_answerDelivered e12) h11 f3.1 (by decide)
      exact f4.tr (hK20 x1 (x2 + 1) _ _ h f4.1)
    · replace h := uu_neg c8 h
      exact hK20 x1 (x2 + 1) _ _ h f2.1
  · replace h := uu_neg c5 h
    obtain ⟨j13, e14, h⟩ := uu_ob h
    obtain ⟨g15, h⟩ := uu_grd h
    obtain ⟨s17, e18, h⟩ := uu_ob h
    have f2 := fp_line g15 e18 h11 f1.1
    exact f2.tr (hK20 x1 (x2 + 1) _ _ h f2.1)
theorem fp_181 {lo : Nat} (h11 : 1171 ≤ lo) {s r : uS} (h : fb_X11_deliver_181 s = some r) (hlo : lo ≤ s.n) : Fp lo s r := by
  unfold fb_X11_deliver_181 at h
  obtain ⟨s1, e2, h⟩ := uu_ob h
  cases h
  exact Fp_agf (zc_X0_forget e2) h11 hlo (by decide)
theorem fp_20 {lo : Nat} (h11 : 1171 ≤ lo) : ∀ (n : Nat) (x1 x2 : Int32) (s r : uS), fn_X11_deliver_20 n x1 x2 s = some r → lo ≤ s.n → Fp lo s r := by
  intro n
  induction n with
  | zero => intro x1 x2 s r h; cases h
  | succ n ih =>
    intro x1 x2 s r h hlo
    replace h : fb_X11_deliver_20 (fn_X11_deliver_20 n) x1 x2 s = some r := h
    unfold fb_X11_deliver_20 at h
    by_cases c1 : x1 ≤ x2
    · replace h := uu_pos c1 h
      exact fp_181 h11 h hlo
    · replace h := uu_neg c1 h
      by_cases c2 : (s.I 0 16) = 0
      · replace h := uu_pos c2 h
        exact fp_181 h11 h hlo
      · replace h := uu_neg c2 h
        obtain ⟨v3, e4, h⟩ := uu_ob h
        by_cases c5 : v3 = true
        · replace h := uu_pos c5 h
          obtain ⟨j6, e7, h⟩ := uu_ob h
          obtain ⟨g8, h⟩ := uu_grd h
          obtain ⟨s10, e11, h⟩ := uu_ob h
          have f1 := fp_line g8 e11 h11 hlo
          exact f1.tr (ih x1 (x2 + 1) _ _ h f1.1)
        · replace h := uu_neg c5 h
          obtain ⟨v12, e13, h⟩ := uu_ob h
          obtain ⟨j14, e15, h⟩ := uu_ob h
          obtain ⟨g16, h⟩ := uu_grd h
          rcases uu_oe h with ⟨eo17, h⟩ | ⟨j17, eo17, h⟩
          · obtain ⟨j18, e19, h⟩ := uu_ob h
            obtain ⟨g20, h⟩ := uu_grd h
            obtain ⟨s21, e22, h⟩ := uu_ob h
            have f1 : Fp lo s s21 := Fp_agf (zc_X7_begin g20 e22) h11 hlo (by decide)
            exact f1.tr (fp_122 h11 ih h f1.1)
          · obtain ⟨j23, e24, h⟩ := uu_ob h
            obtain ⟨g25, h⟩ := uu_grd h
            obtain ⟨s26, e27, h⟩ := uu_ob h
            have f1 : Fp lo s s26 := Fp_agf (zc_X7_begin g25 e27) h11 hlo (by decide)
            refine f1.tr ?_
            obtain ⟨g28, h⟩ := uu_grd h
            obtain ⟨j29, e30, h⟩ := uu_ob h
            obtain ⟨g31, h⟩ := uu_grd h
            obtain ⟨j32, e33, h⟩ := uu_ob h
            obtain ⟨v34, e35, h⟩ := uu_ob h
            obtain ⟨r36, e37, h⟩ := uu_ob h
            have f2 : Fp lo s26 r36.1 := Fp_agf (zc_X4_parse e37) h11 f1.1 (by decide)
            refine f2.tr ?_
            obtain ⟨s38, e39, h⟩ := uu_ob h
            have f3 : Fp lo r36.1 s38 := Fp_agf (zc_X7_run e39) h11 f2.1 (by decide)
            exact f3.tr (fp_122 h11 ih h f3.1)
theorem fp_33 {lo : Nat} (h11 : 1171 ≤ lo) : ∀ (n : Nat) (x1 x2 : Int32) (s : uS) (r : uS × Int32), fn_X11_mail_33 n x1 x2 s = some r → lo ≤ s.n → Fp lo s r.1 := by
  intro n
  induction n with
  | zero => intro x1 x2 s r h; cases h
  | succ n ih =>
    intro x1 x2 s r h hlo
    replace h : fb_X11_mail_33 (fn_X11_mail_33 n) x1 x2 s = some r := h
    unfold fb_X11_mail_33 at h
    by_cases c1 : x1 ≤ x2
    · replace h := uu_pos c1 h
      cases h
      exact Fp_wI hlo (fun z => by omega)
    · replace h := uu_neg c1 h
      by_cases c2 : (6000 : Int32) ≤ x2
      · replace h := uu_pos c2 h
        cases h
        exact Fp_wI hlo (fun z => by omega)
      · replace h := uu_neg c2 h
        by_cases c3 : (s.I 0 16) = 0
        · replace h := uu_pos c3 h
          cases h
          exact Fp_wI hlo (fun z => by omega)
        · replace h := uu_neg c3 h
          obtain ⟨v4, e5, h⟩ := uu_ob h
          obtain ⟨r6, e7, h⟩ := uu_ob h
          have f1 : Fp lo s r6.1 := Fp_agf (zc_X0_take e7) h11 hlo (by decide)
          refine f1.tr ?_
          by_cases c8 : r6.2 = 1
          · replace h := uu_pos c8 h
            obtain ⟨s9, e10, h⟩ := uu_ob h
            have f2 : Fp lo r6.1 s9 := Fp_agf (zc_X0_answerLine e10) h11 f1.1 (by decide)
            exact f2.tr (ih x1 (x2 + 1) _ _ h f2.1)
          · replace h := uu_neg c8 h
            by_cases c11 : r6.2 = 2
            · replace h := uu_pos c11 h
              obtain ⟨s12, e13, h⟩ := uu_ob h
              have f2 : Fp lo r6.1 s12 := by
                unfold fn_X11_deliver at e13
                obtain ⟨s13, e14, e15⟩ := uu_ob e13
                have g1 : Fp lo r6.1 s13 := Fp_agf (zc_X6_readHeader e14) h11 f1.1 (by decide)
                exact g1.tr (fp_20 h11 _ _ _ _ _ e15 g1.1)
              exact f2.tr (ih x1 (x2 + 1) _ _ h f2.1)
            · replace h := uu_neg c11 h
              exact ih x1 (x2 + 1) _ _ h f1.1
