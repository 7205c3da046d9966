/-! the store of the class: what a plan files and sends on -/
theorem nw_I (s : uS) (t N sl k f : Nat) : (nw s t N sl).I k f = if k = s.n then 0 else s.I k f := rfl
theorem nw_R (s : uS) (t N sl k f : Nat) : (nw s t N sl).R k f = if k = s.n then none else s.R k f := rfl
theorem uIs_nw {s : uS} {sl : Nat} (hn : 1171 ≤ s.n) : uIs (nw s 1 0 sl) s.n 1 := by
  refine ⟨Or.inr (Nat.lt_succ_self _), ?_⟩
  unfold uCl
  rw [if_neg (by omega), nw_c]
/-- a new entry -/
def ent (s : uS) (e a b : Nat) : uS := wR (wR (wI s e 2 (-1)) e 0 (some a)) e 1 (some b)
theorem ent_R1 (s : uS) (e a b : Nat) : (ent s e a b).R e 1 = some b := by
  unfold ent
  rw [wR_R, if_pos ⟨rfl, rfl⟩]
theorem ent_R0 (s : uS) (e a b : Nat) : (ent s e a b).R e 0 = some a := by
  unfold ent
  rw [wR_R, if_neg (by omega), wR_R, if_pos ⟨rfl, rfl⟩]
theorem ent_I (s : uS) (e a b f : Nat) : (ent s e a b).I e f = if f = 2 then -1 else s.I e f := by
  show (wI s e 2 (-1)).I e f = _
  rw [wI_I]
  by_cases c : f = 2
  · rw [if_pos ⟨rfl, c⟩, if_pos c]
  · rw [if_neg (fun z => c z.2), if_neg c]
theorem ent_n (s : uS) (e a b : Nat) : (ent s e a b).n = s.n ∧ (ent s e a b).m = s.m ∧ (ent s e a b).c = s.c := ⟨rfl, rfl, rfl⟩
theorem ent_o {s : uS} {e a b : Nat} {s0 : uS} {PI PF PR PP : Nat → Nat → Prop} (o : oc PI PF PR PP s0 s) (he : s0.n ≤ e) : oc PI PF PR PP s0 (ent s e a b) := by
  unfold ent
  exact oc_R (oc_R (oc_I o (Or.inr he)) (Or.inr he)) (Or.inr he)
theorem bMl_hi {u b : Nat} {fl : Int32} {tx : List Nat} (hu : u < 4) : inB (-1) 0 (bMl u b fl tx) = decide ((bMl u b fl tx).1 = -1) := by
  rw [bMl_in hu]
  have : ∀ v : Nat, v < 4 → ¬ nI v = -1 := by decide
  exact (decide_eq_false (this u hu)).symm
theorem oMl_hi {lb tx : List Nat} : inB (-1) 0 (oMl lb tx) = decide ((oMl lb tx).1 = -1) := by
  rw [oMl_in]
  exact (decide_eq_true (rfl : (-1 : Int32) = -1)).symm
theorem low_smP : ∀ k f : Nat, smP k f → k = 5 := fun _ _ z => z
/-- a message filed -/
theorem c_fileM {s : uS} {ms : List aM} {p u b k4 : Nat} {fl : Int32} {tx : List Nat} (h : cMl s ms p) (hn : 1171 ≤ s.n) (hl : ms.length < 400) (hu : u < 4) (hk : cBn s k4 tx) : ∃ s1 : uS, fn_X11_storeMail (some s.n) (wI (wI (wI (ent (nw s 1 0 6) s.n 0 k4) s.n 2 (nI u)) s.n 3 (nI b)) s.n 4 fl) = some s1 ∧ cMl s1 (ms ++ [bMl u b fl tx]) (p + tx.length) ∧ oc smI rNo rNo smP s s1 ∧ s1.n = s.n + 1 ∧ s1.m = s.m + 6 := by
  obtain ⟨s2, hs2⟩ : ∃ s2, s2 = wI (wI (wI (ent (nw s 1 0 6) s.n 0 k4) s.n 2 (nI u)) s.n 3 (nI b)) s.n 4 fl := ⟨_, rfl⟩
  have o2 : oc smI rNo rNo smP s s2 := by
    rw [hs2]
    exact oc_I (oc_I (oc_I (ent_o (oc_nw oc_r) (Nat.le_refl _)) (Or.inr (Nat.le_refl _))) (Or.inr (Nat.le_refl _))) (Or.inr (Nat.le_refl _))
  have o2' : oc rNo rNo rNo rNo s s2 := by
    rw [hs2]
    exact oc_I (oc_I (oc_I (ent_o (oc_nw oc_r) (Nat.le_refl _)) (Or.inr (Nat.le_refl _))) (Or.inr (Nat.le_refl _))) (Or.inr (Nat.le_refl _))
  have n2 : s2.n = s.n + 1 ∧ s2.m = s.m + 6 := by rw [hs2]; exact ⟨rfl, rfl⟩
  have c2 : s2.c s.n = (1, 0) := by rw [hs2]; exact nw_c s 1 0 6
  have i2 : s2.I s.n 2 = nI u := by rw [hs2, wI_o (by omega), wI_o (by omega), wI_e]
  have i3 : s2.I s.n 3 = nI b := by rw [hs2, wI_o (by omega), wI_e]
  have i4 : s2.I s.n 4 = fl := by rw [hs2, wI_e]
  have r1 : s2.R s.n 1 = some k4 := by rw [hs2]; exact ent_R1 _ _ _ _
  rw [← hs2]
  have hne : ¬ (bMl u b fl tx).1 = -1 := by
    have : ∀ v : Nat, v < 4 → ¬ nI v = -1 := by decide
    exact this u hu
  have he : cEn s2 s.n (bMl u b fl tx) := ⟨by omega, hn, by rw [c2], i2, i3, i4, ⟨k4, tx, r1, hk.oc o2 (fun _ z => z), rfl⟩, fun z => absurd z hne⟩
  have hM : cMl s2 ms p := h.oc o2' hn low_no low_no low_no (fun z => z) (fun z => z) (fun z => z) (fun _ z => z)
  obtain ⟨s3, a1, a2, a3, a4, a5⟩ := c_storeM hM (by omega) hl he (bMl_hi hu)
  have hlen : (bMl u b fl tx).2.2.2.2.length = tx.length := List.length_map ..
  rw [hlen] at a2
  exact ⟨s3, a1, a2, oc_t o2 a3, by omega, by omega⟩
/-- what goes out: a label, a text -/
theorem c_outM {s : uS} {ms : List aM} {p e lb k4 : Nat} {x tx : List Nat} (h : cMl s ms p) (hn : 1171 ≤ e) (hen : e < s.n) (hc : s.c e = (1, 0)) (h3 : s.I e 3 = 0) (h4 : s.I e 4 = 0) (hl : ms.length < 400) (hx : cBn s lb x) (hk : cBn s k4 tx) (hfresh : ∀ i : Nat, i < ms.length → s.P 5 i ≠ some e) : ∃ s1 : uS, fn_X11_storeMail (some e) (ent s e lb k4) = some s1 ∧ cMl s1 (ms ++ [oMl x tx]) (p + tx.length) ∧ oc (fun k f => smI k f ∨ k = e) rNo (fun k _ => k = e) smP s s1 ∧ s1.n = s.n ∧ s1.m = s.m := by
  have o2 : oc (fun k f => smI k f ∨ k = e) rNo (fun k _ => k = e) smP s (ent s e lb k4) := by
    unfold ent
    exact oc_R (oc_R (oc_I oc_r (Or.inl (Or.inr rfl))) (Or.inl rfl)) (Or.inl rfl)
  obtain ⟨en1, en2, en3⟩ := ent_n s e lb k4
  have e2 := ent_I s e lb k4 2
  have e3 := ent_I s e lb k4 3
  have e4 := ent_I s e lb k4 4
  rw [if_pos rfl] at e2
  rw [if_neg (by decide), h3] at e3
  rw [if_neg (by decide), h4] at e4
  have r1 := ent_R1 s e lb k4
  have r0 := ent_R0 s e lb k4
  obtain ⟨s2, hs2⟩ : ∃ s2, s2 = ent s e lb k4 := ⟨_, rfl⟩
  rw [← hs2] at o2 e2 e3 e4 r1 r0 en1 en2 en3 ⊢
  have he : cEn s2 e (oMl x tx) := ⟨by omega, hn, by rw [en3, hc], e2, e3, e4, ⟨k4, tx, r1, hk.oc o2 (fun _ z => z), rfl⟩, fun _ => ⟨lb, x, r0, hx.oc o2 (fun _ z => z), rfl⟩⟩
  have hM : cMl s2 ms p := by
    obtain ⟨h1, h2, h3, h4, h5⟩ := h
    have I0 : ∀ f : Nat, s2.I 0 f = s.I 0 f := by
      intro f
      rw [hs2]
      show (wI s e 2 (-1)).I 0 f = _
      rw [wI_o (by omega)]
    refine ⟨h1, (I0 _).trans h2, (I0 _).trans h3, (I0 _).trans h4, fun i hi => ?_⟩
    obtain ⟨e', f1, f2⟩ := h5 i hi
    have hne : e' ≠ e := fun z => hfresh i hi (by rw [← z]; exact f1)
    refine ⟨e', by rw [hs2]; exact f1, ?_⟩
    obtain ⟨g1, g2, g3, g4, g5, g6, ⟨a, y, g7, g8, g9⟩, g10⟩ := f2
    have I : ∀ f : Nat, s2.I e' f = s.I e' f := by
      intro f
      rw [hs2]
      show (wI s e 2 (-1)).I e' f = _
      rw [wI_o (by omega)]
    have R : ∀ f : Nat, s2.R e' f = s.R e' f := by
      intro f
      rw [hs2]
      unfold ent
      rw [wR_R, if_neg (fun z => hne z.1), wR_R, if_neg (fun z => hne z.1)]
      rfl
    refine ⟨by omega, g2, by rw [en3]; exact g3, (I _).trans g4, (I _).trans g5, (I _).trans g6, ⟨a, y, (R _).trans g7, g8.oc o2 (fun _ z => z), g9⟩, fun z => ?_⟩
    obtain ⟨l2, y2, y3, y4, y5⟩ := g10 z
    exact ⟨l2, y2, (R _).trans y3, y4.oc o2 (fun _ z => z), y5⟩
  obtain ⟨s3, a1, a2, a3, a4, a5⟩ := c_storeM hM (by omega) hl he oMl_hi
  have hlen : (oMl x tx).2.2.2.2.length = tx.length := List.length_map ..
  rw [hlen] at a2
  exact ⟨s3, a1, a2, oc_t o2 (oc_w a3 (fun _ _ z => Or.inl z) (fun _ _ z => z) (fun _ _ z => z.elim) (fun _ _ z => z)), by omega, by omega⟩
/-- no message is a cell that is not made yet -/
theorem cMl.fresh {s : uS} {ms : List aM} {p : Nat} (h : cMl s ms p) {e : Nat} (he : s.n ≤ e) : ∀ i : Nat, i < ms.length → s.P 5 i ≠ some e := by
  intro i hi z
  obtain ⟨e', f1, f2⟩ := h.2.2.2.2 i hi
  rw [f1] at z
  cases z
  have := f2.1
  omega
theorem cFi.oc {PI PF PR PP : Nat → Nat → Prop} {s s1 : uS} {CF : List (Nat × Nat)} (h : cFi s CF) (o : oc PI PF PR PP s s1) (hn : 1171 ≤ s.n) (hI : ¬ PI 1070 5) (hF : ∀ k f : Nat, 1071 ≤ k → k ≤ 1074 → ¬ PF k f) : cFi s1 CF := ⟨(o.2.2.2.1 _ _ (by omega) hI).trans h.1, h.2.1, fun k hk => ⟨(o.2.2.2.2.1 _ _ (by omega) (hF _ _ (by omega) (by omega))).trans (h.2.2 k hk).1, (h.2.2 k hk).2.1, (o.2.2.2.2.1 _ _ (by omega) (hF _ _ (by omega) (by omega))).trans (h.2.2 k hk).2.2⟩⟩
theorem cDi.oc {PI PF PR PP : Nat → Nat → Prop} {s s1 : uS} {D : List Nat} (h : cDi s D) (o : oc PI PF PR PP s s1) (hn : 1171 ≤ s.n) (hI : ¬ PI 1070 7) (hF : ∀ k f : Nat, 1071 ≤ k → k ≤ 1074 → ¬ PF k f) : cDi s1 D := ⟨(o.2.2.2.1 _ _ (by omega) hI).trans h.1, h.2.1, fun k hk => (o.2.2.2.2.1 _ _ (by omega) (hF _ _ (by omega) (by omega))).trans (h.2.2 k hk)⟩
theorem c_79 {u k2 k4 : Nat} {CF : List (Nat × Nat)} {tx : List Nat} (hu : u < 4) : ∀ (d N k p : Nat) (s : uS) (ms : List aM), k + d = CF.length → d + 1 ≤ N → 1171 ≤ s.n → s.n + d ≤ 600000 → s.m + 6 * d ≤ 7302250 → cFi s CF → cBn s k4 tx → cMl s ms p → ms.length + d ≤ 400 → ∃ s1 : uS, fn_X11_storePlan_79 N (nI u) k2 k4 (nI k) s = fn_X11_storePlan_156 uFu k2 k4 0 s1 ∧ cMl s1 (ms ++ flM u tx (CF.drop k)) (p + d * tx.length) ∧ oc smI rNo rNo smP s s1 ∧ s1.n = s.n + d ∧ s1.m = s.m + 6 * d := by
  intro d
  induction d with
  | zero =>
    intro N k p s ms h1 h2 hn hn2 hm2 hF hk hM hl
    obtain ⟨M, rfl⟩ : ∃ M, N = M + 1 := ⟨N - 1, by omega⟩
    have hF6 := hF.2.1
    refine ⟨s, ?_, ?_, oc_r, rfl, rfl⟩
    · show fb_X11_storePlan_79 (fn_X11_storePlan_79 M) (nI u) k2 k4 (nI k) s = _
      unfold fb_X11_storePlan_79
      rw [hF.1, if_pos (nI_le (by omega) (by omega))]
    · rw [List.drop_eq_nil_of_le (by omega), show flM u tx [] = [] from rfl, List.append_nil, Nat.zero_mul, Nat.add_zero]
      exact hM
  | succ d ih =>
    intro N k p s ms h1 h2 hn hn2 hm2 hF hk hM hl
    obtain ⟨M, rfl⟩ : ∃ M, N = M + 1 := ⟨N - 1, by omega⟩
    have hF6 := hF.2.1
    have hkl : k < CF.length := by omega
    obtain ⟨f1, f2, f3⟩ := hF.2.2 k hkl
    obtain ⟨s1, a1, a2, a3, a4, a5⟩ := c_fileM (b := (CF.getD k (0, 0)).1) (fl := nI (CF.getD k (0, 0)).2) hM hn (by omega) hu hk
    obtain ⟨s2, b1, b2, b3, b4, b5⟩ := ih M (k + 1) (p + tx.length) s1 (ms ++ [bMl u (CF.getD k (0, 0)).1 (nI (CF.getD k (0, 0)).2) tx]) (by omega) (by omega) (by omega) (by omega) (by omega) (hF.oc a3 hn (by unfold smI; omega) (fun _ _ _ _ z => z)) (hk.oc a3 (fun _ z => z)) a2 (by rw [List.length_append]; show ms.length + 1 + d ≤ 400; omega)
    refine ⟨s2, ?_, ?_, oc_t a3 b3, by omega, by omega⟩
    · show fb_X11_storePlan_79 (fn_X11_storePlan_79 M) (nI u) k2 k4 (nI k) s = _
      unfold fb_X11_storePlan_79
      have hi0 : uIs (nw s 1 0 6) s.n 1 := uIs_nw hn
      have hi1 : uIs (ent (nw s 1 0 6) s.n 0 k4) s.n 1 := hi0
      have hi2 : uIs (wI (ent (nw s 1 0 6) s.n 0 k4) s.n 2 (nI u)) s.n 1 := hi0
      have hi3 : uIs (wI (wI (ent (nw s 1 0 6) s.n 0 k4) s.n 2 (nI u)) s.n 3 (nI (CF.getD k (0, 0)).1)) s.n 1 := hi0
      have g1 : (wI (ent (nw s 1 0 6) s.n 0 k4) s.n 2 (nI u)).F 1071 k = nI (CF.getD k (0, 0)).1 := by
        show (nw s 1 0 6).F 1071 k = _
        exact (if_neg (show ¬ 1071 = s.n by omega)).trans f1
      have g2 : (wI (wI (ent (nw s 1 0 6) s.n 0 k4) s.n 2 (nI u)) s.n 3 (nI (CF.getD k (0, 0)).1)).F 1072 k = nI (CF.getD k (0, 0)).2 := by
        show (nw s 1 0 6).F 1072 k = _
        exact (if_neg (show ¬ 1072 = s.n by omega)).trans f3
      rw [hF.1, if_neg (nI_ge hkl (by omega)), nent_c (by omega) (by omega), Option.bind_some, X1_c hi0, Option.bind_some]
      show (if uIs (ent (nw s 1 0 6) s.n 0 k4) s.n 1 then ((iget 20 (wI (ent (nw s 1 0 6) s.n 0 k4) s.n 2 (nI u)) 1071 (nI k)).bind fun v7 => if uIs (wI (ent (nw s 1 0 6) s.n 0 k4) s.n 2 (nI u)) s.n 1 then ((iget 20 (wI (wI (ent (nw s 1 0 6) s.n 0 k4) s.n 2 (nI u)) s.n 3 v7) 1072 (nI k)).bind fun v10 => if uIs (wI (wI (ent (nw s 1 0 6) s.n 0 k4) s.n 2 (nI u)) s.n 3 v7) s.n 1 then ((fn_X11_storeMail (some s.n) (wI (wI (wI (ent (nw s 1 0 6) s.n 0 k4) s.n 2 (nI u)) s.n 3 v7) s.n 4 v10)).bind fun s13 => fn_X11_storePlan_79 M (nI u) k2 k4 (nI k + 1) s13) else none) else none) else none) = _
      rw [if_pos hi1, g_1071 (by omega), Option.bind_some, g1, if_pos hi2, g_1072 (by omega), Option.bind_some, g2, if_pos hi3, a1, Option.bind_some, nI_1]
      exact b1
    · have e : CF.drop k = CF.getD k (0, 0) :: CF.drop (k + 1) := by
        rw [List.getD_eq_getElem?_getD, List.getElem?_eq_getElem hkl, List.drop_eq_getElem_cons hkl]
        rfl
      rw [e]
      have e2 : p + (d + 1) * tx.length = p + tx.length + d * tx.length := by rw [Nat.succ_mul]; omega
      rw [e2]
      rw [List.append_assoc] at b2
      exact b2
