/-! the store of the class: a whole plan -/
theorem adr_le {w : List Nat} (h : (adr w).isSome = true) : w.length ≤ 101 := by
  unfold adr at h
  split at h
  · cases h
  · rename_i at_ hp
    split at h
    · rename_i hd
      obtain ⟨a, b⟩ := hd
      unfold dot at a b
      rw [Bool.and_eq_true, Bool.and_eq_true, decide_eq_true_eq, decide_eq_true_eq] at a b
      omega
    · cases h
def hnC (s : uS) (i h : Nat) : Prop := ∃ rs : Nat, ((fn_X3_has (16 + 3 * i) 256 s = some true ∧ s.F (17 + 3 * i) 7 = nI h) ∨ (fn_X3_has (16 + 3 * i) 256 s = some false ∧ h = rs)) ∧ s.F (17 + 3 * i) 5 = nI rs
theorem hnC.fr {s s1 : uS} {i h : Nat} (hh : hnC s i h) (nd : ndS i s s1) : hnC s1 i h := by
  obtain ⟨rs, a, b⟩ := hh
  have e : fn_X3_has (16 + 3 * i) 256 s1 = fn_X3_has (16 + 3 * i) 256 s := by
    unfold fn_X3_has
    rw [nd.1]
  exact ⟨rs, by rw [e, nd.2.1]; exact a, by rw [nd.2.1]; exact b⟩
/-- the strings that the class needs for a plan -/
def stPl (s : uS) (ts : List (List Nat)) (p : pl) (iv h : Nat) (hd : List Nat) : Prop := ((∀ q ∈ pF p, q.1 = none) ∧ pDr p = [] ∧ pvc p = 0) ∨ ∃ (ts1 : List (List Nat)) (bg : Nat), cTz s 8 2000 301 ts1 bg [] ∧ (∀ q ∈ pF p, ∀ j : Nat, q.1 = some j → j < ts1.length ∧ bxn (ts.getD j []) = true ∧ ts1.getD j [] = ts.getD j []) ∧ (∀ j ∈ pDr p, j < ts1.length ∧ (ts.getD j []).length ≤ 101 ∧ ts1.getD j [] = ts.getD j []) ∧ (0 < pvc p → h < ts1.length ∧ ts1.getD h [] = hd ∧ hd.length ≤ 1000 ∧ hnC s iv h)
def plI (u k f : Nat) : Prop := smI k f ∨ k = 988 + 16 * u ∨ naI u k f
def plF (u k f : Nat) : Prop := tF (988 + 16 * u) k f
def plP (u k f : Nat) : Prop := smP k f ∨ naP u k f
theorem pl_1 {s s1 : uS} {u : Nat} (h : oc smI rNo rNo smP s s1) : oc (plI u) (plF u) rNo (plP u) s s1 := oc_w h (fun _ _ z => Or.inl z) (fun _ _ z => z.elim) (fun _ _ z => z) (fun _ _ z => Or.inl z)
theorem pl_2 {s s1 : uS} {u : Nat} (h : out (tI (988 + 16 * u)) (tF (988 + 16 * u)) s s1) : oc (plI u) (plF u) rNo (plP u) s s1 := oc_out (out_w h (fun _ _ z => Or.inr (Or.inl z)) (fun _ _ z => z))
theorem pl_3 {s s1 : uS} {u : Nat} (h : oc (naI u) rNo rNo (naP u) s s1) : oc (plI u) (plF u) rNo (plP u) s s1 := oc_w h (fun _ _ z => Or.inr (Or.inr z)) (fun _ _ z => z.elim) (fun _ _ z => z) (fun _ _ z => Or.inr z)
theorem pl_0 {s s1 : uS} {u : Nat} (h : oc rNo rNo rNo rNo s s1) : oc (plI u) (plF u) rNo (plP u) s s1 := oc_w h (fun _ _ z => z.elim) (fun _ _ z => z.elim) (fun _ _ z => z) (fun _ _ z => z.elim)
theorem plI_n {u k f : Nat} (hu : u < 4) (h : plI u k f) : k = 0 ∨ (985 ≤ k ∧ k ≤ 1036) := by
  unfold plI smI naI at h
  omega
theorem plF_n {u k f : Nat} (hu : u < 4) (h : plF u k f) : 988 ≤ k ∧ k ≤ 1039 := by
  unfold plF tF at h
  omega
theorem nbs_none' {bx ts : List (List Nat)} {F : List (Option Nat × Nat)} (h : ∀ q ∈ F, q.1 = none) : nbsF bx ts F = [] := by
  unfold nbsF
  induction F with
  | nil => rfl
  | cons q F ih =>
    rw [List.filterMap_cons]
    have e : nbf bx ts q = none := by
      unfold nbf
      rw [h q (List.mem_cons_self ..)]
      rfl
    rw [e]
    exact ih (fun x hx => h x (List.mem_cons_of_mem _ hx))
/-- the letter among the messages -/
def lM (snd : List Nat) : Option (List Nat) → List aM
  | none => []
  | some x => [oMl snd x]
def lS : Option (List Nat) → Nat
  | none => 0
  | some x => x.length
theorem c_plan {s : uS} {u ir iv h p0 today bgx : Nat} {bx ts : List (List Nat)} {p : pl} {an : Option (List Nat)} {snd tx hd : List Nat} {ms : List aM} {ns : List nT} (hu : u < 4) (hn : 1171 ≤ s.n) (hn2 : s.n + 20 ≤ 600000) (hm2 : s.m + 11000 ≤ 7302250) (hC : cFR s u bx ts p ir iv) (hbx : bxO bx) (h6 : bx.length + (nbsF bx ts (pF p)).length ≤ 6) (hStr : stPl s ts p iv h hd) (h8 : s.I 1070 8 = bI an.isSome) (hAn : ∀ x : List Nat, an = some x → cTz s 1075 6000 1 [] 0 x ∧ x.length ≤ 5200) (hT : cTxt s tx) (h3 : s.I 1042 3 = nI tx.length) (hs : cTz s 1043 101 1 [snd] snd.length []) (hB : cTz s (988 + 16 * u) 120 6 bx bgx []) (hbg : bgx ≤ 20 * bx.length) (hM : cMl s ms p0) (hN : cNt s u ns) (hday : s.I 0 13 = nI today) (hl : ms.length + (pF p).length + (pDr p).length + (lM snd an).length ≤ 400) : ∃ (s1 : uS) (bg1 : Nat), fn_X11_storePlan (nI u) s = some s1 ∧ cMl s1 (ms ++ flM u tx (cfF bx ts (pF p)) ++ sdM ts tx (pDr p) ++ lM snd an) (p0 + (pF p).length * tx.length + (pDr p).length * tx.length + lS an) ∧ cTz s1 (988 + 16 * u) 120 6 (abxF bx ts (pF p)) bg1 [] ∧ bg1 ≤ 20 * (abxF bx ts (pF p)).length ∧ cNt s1 u (if an.isSome = true ∧ 0 < pvc p then ntA ns (today, snd, hd) else ns) ∧ oc (plI u) (plF u) rNo (plP u) s s1 ∧ s1.n ≤ s.n + 20 ∧ s1.m ≤ s.m + 11000 := by
  have hC' := hC
  obtain ⟨c1, c2, c3, c4, c5, c6, c7, c8⟩ := hC
  have hF6 : (pF p).length ≤ 6 := by rw [← cf_len (bx := bx) (ts := ts)]; exact c1.2.1
  have hD4 := c3.2.1
  have hTl := hT.1
  have hsl : snd.length ≤ 101 := hs.2.2.2.2.1
  -- the strings, whichever they are
  obtain ⟨ts1, bg, q1, q2, q3, q4⟩ : ∃ (ts1 : List (List Nat)) (bg : Nat), ((pDr p = [] ∧ nbsF bx ts (pF p) = [] ∧ pvc p = 0) ∨ cTz s 8 2000 301 ts1 bg []) ∧ (∀ j ∈ nbsF bx ts (pF p), j < ts1.length ∧ (ts1.getD j []).length ≤ 20 ∧ ts1.getD j [] = ts.getD j []) ∧ (∀ j ∈ pDr p, j < ts1.length ∧ (ts1.getD j []).length ≤ 101 ∧ ts1.getD j [] = ts.getD j []) ∧ (0 < pvc p → h < ts1.length ∧ ts1.getD h [] = hd ∧ hd.length ≤ 1000 ∧ hnC s iv h) := by
    rcases hStr with ⟨a, b, c⟩ | ⟨ts1, bg, a, b, c, d⟩
    · refine ⟨[], 0, Or.inl ⟨b, nbs_none' a, c⟩, fun j hj => ?_, fun j hj => ?_, fun z => by omega⟩
      · rw [nbs_none' a] at hj; cases hj
      · rw [b] at hj; cases hj
    · refine ⟨ts1, bg, Or.inr a, fun j hj => ?_, fun j hj => ?_, d⟩
      · unfold nbsF at hj
        rw [List.mem_filterMap] at hj
        obtain ⟨q, q1, q2⟩ := hj
        have e : q.1 = some j := by
          unfold nbf at q2
          split at q2
          · cases q2
          · exact q2
        obtain ⟨x1, x2, x3⟩ := b q q1 j e
        exact ⟨x1, by rw [x3]; exact (bxn_len x2).2, x3⟩
      · obtain ⟨x1, x2, x3⟩ := c j hj
        exact ⟨x1, by rw [x3]; exact x2, x3⟩
  have enm : nmL ts1 (nbsF bx ts (pF p)) = nmL ts (nbsF bx ts (pF p)) := by
    unfold nmL
    exact List.map_congr_left (fun j hj => (q2 j hj).2.2)
  have esd : sdM ts1 tx (pDr p) = sdM ts tx (pDr p) := by
    unfold sdM
    exact List.map_congr_left (fun j hj => by rw [(q3 j hj).2.2])
  -- mailboxes
  obtain ⟨s1, bg1, a1, a2, a3, a4⟩ := c_21 (x1 := nI u) (bg := bg) hu (fun j hj => ⟨(q2 j hj).1, (q2 j hj).2.1⟩) h6 (nbsF bx ts (pF p)).length uFu 0 bgx s (by omega) (by show _ ≤ 1000000; omega) c2 (q1.imp (fun z => z.2.1) id) (by rw [List.take_zero, show nmL ts1 [] = [] from rfl, List.append_nil]; exact hB) (by omega)
  rw [enm] at a2
  have o1 := pl_2 a4
  have n1 : s1.n = s.n ∧ s1.m = s.m := ⟨a4.1.2.2.2.2.1, a4.1.2.2.2.2.2⟩
  have i3 : s1.I 1042 3 = nI tx.length := (a4.2.1 _ _ (by unfold tI; omega)).trans h3
  -- the text
  obtain ⟨s2, b1, b2, b3, b4, b5⟩ := c_cpy9 (s := s1) (k := 1051) (cap := 4000) (x := tx) (by decide) (by decide) (by decide) (fun j hj => (a4.2.2 _ _ (by unfold tF; omega)).trans (hT.2.2 j hj)) hT.2.1 hTl (by omega) (by omega) (by omega)
  have o2 : oc (plI u) (plF u) rNo (plP u) s1 s2 := b5 _ _ _ _
  have o12 := oc_t o1 o2
  have hn_2 : 1171 ≤ s2.n := Nat.le_trans hn o12.1
  have lI : ∀ k f : Nat, 1040 ≤ k → ¬ plI u k f := fun k f a z => by have := plI_n hu z; omega
  have lF : ∀ k f : Nat, 1040 ≤ k ∨ k < 988 → ¬ plF u k f := fun k f a z => by have := plF_n hu z; omega
  have lI2 : ∀ k f : Nat, 0 < k → k < 985 → ¬ plI u k f := fun k f a b z => by have := plI_n hu z; omega
  have hM1 : cMl s1 ms p0 := hM.oc (oc_out (PR := rNo) (PP := rNo) a4) hn (fun k f a z => by unfold tI at z; omega) (fun k f a z => by unfold tF at z; omega) low_no (by unfold tI; omega) (by unfold tI; omega) (by unfold tI; omega) (fun _ z => z)
  have hM2 : cMl s2 ms p0 := hM1.oc (b5 rNo rNo rNo rNo) (by omega) low_no low_no low_no (fun z => z) (fun z => z) (fun z => z) (fun _ z => z)
  -- what is filed
  have clen : (cfF bx ts (pF p)).length = (pF p).length := cf_len
  obtain ⟨s3, d1, d2, d3, d4, d5⟩ := c_79 (k2 := 985 + 16 * u) (k4 := s1.n) (CF := cfF bx ts (pF p)) hu (pF p).length uFu 0 p0 s2 ms (by omega) (by show _ ≤ 1000000; omega) hn_2 (by omega) (by omega) (c1.oc o12 hn (lI _ _ (by omega)) (fun k f a b => lF _ _ (by omega))) b4 hM2 (by omega)
  rw [List.drop_zero] at d2
  have o3 := oc_t o12 (pl_1 (u := u) d3)
  have hn_3 : 1171 ≤ s3.n := Nat.le_trans hn o3.1
  have c3_3 : cDi s3 (pDr p) := c3.oc o3 hn (lI _ _ (by omega)) (fun k f a b => lF _ _ (by omega))
  -- what goes on
  obtain ⟨s4, M, e1, e2, e3, e4, e5⟩ : ∃ (s4 : uS) (M : Nat), fn_X11_storePlan_156 uFu (985 + 16 * u) s1.n 0 s3 = fn_X11_storePlan_156 (M + 1) (985 + 16 * u) s1.n (nI (pDr p).length) s4 ∧ cMl s4 (ms ++ flM u tx (cfF bx ts (pF p)) ++ sdM ts tx (pDr p)) (p0 + (pF p).length * tx.length + (pDr p).length * tx.length) ∧ oc smI rNo rNo smP s3 s4 ∧ s4.n = s3.n + 2 * (pDr p).length ∧ s4.m ≤ s3.m + 107 * (pDr p).length := by
    by_cases z : pDr p = []
    · rw [z]
      refine ⟨s3, 999999, rfl, ?_, oc_r, rfl, Nat.le_refl _⟩
      rw [show sdM ts tx [] = [] from rfl, List.append_nil, List.length_nil, Nat.zero_mul, Nat.add_zero]
      exact d2
    · have hS3 : cTz s3 8 2000 301 ts1 bg [] := (q1.resolve_left (fun y => z y.1)).oc o3 (by omega) (fun f => lI2 _ _ (by omega) (by omega)) (fun k f a b => lF _ _ (by omega))
      have hl3 : (ms ++ flM u tx (cfF bx ts (pF p))).length + (pDr p).length ≤ 400 := by
        rw [List.length_append]
        unfold flM
        rw [List.length_map, clen]
        omega
      obtain ⟨s4, w1, w2, w3, w4, w5⟩ := c_156 (u := u) (k2 := 985 + 16 * u) (k4 := s1.n) (bg := bg) (ts1 := ts1) (tx := tx) (pDr p).length uFu 0 (p0 + (pF p).length * tx.length) s3 (ms ++ flM u tx (cfF bx ts (pF p))) (by omega) (by show _ ≤ 1000000; omega) hn_3 (by omega) (by omega) c3_3 hS3 (fun j hj => ⟨(q3 j hj).1, (q3 j hj).2.1⟩) (b4.oc d3 (fun _ y => y)) d2 hl3
      rw [List.drop_zero, esd] at w2
      have hM0 : uFu - (pDr p).length = (999999 - (pDr p).length) + 1 := by show 1000000 - _ = _; omega
      rw [hM0] at w1
      exact ⟨s4, 999999 - (pDr p).length, w1, w2, w3, w4, w5⟩
  have o4 := oc_t o3 (pl_1 (u := u) e3)
  have hn_4 : 1171 ≤ s4.n := Nat.le_trans hn o4.1
  have hrun : fn_X11_storePlan (nI u) s = fn_X11_storePlan_156 (M + 1) (985 + 16 * u) s1.n (nI (pDr p).length) s4 := by
    unfold fn_X11_storePlan
    rw [pgt_usr hu, Option.bind_some, if_pos (so_usr hu), show fn_X11_storePlan_21 uFu (nI u) (985 + 16 * u) 0 s = _ from a1, i3, b1, Option.bind_some]
    dsimp only
    rw [show fn_X11_storePlan_79 uFu (nI u) (985 + 16 * u) s1.n 0 s2 = _ from d1]
    exact e1
  have hR9 : ∀ s' : uS, oc (plI u) (plF u) rNo (plP u) s s' → s'.R 1070 9 = (if pvc p = 0 then none else some (16 + 3 * iv)) := fun s' o => (o.2.2.2.2.2.1 _ _ (by omega) (fun z => z)).trans c5
  have hi8 : s4.I 1070 8 = bI an.isSome := (o4.2.2.2.1 _ _ (by omega) (lI _ _ (by omega))).trans h8
  have hB_ : ∀ s' : uS, oc smI rNo rNo smP s1 s' → cTz s' (988 + 16 * u) 120 6 (abxF bx ts (pF p)) bg1 [] := fun s' o => a2.oc o (by omega) (fun f z => by unfold smI at z; omega) (fun _ _ _ _ z => z)
  have hlA : (abxF bx ts (pF p)).length = bx.length + (nbsF bx ts (pF p)).length := by
    unfold abxF nmL
    rw [List.length_append, List.length_map]
  have o_1_4 : oc smI rNo rNo smP s1 s4 := oc_t (oc_t (b5 _ _ _ _) d3) e3
  have hN1 : cNt s1 u ns := hN.oc (oc_out (PR := rNo) (PP := rNo) a4) hu hn (fun k f a z => by unfold tI at z; omega) (fun k f a z => by unfold tF at z; omega) low_no (by unfold tI; omega) (fun _ z => z)
  have hNs : ∀ s' : uS, oc smI rNo rNo smP s1 s' → cNt s' u ns := fun s' o => hN1.oc o hu (by omega) low_smI low_no low_no (by unfold smI; omega) (fun f z => by unfold smP at z; omega)
  cases an with
  | none =>
    refine ⟨s4, bg1, ?_, ?_, hB_ s4 o_1_4, by omega, ?_, o4, by omega, by omega⟩
    · rw [hrun]
      show fb_X11_storePlan_156 (fn_X11_storePlan_156 M) (985 + 16 * u) s1.n (nI (pDr p).length) s4 = _
      unfold fb_X11_storePlan_156
      have hD' : s4.I 1070 7 = nI (pDr p).length := (o4.2.2.2.1 _ _ (by omega) (lI _ _ (by omega))).trans c3.1
      rw [hD', if_pos (nI_le (Nat.le_refl _) (by omega)), hi8, if_pos (by decide)]
    · rw [show lM snd none = [] from rfl, List.append_nil, show lS none = 0 from rfl, Nat.add_zero]
      exact e2
    · rw [if_neg (fun z => by cases z.1)]
      exact hNs s4 o_1_4
  | some x =>
    obtain ⟨hx1, hx2⟩ := hAn x rfl
    have hl4 : (ms ++ flM u tx (cfF bx ts (pF p)) ++ sdM ts tx (pDr p)).length < 400 := by
      have : (lM snd (some x)).length = 1 := rfl
      rw [List.length_append, List.length_append]
      unfold flM sdM
      rw [List.length_map, List.length_map, clen]
      omega
    obtain ⟨s5, f1, f2, f3, f4, f5, f6⟩ := c_let (M := M) (k2 := 985 + 16 * u) (k4 := s1.n) (D := pDr p) hn_4 (by omega) (by omega) (c3.oc o4 hn (lI _ _ (by omega)) (fun k f a b => lF _ _ (by omega))) (by rw [hi8]; rfl) (hs.oc o4 (by omega) (fun f => lI _ _ (by omega)) (fun k f a b => lF _ _ (by omega))) (hx1.oc o4 (by omega) (fun f => lI _ _ (by omega)) (fun k f a b => lF _ _ (by omega))) e2 hl4
    have o5 := oc_t o4 (pl_1 (u := u) f4)
    have o_1_5 := oc_t o_1_4 f4
    have hn_5 : 1171 ≤ s5.n := Nat.le_trans hn o5.1
    have hR := hR9 s5 o5
    rw [hrun, f1]
    by_cases hv : pvc p = 0
    · rw [hR, if_pos hv]
      refine ⟨s5, bg1, rfl, f2, hB_ s5 o_1_5, by omega, ?_, o5, by omega, by omega⟩
      rw [if_neg (fun z => by omega)]
      exact hNs s5 o_1_5
    · obtain ⟨g1, g2, g3, g4⟩ := q4 (by omega)
      have hS5 : cTz s5 8 2000 301 ts1 bg [] := (q1.resolve_left (fun y => hv y.2.2)).oc o5 (by omega) (fun f => lI2 _ _ (by omega) (by omega)) (fun k f a b => lF _ _ (by omega))
      obtain ⟨rs, y1, y2⟩ := g4.fr (s1 := s5) ⟨fun f => o5.2.2.2.1 _ _ (by omega) (lI2 _ _ (by omega) (by omega)), fun f => o5.2.2.2.2.1 _ _ (by omega) (lF _ _ (by omega)), fun f => o5.2.2.2.2.1 _ _ (by omega) (lF _ _ (by omega))⟩
      have hh := c_hdl c8 y1 y2
      have hm5 : s5.m + (ts1.getD h []).length ≤ 7302250 := by rw [g2]; omega
      obtain ⟨s6, k1, k2, k3, k4, k5⟩ := c_copyOf (i := h) uTx_str hS5 g1 hn_5 (by omega) hm5
      rw [g2] at k3 k4
      have o6 : oc smI rNo rNo smP s5 s6 := k5 _ _ _ _
      have o_1_6 := oc_t o_1_5 o6
      have hd6 : s6.I 0 13 = nI today := ((k5 rNo rNo rNo rNo).2.2.2.1 _ _ (by omega) (fun z => z)).trans ((o5.2.2.2.1 _ _ (by omega) (by unfold plI smI naI; omega)).trans hday)
      have hn_6 : 1171 ≤ s6.n := by omega
      obtain ⟨s7, w1, w2, w3, w4, w5⟩ := c_addN (day := today) hu hn_6 (by omega) (by omega) (hNs s6 o_1_6) (f3.oc o6 (fun _ z => z)) k4
      have f2' : cMl s6 _ _ := f2.oc (k5 rNo rNo rNo rNo) hn_5 low_no low_no low_no (fun z => z) (fun z => z) (fun z => z) (fun _ z => z)
      have f2'' := f2'.oc w3 hn_6 (low_naI hu) low_no low_no (by unfold naI; omega) (by unfold naI; omega) (by unfold naI; omega) (fun f z => by unfold naP at z; omega)
      refine ⟨s7, bg1, ?_, f2'', ?_, by omega, ?_, oc_t o5 (oc_t (pl_1 (u := u) o6) (pl_3 w3)), by omega, by omega⟩
      · rw [hR, if_neg hv]
        show (if uSo (16 + 3 * iv) 3 then (if uSo (16 + 3 * iv) 3 then ((fn_X3_handle (16 + 3 * iv) s5).bind fun v16 => (fn_X9_copyOf 8 v16 s5).bind fun r18 => (fn_X10_addNote (985 + 16 * u) s4.n r18.2 (r18.1.I 0 13) r18.1).bind fun s20 => some s20) else none) else none) = _
        rw [if_pos (so_nod c8), if_pos (so_nod c8), hh, Option.bind_some, k1, Option.bind_some]
        dsimp only
        rw [hd6, w1, Option.bind_some]
      · exact (hB_ s6 o_1_6).oc w3 (by omega) (fun f z => by unfold naI at z; omega) (fun _ _ _ _ z => z)
      · rw [if_pos ⟨rfl, by omega⟩]
        exact w2
