set_option maxRecDepth 100000 in
set_option maxHeartbeats 4000000 in
theorem zb_X2_readText_116  {K8 : Int32 → uS → Option uS}  (hK8 : ∀ (x2 : Int32)  (s : uS) (r : uS), K8 x2 s = some r → agf [(7, 2), (7, 8)] [] [] [11, 10, 8, 9] s r) {x3 : Int32} {s : uS} {r : uS}  (h : fb_X2_readText_116  K8 x3 s = some r) : agf [(7, 2), (7, 8)] [] [] [11, 10, 8, 9] s r := by
  unfold fb_X2_readText_116 at h
  refine (agf_wI (a := 7) (f := 2) (v := 3) (Or.inl (by decide))).tr ?_
  obtain ⟨s1, e2, h⟩ := uu_ob h
  refine ((zc_X9_close so_8 e2).mo (by decide) (by decide) (by decide) (List.forall_mem_cons.mpr ⟨(Or.inr (List.mem_of_getElem? (i := 2) rfl)), List.forall_mem_cons.mpr ⟨(Or.inr (List.mem_of_getElem? (i := 1) rfl)), List.forall_mem_cons.mpr ⟨(Or.inr (List.mem_of_getElem? (i := 0) rfl)), fun _ h => nomatch h⟩⟩⟩)).tr ?_
  exact hK8 (x3 + 1) _ _ h
set_option maxRecDepth 100000 in
set_option maxHeartbeats 4000000 in
theorem zb_X2_readText_164  {K8 : Int32 → uS → Option uS}  (hK8 : ∀ (x2 : Int32)  (s : uS) (r : uS), K8 x2 s = some r → agf [(7, 2), (7, 8)] [] [] [11, 10, 8, 9] s r) {x3 : Int32} {xs0 : Int32} {ks1 : Nat} {s : uS} {r : uS}  (h : fb_X2_readText_164  K8 x3 xs0 ks1 s = some r) : agf [(7, 2), (7, 8)] [] [] [11, 10, 8, 9] s r := by
  unfold fb_X2_readText_164 at h
  obtain ⟨s1, e2, h⟩ := uu_ob h
  refine ((zc_X9_putRange so_8 e2).mo (by decide) (by decide) (by decide) (List.forall_mem_cons.mpr ⟨(Or.inr (List.mem_of_getElem? (i := 3) rfl)), List.forall_mem_cons.mpr ⟨(Or.inr (List.mem_of_getElem? (i := 2) rfl)), fun _ h => nomatch h⟩⟩)).tr ?_
  exact hK8 (x3 + 1) _ _ h
set_option maxRecDepth 100000 in
set_option maxHeartbeats 4000000 in
theorem zb_X2_readText_131  {K8 : Int32 → uS → Option uS}  (hK8 : ∀ (x2 : Int32)  (s : uS) (r : uS), K8 x2 s = some r → agf [(7, 2), (7, 8)] [] [] [11, 10, 8, 9] s r) {x2 : Int32} {x3 : Int32} {b4 : Bool} {s : uS} {r : uS}  (h : fb_X2_readText_131  K8 x2 x3 b4 s = some r) : agf [(7, 2), (7, 8)] [] [] [11, 10, 8, 9] s r := by
  unfold fb_X2_readText_131 at h
  obtain ⟨j1, e2, h⟩ := uu_ob h
  by_cases c3 : b4 = true
  · replace h := uu_pos c3 h
    obtain ⟨j4, e5, h⟩ := uu_ob h
    obtain ⟨v6, e7, h⟩ := uu_ob h
    by_cases c8 : v6 = 46
    · replace h := uu_pos c8 h
      exact zb_X2_readText_164 hK8 h
    · replace h := uu_neg c8 h
      exact zb_X2_readText_164 hK8 h
  · replace h := uu_neg c3 h
    exact zb_X2_readText_164 hK8 h
set_option maxRecDepth 100000 in
set_option maxHeartbeats 4000000 in
theorem zb_X2_readText_82  {K8 : Int32 → uS → Option uS}  (hK8 : ∀ (x2 : Int32)  (s : uS) (r : uS), K8 x2 s = some r → agf [(7, 2), (7, 8)] [] [] [11, 10, 8, 9] s r) {x2 : Int32} {x3 : Int32} {bs0 : Bool} {s : uS} {r : uS}  (h : fb_X2_readText_82  K8 x2 x3 bs0 s = some r) : agf [(7, 2), (7, 8)] [] [] [11, 10, 8, 9] s r := by
  unfold fb_X2_readText_82 at h
  by_cases c1 : bs0 = true
  · replace h := uu_pos c1 h
    by_cases c2 : x3 = (x2 + 1)
    · replace h := uu_pos c2 h
      exact zb_X2_readText_116 hK8 h
    · replace h := uu_neg c2 h
      by_cases c3 : x3 = (x2 + 2)
      · replace h := uu_pos c3 h
        obtain ⟨j4, e5, h⟩ := uu_ob h
        obtain ⟨v6, e7, h⟩ := uu_ob h
        by_cases c8 : v6 = 13
        · replace h := uu_pos c8 h
          exact zb_X2_readText_116 hK8 h
        · replace h := uu_neg c8 h
          exact zb_X2_readText_131 hK8 h
      · replace h := uu_neg c3 h
        exact zb_X2_readText_131 hK8 h
  · replace h := uu_neg c1 h
    exact zb_X2_readText_131 hK8 h
set_option maxRecDepth 100000 in
set_option maxHeartbeats 4000000 in
theorem zb_X2_readText_8  {K8 : Int32 → uS → Option uS}  (hK8 : ∀ (x2 : Int32)  (s : uS) (r : uS), K8 x2 s = some r → agf [(7, 2), (7, 8)] [] [] [11, 10, 8, 9] s r) {x2 : Int32} {s : uS} {r : uS}  (h : fb_X2_readText_8  K8 x2 s = some r) : agf [(7, 2), (7, 8)] [] [] [11, 10, 8, 9] s r := by
  unfold fb_X2_readText_8 at h
  by_cases c1 : (s.I 7 5) ≤ x2
  · replace h := uu_pos c1 h
    refine (agf_wI (a := 7) (f := 8) (v := x2) (Or.inl (by decide))).tr ?_
    have hr := Option.some.inj h
    subst hr
    exact agf.rf
  · replace h := uu_neg c1 h
    by_cases c2 : (1000 : Int32) < ((s.I 8 5) - (s.I 8 4))
    · replace h := uu_pos c2 h
      refine (agf_wI (a := 7) (f := 8) (v := x2) (Or.inl (by decide))).tr ?_
      have hr := Option.some.inj h
      subst hr
      exact agf.rf
    · replace h := uu_neg c2 h
      by_cases c3 : (s.I 7 2) = 6
      · replace h := uu_pos c3 h
        obtain ⟨j4, e5, h⟩ := uu_ob h
        obtain ⟨v6, e7, h⟩ := uu_ob h
        by_cases c8 : 0 ≤ v6
        · replace h := uu_pos c8 h
          obtain ⟨j9, e10, h⟩ := uu_ob h
          obtain ⟨v11, e12, h⟩ := uu_ob h
          by_cases c13 : v11 = 46
          · replace h := uu_pos c13 h
            exact zb_X2_readText_82 hK8 h
          · replace h := uu_neg c13 h
            exact zb_X2_readText_82 hK8 h
        · replace h := uu_neg c8 h
          have hr := Option.some.inj h
          subst hr
          exact agf.rf
      · replace h := uu_neg c3 h
        refine (agf_wI (a := 7) (f := 8) (v := x2) (Or.inl (by decide))).tr ?_
        have hr := Option.some.inj h
        subst hr
        exact agf.rf
set_option maxRecDepth 100000 in
set_option maxHeartbeats 4000000 in
theorem zn_X2_readText_8     : ∀ (n : Nat) (x2 : Int32)  (s : uS) (r : uS), fn_X2_readText_8   n x2 s = some r → agf [(7, 2), (7, 8)] [] [] [11, 10, 8, 9] s r := by
  intro n
  induction n with
  | zero => intro x2  s r h
            cases h
  | succ n ih => intro x2  s r h
                 exact zb_X2_readText_8  ih  h
set_option maxRecDepth 100000 in
set_option maxHeartbeats 4000000 in
theorem zc_X2_readText   {x1 : Int32} {s : uS} {r : uS}  (h : fn_X2_readText  x1 s = some r) : agf [(7, 2), (7, 8)] [] [] [11, 10, 8, 9] s r := by
  unfold fn_X2_readText at h
  refine (agf_wI (a := 7) (f := 2) (v := 6) (Or.inl (by decide))).tr ?_
  exact zn_X2_readText_8  _ _ _ _ h
set_option maxRecDepth 100000 in
set_option maxHeartbeats 4000000 in
theorem zb_X2_next_167     {xs0 : Int32} {s : uS} {r : uS}  (h : fb_X2_next_167   xs0 s = some r) : agf [(7, 2), (7, 3), (7, 6), (7, 7), (7, 8)] [] [] [9, 8, 10, 11] s r := by
  unfold fb_X2_next_167 at h
  refine (agf_wI (a := 7) (f := 2) (v := xs0) (Or.inl (by decide))).tr ?_
  refine (agf_wI (a := 7) (f := 8) (v := ((wI s 7 2 xs0).I 7 8) + 1) (Or.inl (by decide))).tr ?_
  have hr := Option.some.inj h
  subst hr
  exact agf.rf
set_option maxRecDepth 100000 in
set_option maxHeartbeats 4000000 in
theorem zb_X2_next_119     {x1 : Int32} {s : uS} {r : uS}  (h : fb_X2_next_119   x1 s = some r) : agf [(7, 2), (7, 3), (7, 6), (7, 7), (7, 8)] [] [] [9, 8, 10, 11] s r := by
  unfold fb_X2_next_119 at h
  obtain ⟨v1, e2, h⟩ := uu_ob h
  by_cases c3 : v1 = true
  · replace h := uu_pos c3 h
    obtain ⟨s4, e5, h⟩ := uu_ob h
    refine ((zc_X2_readNumber  e5).mo (by decide) (by decide) (by decide) (fun _ h => nomatch h)).tr ?_
    have hr := Option.some.inj h
    subst hr
    exact agf.rf
  · replace h := uu_neg c3 h
    by_cases c6 : x1 = 34
    · replace h := uu_pos c6 h
      obtain ⟨s7, e8, h⟩ := uu_ob h
      refine ((zc_X2_readQuoted  e8).mo (by decide) (by decide) (by decide) (List.forall_mem_cons.mpr ⟨(Or.inr (List.mem_of_getElem? (i := 3) rfl)), List.forall_mem_cons.mpr ⟨(Or.inr (List.mem_of_getElem? (i := 2) rfl)), List.forall_mem_cons.mpr ⟨(Or.inr (List.mem_of_getElem? (i := 1) rfl)), List.forall_mem_cons.mpr ⟨(Or.inr (List.mem_of_getElem? (i := 0) rfl)), fun _ h => nomatch h⟩⟩⟩⟩)).tr ?_
      have hr := Option.some.inj h
      subst hr
      exact agf.rf
    · replace h := uu_neg c6 h
      by_cases c9 : x1 ≤ 0
      · replace h := uu_pos c9 h
        exact zb_X2_next_167  h
      · replace h := uu_neg c9 h
        obtain ⟨g11, h⟩ := uu_grd h
        by_cases c12 : (stidx kW_34 ((x1.toUInt32 % 65536).toInt32)) < 0
        · replace h := uu_pos c12 h
          exact zb_X2_next_167  h
        · replace h := uu_neg c12 h
          exact zb_X2_next_167  h
set_option maxRecDepth 100000 in
set_option maxHeartbeats 4000000 in
theorem zc_X2_next    {s : uS} {r : uS}  (h : fn_X2_next   s = some r) : agf [(7, 2), (7, 3), (7, 6), (7, 7), (7, 8)] [] [] [9, 8, 10, 11] s r := by
  unfold fn_X2_next at h
  obtain ⟨r1, e2, h⟩ := uu_ob h
  refine ((zc_X2_skipBetween  e2).mo (by decide) (by decide) (by decide) (fun _ h => nomatch h)).tr ?_
  by_cases c3 : r1.2 = true
  · replace h := uu_pos c3 h
    refine (agf_wI (a := 7) (f := 6) (v := r1.1.I 7 8) (Or.inl (by decide))).tr ?_
    by_cases c4 : ((wI r1.1 7 6 (r1.1.I 7 8)).I 7 8) < ((wI r1.1 7 6 (r1.1.I 7 8)).I 7 5)
    · replace h := uu_pos c4 h
      obtain ⟨j5, e6, h⟩ := uu_ob h
      obtain ⟨v7, e8, h⟩ := uu_ob h
      obtain ⟨v9, e10, h⟩ := uu_ob h
      by_cases c11 : v9 = true
      · replace h := uu_pos c11 h
        obtain ⟨s12, e13, h⟩ := uu_ob h
        refine ((zc_X2_readWord  e13).mo (by decide) (by decide) (by decide) (fun _ h => nomatch h)).tr ?_
        obtain ⟨v14, e15, h⟩ := uu_ob h
        by_cases c16 : v14 < 0
        · replace h := uu_pos c16 h
          have hr := Option.some.inj h
          subst hr
          exact agf.rf
        · replace h := uu_neg c16 h
          obtain ⟨s17, e18, h⟩ := uu_ob h
          refine ((zc_X2_readText  e18).mo (by decide) (by decide) (by decide) (List.forall_mem_cons.mpr ⟨(Or.inr (List.mem_of_getElem? (i := 3) rfl)), List.forall_mem_cons.mpr ⟨(Or.inr (List.mem_of_getElem? (i := 2) rfl)), List.forall_mem_cons.mpr ⟨(Or.inr (List.mem_of_getElem? (i := 1) rfl)), List.forall_mem_cons.mpr ⟨(Or.inr (List.mem_of_getElem? (i := 0) rfl)), fun _ h => nomatch h⟩⟩⟩⟩)).tr ?_
          have hr := Option.some.inj h
          subst hr
          exact agf.rf
      · replace h := uu_neg c11 h
        by_cases c19 : v7 = 58
        · replace h := uu_pos c19 h
          obtain ⟨v20, e21, h⟩ := uu_ob h
          by_cases c22 : v20 = true
          · replace h := uu_pos c22 h
            obtain ⟨s23, e24, h⟩ := uu_ob h
            refine ((zc_X2_readWord  e24).mo (by decide) (by decide) (by decide) (fun _ h => nomatch h)).tr ?_
            have hr := Option.some.inj h
            subst hr
            exact agf.rf
          · replace h := uu_neg c22 h
            exact zb_X2_next_119  h
        · replace h := uu_neg c19 h
          exact zb_X2_next_119  h
    · replace h := uu_neg c4 h
      refine (agf_wI (a := 7) (f := 2) (v := 5) (Or.inl (by decide))).tr ?_
      have hr := Option.some.inj h
      subst hr
      exact agf.rf
  · replace h := uu_neg c3 h
    refine (agf_wI (a := 7) (f := 2) (v := 6) (Or.inl (by decide))).tr ?_
    have hr := Option.some.inj h
    subst hr
    exact agf.rf
set_option maxRecDepth 100000 in
set_option maxHeartbeats 4000000 in
theorem zc_X3_reset   {k0 : Nat} {x1 : Int32} {x2 : Int32} {x3 : Int32} {s : uS} {r : uS} (hk0 : uSo k0 3) (h : fn_X3_reset  k0 x1 x2 x3 s = some r) : agf [] [] [4] [] s r := by
  unfold fn_X3_reset at h
  refine (agf_wI (a := k0) (f := 0) (v := x1) (Or.inr (Or.inl (by rw [show k0 = k0 + 0 from rfl, rg_X3 (d := 0) hk0 (by decide)]; decide)))).tr ?_
  refine (agf_wI (a := k0) (f := 1) (v := x2) (Or.inr (Or.inl (by rw [show k0 = k0 + 0 from rfl, rg_X3 (d := 0) hk0 (by decide)]; decide)))).tr ?_
  refine (agf_wI (a := k0) (f := 2) (v := x3) (Or.inr (Or.inl (by rw [show k0 = k0 + 0 from rfl, rg_X3 (d := 0) hk0 (by decide)]; decide)))).tr ?_
  refine (agf_wI (a := k0) (f := 5) (v := 0) (Or.inr (Or.inl (by rw [show k0 = k0 + 0 from rfl, rg_X3 (d := 0) hk0 (by decide)]; decide)))).tr ?_
  refine (agf_wI (a := k0) (f := 6) (v := 0) (Or.inr (Or.inl (by rw [show k0 = k0 + 0 from rfl, rg_X3 (d := 0) hk0 (by decide)]; decide)))).tr ?_
  refine (agf_wI (a := k0) (f := 8) (v := 0) (Or.inr (Or.inl (by rw [show k0 = k0 + 0 from rfl, rg_X3 (d := 0) hk0 (by decide)]; decide)))).tr ?_
  refine (agf_wI (a := k0) (f := 9) (v := 0) (Or.inr (Or.inl (by rw [show k0 = k0 + 0 from rfl, rg_X3 (d := 0) hk0 (by decide)]; decide)))).tr ?_
  refine (agf_wI (a := k0) (f := 11) (v := 0) (Or.inr (Or.inl (by rw [show k0 = k0 + 0 from rfl, rg_X3 (d := 0) hk0 (by decide)]; decide)))).tr ?_
  obtain ⟨s1, e2, h⟩ := uu_ob h
  refine ((zc_J7_fill_53178  e2).mo (by decide) (by decide) (by decide) (List.forall_mem_cons.mpr ⟨(Or.inl (by rw [show k0 + 2 = k0 + 2 from rfl, rg_X3 (d := 2) hk0 (by decide)]; decide)), fun _ h => nomatch h⟩)).tr ?_
  have hr := Option.some.inj h
  subst hr
  exact agf.rf
set_option maxRecDepth 100000 in
set_option maxHeartbeats 4000000 in
theorem zc_X4_addNode   {x1 : Int32} {x2 : Int32} {x3 : Int32} {s : uS} {r : (uS × Int32)}  (h : fn_X4_addNode  x1 x2 x3 s = some r) : agf [(6, 2)] [] [4] [] s r.1 := by
  unfold fn_X4_addNode at h
  by_cases c1 : (s.I 6 2) < 320
  · replace h := uu_pos c1 h
    refine (agf_wI (a := 6) (f := 2) (v := (s.I 6 2) + 1) (Or.inl (by decide))).tr ?_
    obtain ⟨j2, e3, h⟩ := uu_ob h
    obtain ⟨g4, h⟩ := uu_grd h
    obtain ⟨s5, e6, h⟩ := uu_ob h
    refine ((zc_X3_reset g4 e6).mo (by decide) (by decide) (by decide) (fun _ h => nomatch h)).tr ?_
    obtain ⟨j7, e8, h⟩ := uu_ob h
    obtain ⟨g9, h⟩ := uu_grd h
    refine (agf_wI (a := j7) (f := 3) (v := s5.I 6 2) (Or.inr (Or.inl (by rw [show j7 = j7 + 0 from rfl, rg_X3 (d := 0) g9 (by decide)]; decide)))).tr ?_
    obtain ⟨j10, e11, h⟩ := uu_ob h
    obtain ⟨g12, h⟩ := uu_grd h
    refine (agf_wI (a := j10) (f := 4) (v := (wI s5 j7 3 (s5.I 6 2)).I 6 2) (Or.inr (Or.inl (by rw [show j10 = j10 + 0 from rfl, rg_X3 (d := 0) g12 (by decide)]; decide)))).tr ?_
    have hr := Option.some.inj h
    subst hr
    exact agf.rf
  · replace h := uu_neg c1 h
    have hr := Option.some.inj h
    subst hr
    exact agf.rf
set_option maxRecDepth 100000 in
set_option maxHeartbeats 4000000 in
theorem zc_X4_open   {k1 : Nat} {x2 : Int32} {x3 : Int32} {s : uS} {r : uS}  (h : fn_X4_open  k1 x2 x3 s = some r) : agf [(6, 2), (6, 5), (6, 6), (6, 7), (6, 8), (7, 1), (7, 4), (7, 5), (7, 8)] [14, 15] [4] [8] s r := by
  unfold fn_X4_open at h
  obtain ⟨s1, e2, h⟩ := uu_ob h
  refine ((zc_X2_open  e2).mo (by decide) (by decide) (by decide) (List.forall_mem_cons.mpr ⟨(Or.inr (List.mem_of_getElem? (i := 0) rfl)), fun _ h => nomatch h⟩)).tr ?_
  refine (agf_wI (a := 6) (f := 2) (v := 0) (Or.inl (by decide))).tr ?_
  refine (agf_wI (a := 6) (f := 6) (v := 0) (Or.inl (by decide))).tr ?_
  refine (agf_wI (a := 6) (f := 7) (v := 0) (Or.inl (by decide))).tr ?_
  refine (agf_wI (a := 6) (f := 8) (v := 0) (Or.inl (by decide))).tr ?_
  refine (agf_wI (a := 6) (f := 5) (v := 0) (Or.inl (by decide))).tr ?_
  obtain ⟨r3, e4, h⟩ := uu_ob h
  refine ((zc_X4_addNode  e4).mo (by decide) (by decide) (by decide) (fun _ h => nomatch h)).tr ?_
  obtain ⟨s5, e6, h⟩ := uu_ob h
  refine ((zc_X4_push  e6).mo (by decide) (by decide) (by decide) (fun _ h => nomatch h)).tr ?_
  have hr := Option.some.inj h
  subst hr
  exact agf.rf
set_option maxRecDepth 100000 in
set_option maxHeartbeats 4000000 in
theorem zb_X4_startCommand_188     {x1 : Int32} {x2 : Int32} {s : uS} {r : (uS × Int32)}  (h : fb_X4_startCommand_188   x1 x2 s = some r) : agf [(6, 2), (6, 5), (6, 6)] [14, 15] [4] [] s r.1 := by
  unfold fb_X4_startCommand_188 at h
  obtain ⟨v2, e3, h⟩ := uu_ob h
  by_cases c4 : v2 = 0
  · replace h := uu_pos c4 h
    have hr := Option.some.inj h
    subst hr
    exact agf.rf
  · replace h := uu_neg c4 h
    obtain ⟨s5, e6, h⟩ := uu_ob h
    refine ((zc_X4_push  e6).mo (by decide) (by decide) (by decide) (fun _ h => nomatch h)).tr ?_
    have hr := Option.some.inj h
    subst hr
    exact agf.rf
set_option maxRecDepth 100000 in
set_option maxHeartbeats 4000000 in
theorem zb_X4_startCommand_23     {xs0 : Int32} {s : uS} {r : (uS × Int32)}  (h : fb_X4_startCommand_23   xs0 s = some r) : agf [(6, 2), (6, 5), (6, 6)] [14, 15] [4] [] s r.1 := by
  unfold fb_X4_startCommand_23 at h
  by_cases c1 : xs0 < 0
  · replace h := uu_pos c1 h
    have hr := Option.some.inj h
    subst hr
    exact agf.rf
  · replace h := uu_neg c1 h
    by_cases c2 : (s.I 6 6) = 100
    · replace h := uu_pos c2 h
      have hr := Option.some.inj h
      subst hr
      exact agf.rf
    · replace h := uu_neg c2 h
      obtain ⟨v4, e5, h⟩ := uu_ob h
      obtain ⟨v6, e7, h⟩ := uu_ob h
      by_cases c8 : v6 = true
      · replace h := uu_pos c8 h
        have hr := Option.some.inj h
        subst hr
        exact agf.rf
      · replace h := uu_neg c8 h
        refine (agf_wI (a := 6) (f := 6) (v := (s.I 6 6) + 1) (Or.inl (by decide))).tr ?_
        obtain ⟨r9, e10, h⟩ := uu_ob h
        refine ((zc_X4_addNode  e10).mo (by decide) (by decide) (by decide) (fun _ h => nomatch h)).tr ?_
        by_cases c11 : xs0 = 0
        · replace h := uu_pos c11 h
          obtain ⟨s12, e13, h⟩ := uu_ob h
          refine ((zc_X4_push  e13).mo (by decide) (by decide) (by decide) (fun _ h => nomatch h)).tr ?_
          obtain ⟨s14, e15, h⟩ := uu_ob h
          refine ((zc_X4_push  e15).mo (by decide) (by decide) (by decide) (fun _ h => nomatch h)).tr ?_
          obtain ⟨s16, e17, h⟩ := uu_ob h
          refine ((zc_X4_push  e17).mo (by decide) (by decide) (by decide) (fun _ h => nomatch h)).tr ?_
          have hr := Option.some.inj h
          subst hr
          exact agf.rf
        · replace h := uu_neg c11 h
          obtain ⟨s18, e19, h⟩ := uu_ob h
          refine ((zc_X4_push  e19).mo (by decide) (by decide) (by decide) (fun _ h => nomatch h)).tr ?_
          by_cases c102_0 : xs0 = 4
          · replace h := uu_pos c102_0 h
            obtain ⟨s20, e21, h⟩ := uu_ob h
            refine ((zc_X4_pushList  e21).mo (by decide) (by decide) (by decide) (fun _ h => nomatch h)).tr ?_
            exact zb_X4_startCommand_188  h
          replace h := uu_neg c102_0 h
          by_cases c102_1 : xs0 = 5
          · replace h := uu_pos c102_1 h
            obtain ⟨s22, e23, h⟩ := uu_ob h
            refine ((zc_X4_pushList  e23).mo (by decide) (by decide) (by decide) (fun _ h => nomatch h)).tr ?_
            exact zb_X4_startCommand_188  h
          replace h := uu_neg c102_1 h
          by_cases c102_2 : xs0 = 6
          · replace h := uu_pos c102_2 h
            obtain ⟨s24, e25, h⟩ := uu_ob h
            refine ((zc_X4_pushList  e25).mo (by decide) (by decide) (by decide) (fun _ h => nomatch h)).tr ?_
            exact zb_X4_startCommand_188  h
          replace h := uu_neg c102_2 h
          by_cases c102_3 : xs0 = 7
          · replace h := uu_pos c102_3 h
            obtain ⟨s26, e27, h⟩ := uu_ob h
            refine ((zc_X4_pushList  e27).mo (by decide) (by decide) (by decide) (fun _ h => nomatch h)).tr ?_
            exact zb_X4_startCommand_188  h
          replace h := uu_neg c102_3 h
          by_cases c102_4 : xs0 = 8
          · replace h := uu_pos c102_4 h
            obtain ⟨s28, e29, h⟩ := uu_ob h
            refine ((zc_X4_pushList  e29).mo (by decide) (by decide) (by decide) (fun _ h => nomatch h)).tr ?_
            exact zb_X4_startCommand_188  h
          replace h := uu_neg c102_4 h
          by_cases c102_5 : xs0 = 9
          · replace h := uu_pos c102_5 h
            obtain ⟨s30, e31, h⟩ := uu_ob h
            refine ((zc_X4_pushList  e31).mo (by decide) (by decide) (by decide) (fun _ h => nomatch h)).tr ?_
            exact zb_X4_startCommand_188  h
          replace h := uu_neg c102_5 h
          by_cases c102_6 : xs0 = 10
          · replace h := uu_pos c102_6 h
            obtain ⟨s32, e33, h⟩ := uu_ob h
            refine ((zc_X4_pushList  e33).mo (by decide) (by decide) (by decide) (fun _ h => nomatch h)).tr ?_
            exact zb_X4_startCommand_188  h
          replace h := uu_neg c102_6 h
          exact zb_X4_startCommand_188  h
set_option maxRecDepth 100000 in
set_option maxHeartbeats 4000000 in
theorem zc_X4_startCommand    {s : uS} {r : (uS × Int32)}  (h : fn_X4_startCommand   s = some r) : agf [(6, 2), (6, 5), (6, 6)] [14, 15] [4] [] s r.1 := by
  unfold fn_X4_startCommand at h
  by_cases c1 : (s.I 7 2) = 0
  · replace h := uu_pos c1 h
    obtain ⟨v3, e4, h⟩ := uu_ob h
    exact zb_X4_startCommand_23  h
  · replace h := uu_neg c1 h
    exact zb_X4_startCommand_23  h
set_option maxRecDepth 100000 in
set_option maxHeartbeats 4000000 in
theorem zc_X4_closeBlock   {x1 : Int32} {s : uS} {r : (uS × Int32)}  (h : fn_X4_closeBlock  x1 s = some r) : agf [(6, 2), (6, 5), (6, 7)] [] [4] [] s r.1 := by
  unfold fn_X4_closeBlock at h
  refine (agf_wI (a := 6) (f := 7) (v := (s.I 6 7) - 1) (Or.inl (by decide))).tr ?_
  obtain ⟨r1, e2, h⟩ := uu_ob h
  refine ((zc_X4_addNode  e2).mo (by decide) (by decide) (by decide) (fun _ h => nomatch h)).tr ?_
  obtain ⟨j3, e4, h⟩ := uu_ob h
  obtain ⟨g5, h⟩ := uu_grd h
  refine (agf_wI (a := j3) (f := 4) (v := r1.1.I 6 2) (Or.inr (Or.inl (by rw [show j3 = j3 + 0 from rfl, rg_X3 (d := 0) g5 (by decide)]; decide)))).tr ?_
  obtain ⟨r6, e7, h⟩ := uu_ob h
  refine ((zc_X4_pop  e7).mo (by decide) (by decide) (by decide) (fun _ h => nomatch h)).tr ?_
  have hr := Option.some.inj h
  subst hr
  exact agf.rf
set_option maxRecDepth 100000 in
set_option maxHeartbeats 4000000 in
theorem zb_X4_startElse_67     {x1 : Int32} {x2 : Int32} {s : uS} {r : (uS × Int32)}  (h : fb_X4_startElse_67   x1 x2 s = some r) : agf [(6, 2), (6, 5)] [14, 15] [4] [] s r.1 := by
  unfold fb_X4_startElse_67 at h
  obtain ⟨s1, e2, h⟩ := uu_ob h
  refine ((zc_X4_push  e2).mo (by decide) (by decide) (by decide) (fun _ h => nomatch h)).tr ?_
  by_cases c3 : x1 = 0
  · replace h := uu_pos c3 h
    obtain ⟨s4, e5, h⟩ := uu_ob h
    refine ((zc_X4_push  e5).mo (by decide) (by decide) (by decide) (fun _ h => nomatch h)).tr ?_
    have hr := Option.some.inj h
    subst hr
    exact agf.rf
  · replace h := uu_neg c3 h
    have hr := Option.some.inj h
    subst hr
    exact agf.rf
set_option maxRecDepth 100000 in
set_option maxHeartbeats 4000000 in
theorem zb_X4_startElse_46     {x1 : Int32} {xs0 : Int32} {s : uS} {r : (uS × Int32)}  (h : fb_X4_startElse_46   x1 xs0 s = some r) : agf [(6, 2), (6, 5)] [14, 15] [4] [] s r.1 := by
  unfold fb_X4_startElse_46 at h
  obtain ⟨r1, e2, h⟩ := uu_ob h
  refine ((zc_X4_addNode  e2).mo (by decide) (by decide) (by decide) (fun _ h => nomatch h)).tr ?_
  by_cases c3 : x1 = 1
  · replace h := uu_pos c3 h
    refine (agf_wI (a := 6) (f := 5) (v := (r1.1.I 6 5) - 1) (Or.inl (by decide))).tr ?_
    exact zb_X4_startElse_67  h
  · replace h := uu_neg c3 h
    exact zb_X4_startElse_67  h
set_option maxRecDepth 100000 in
set_option maxHeartbeats 4000000 in
theorem zb_X4_startElse_23     {xs0 : Int32} {s : uS} {r : (uS × Int32)}  (h : fb_X4_startElse_23   xs0 s = some r) : agf [(6, 2), (6, 5)] [14, 15] [4] [] s r.1 := by
  unfold fb_X4_startElse_23 at h
  by_cases c1 : 0 ≤ xs0
  · replace h := uu_pos c1 h
    by_cases c2 : xs0 = 0
    · replace h := uu_pos c2 h
      exact zb_X4_startElse_46  h
    · replace h := uu_neg c2 h
      exact zb_X4_startElse_46  h
  · replace h := uu_neg c1 h
    obtain ⟨r3, e4, h⟩ := uu_ob h
    refine ((zc_X4_pop  e4).mo (by decide) (by decide) (by decide) (fun _ h => nomatch h)).tr ?_
    have hr := Option.some.inj h
    subst hr
    exact agf.rf
set_option maxRecDepth 100000 in
set_option maxHeartbeats 4000000 in
theorem zc_X4_startElse    {s : uS} {r : (uS × Int32)}  (h : fn_X4_startElse   s = some r) : agf [(6, 2), (6, 5)] [14, 15] [4] [] s r.1 := by
  unfold fn_X4_startElse at h
  by_cases c1 : (s.I 7 2) = 0
  · replace h := uu_pos c1 h
    obtain ⟨v3, e4, h⟩ := uu_ob h
    exact zb_X4_startElse_23  h
  · replace h := uu_neg c1 h
    exact zb_X4_startElse_23  h
set_option maxRecDepth 100000 in
set_option maxHeartbeats 4000000 in
theorem zb_X4_startTest_23     {x1 : Int32} {xs0 : Int32} {s : uS} {r : (uS × Int32)}  (h : fb_X4_startTest_23   x1 xs0 s = some r) : agf [(6, 2), (6, 5), (6, 6)] [14, 15] [4] [] s r.1 := by
  unfold fb_X4_startTest_23 at h
  obtain ⟨j1, e2, h⟩ := uu_ob h
  obtain ⟨g3, h⟩ := uu_grd h
  by_cases c4 : xs0 < 0
  · replace h := uu_pos c4 h
    have hr := Option.some.inj h
    subst hr
    exact agf.rf
  · replace h := uu_neg c4 h
    by_cases c5 : (s.I 6 6) = 100
    · replace h := uu_pos c5 h
      have hr := Option.some.inj h
      subst hr
      exact agf.rf
    · replace h := uu_neg c5 h
      by_cases c6 : (8 : Int32) < ((s.I j1 2) + 1)
      · replace h := uu_pos c6 h
        have hr := Option.some.inj h
        subst hr
        exact agf.rf
      · replace h := uu_neg c6 h
        obtain ⟨v8, e9, h⟩ := uu_ob h
        obtain ⟨v10, e11, h⟩ := uu_ob h
        by_cases c12 : v10 = true
        · replace h := uu_pos c12 h
          have hr := Option.some.inj h
          subst hr
          exact agf.rf
        · replace h := uu_neg c12 h
          refine (agf_wI (a := 6) (f := 6) (v := (s.I 6 6) + 1) (Or.inl (by decide))).tr ?_
          refine (agf_wI (a := 6) (f := 5) (v := ((wI s 6 6 ((s.I 6 6) + 1)).I 6 5) - 1) (Or.inl (by decide))).tr ?_
          obtain ⟨r13, e14, h⟩ := uu_ob h
          refine ((zc_X4_addNode  e14).mo (by decide) (by decide) (by decide) (fun _ h => nomatch h)).tr ?_
          by_cases c107_0 : ((11 : Int32) + xs0) = 17
          · replace h := uu_pos c107_0 h
            obtain ⟨s15, e16, h⟩ := uu_ob h
            refine ((zc_X4_push  e16).mo (by decide) (by decide) (by decide) (fun _ h => nomatch h)).tr ?_
            obtain ⟨s17, e18, h⟩ := uu_ob h
            refine ((zc_X4_push  e18).mo (by decide) (by decide) (by decide) (fun _ h => nomatch h)).tr ?_
            obtain ⟨s19, e20, h⟩ := uu_ob h
            refine ((zc_X4_push  e20).mo (by decide) (by decide) (by decide) (fun _ h => nomatch h)).tr ?_
            have hr := Option.some.inj h
            subst hr
            exact agf.rf
          replace h := uu_neg c107_0 h
          by_cases c107_1 : ((11 : Int32) + xs0) = 18
          · replace h := uu_pos c107_1 h
            obtain ⟨s21, e22, h⟩ := uu_ob h
            refine ((zc_X4_push  e22).mo (by decide) (by decide) (by decide) (fun _ h => nomatch h)).tr ?_
            obtain ⟨s23, e24, h⟩ := uu_ob h
            refine ((zc_X4_push  e24).mo (by decide) (by decide) (by decide) (fun _ h => nomatch h)).tr ?_
            obtain ⟨s25, e26, h⟩ := uu_ob h
            refine ((zc_X4_push  e26).mo (by decide) (by decide) (by decide) (fun _ h => nomatch h)).tr ?_
            have hr := Option.some.inj h
            subst hr
            exact agf.rf
          replace h := uu_neg c107_1 h
          by_cases c107_2 : ((11 : Int32) + xs0) = 19
          · replace h := uu_pos c107_2 h
            obtain ⟨s27, e28, h⟩ := uu_ob h
            refine ((zc_X4_push  e28).mo (by decide) (by decide) (by decide) (fun _ h => nomatch h)).tr ?_
            obtain ⟨s29, e30, h⟩ := uu_ob h
            refine ((zc_X4_push  e30).mo (by decide) (by decide) (by decide) (fun _ h => nomatch h)).tr ?_
            have hr := Option.some.inj h
            subst hr
            exact agf.rf
          replace h := uu_neg c107_2 h
          by_cases c107_3 : ((11 : Int32) + xs0) = 20
          · replace h := uu_pos c107_3 h
            have hr := Option.some.inj h
            subst hr
            exact agf.rf
          replace h := uu_neg c107_3 h
          by_cases c107_4 : ((11 : Int32) + xs0) = 21
          · replace h := uu_pos c107_4 h
            have hr := Option.some.inj h
            subst hr
            exact agf.rf
          replace h := uu_neg c107_4 h
          obtain ⟨s31, e32, h⟩ := uu_ob h
          refine ((zc_X4_pushPartsOfTest  e32).mo (by decide) (by decide) (by decide) (fun _ h => nomatch h)).tr ?_
          have hr := Option.some.inj h
          subst hr
          exact agf.rf
set_option maxRecDepth 100000 in
set_option maxHeartbeats 4000000 in
theorem zc_X4_startTest   {x1 : Int32} {s : uS} {r : (uS × Int32)}  (h : fn_X4_startTest  x1 s = some r) : agf [(6, 2), (6, 5), (6, 6)] [14, 15] [4] [] s r.1 := by
  unfold fn_X4_startTest at h
  by_cases c1 : (s.I 7 2) = 0
  · replace h := uu_pos c1 h
    obtain ⟨v3, e4, h⟩ := uu_ob h
    exact zb_X4_startTest_23  h
  · replace h := uu_neg c1 h
    exact zb_X4_startTest_23  h
set_option maxRecDepth 100000 in
set_option maxHeartbeats 4000000 in
theorem zb_X4_isAskedFor_118     {x7 : Int32} {xs0 : Int32} {xs1 : Int32} {s : uS} {r : (uS × Bool)}  (h : fb_X4_isAskedFor_118   x7 xs0 xs1 s = some r) : agf [(6, 8)] [] [4] [] s r.1 := by
  unfold fb_X4_isAskedFor_118 at h
  refine (agf_wI (a := 6) (f := 8) (v := xs1 ||| xs0) (Or.inl (by decide))).tr ?_
  by_cases c1 : x7 < 0
  · replace h := uu_pos c1 h
    have hr := Option.some.inj h
    subst hr
    exact agf.rf
  · replace h := uu_neg c1 h
    have hr := Option.some.inj h
    subst hr
    exact agf.rf
set_option maxRecDepth 100000 in
set_option maxHeartbeats 4000000 in
theorem zc_X4_isAskedFor   {k1 : Nat} {x2 : Int32} {x3 : Int32} {s : uS} {r : (uS × Bool)} (hk1 : uSo k1 3) (h : fn_X4_isAskedFor  k1 x2 x3 s = some r) : agf [(6, 8)] [] [4] [] s r.1 := by
  unfold fn_X4_isAskedFor at h
  obtain ⟨v1, e2, h⟩ := uu_ob h
  obtain ⟨v3, e4, h⟩ := uu_ob h
  by_cases c28_0 : x2 = 2
  · replace h := uu_pos c28_0 h
    obtain ⟨v6, e7, h⟩ := uu_ob h
    by_cases c8 : 0 ≤ v6
    · replace h := uu_pos c8 h
      refine (agf_wI (a := k1) (f := 11) (v := (s.I k1 11) ||| ((1 : Int32) <<< (v6 &&& 31))) (Or.inr (Or.inl (by rw [show k1 = k1 + 0 from rfl, rg_X3 (d := 0) hk1 (by decide)]; decide)))).tr ?_
      have hr := Option.some.inj h
      subst hr
      exact agf.rf
    · replace h := uu_neg c8 h
      refine (agf_wI (a := k1) (f := 11) (v := (s.I k1 11) ||| 0) (Or.inr (Or.inl (by rw [show k1 = k1 + 0 from rfl, rg_X3 (d := 0) hk1 (by decide)]; decide)))).tr ?_
      have hr := Option.some.inj h
      subst hr
      exact agf.rf
  replace h := uu_neg c28_0 h
  by_cases c28_1 : x2 = 3
  · replace h := uu_pos c28_1 h
    obtain ⟨v9, e10, h⟩ := uu_ob h
    have hr := Option.some.inj h
    subst hr
    exact agf.rf
  replace h := uu_neg c28_1 h
  by_cases c28_2 : x2 = 4
  · replace h := uu_pos c28_2 h
    obtain ⟨v11, e12, h⟩ := uu_ob h
    have hr := Option.some.inj h
    subst hr
    exact agf.rf
  replace h := uu_neg c28_2 h
  by_cases c28_3 : x2 = 5
  · replace h := uu_pos c28_3 h
    have hr := Option.some.inj h
    subst hr
    exact agf.rf
  replace h := uu_neg c28_3 h
  by_cases c28_4 : x2 = 6
  · replace h := uu_pos c28_4 h
    have hr := Option.some.inj h
    subst hr
    exact agf.rf
  replace h := uu_neg c28_4 h
  by_cases c28_5 : x2 = 7
  · replace h := uu_pos c28_5 h
    have hr := Option.some.inj h
    subst hr
    exact agf.rf
  replace h := uu_neg c28_5 h
  by_cases c28_6 : x2 = 8
  · replace h := uu_pos c28_6 h
    have hr := Option.some.inj h
    subst hr
    exact agf.rf
  replace h := uu_neg c28_6 h
  by_cases c28_7 : x2 = 9
  · replace h := uu_pos c28_7 h
    obtain ⟨v14, e15, h⟩ := uu_ob h
    refine (agf_wI (a := k1) (f := 7) (v := v14) (Or.inr (Or.inl (by rw [show k1 = k1 + 0 from rfl, rg_X3 (d := 0) hk1 (by decide)]; decide)))).tr ?_
    by_cases c16 : ((wI s k1 7 v14).I k1 7) < 0
    · replace h := uu_pos c16 h
      have hr := Option.some.inj h
      subst hr
      exact agf.rf
    · replace h := uu_neg c16 h
      have hr := Option.some.inj h
      subst hr
      exact agf.rf
  replace h := uu_neg c28_7 h
  by_cases c28_8 : x2 = 10
  · replace h := uu_pos c28_8 h
    obtain ⟨v18, e19, h⟩ := uu_ob h
    refine (agf_wI (a := k1) (f := 8) (v := v18) (Or.inr (Or.inl (by rw [show k1 = k1 + 0 from rfl, rg_X3 (d := 0) hk1 (by decide)]; decide)))).tr ?_
    by_cases c20 : ((wI s k1 8 v18).I k1 8) < 0
    · replace h := uu_pos c20 h
      have hr := Option.some.inj h
      subst hr
      exact agf.rf
    · replace h := uu_neg c20 h
      by_cases c21 : ((wI s k1 8 v18).I k1 8) = 2
      · replace h := uu_pos c21 h
        obtain ⟨v22, e23, h⟩ := uu_ob h
        by_cases c24 : v22 = true
        · replace h := uu_pos c24 h
          have hr := Option.some.inj h
          subst hr
          exact agf.rf
        · replace h := uu_neg c24 h
          have hr := Option.some.inj h
          subst hr
          exact agf.rf
      · replace h := uu_neg c21 h
        have hr := Option.some.inj h
        subst hr
        exact agf.rf
  replace h := uu_neg c28_8 h
  by_cases c28_9 : x2 = 11
  · replace h := uu_pos c28_9 h
    obtain ⟨v26, e27, h⟩ := uu_ob h
    by_cases c28 : 0 ≤ v26
    · replace h := uu_pos c28 h
      exact zb_X4_isAskedFor_118  h
    · replace h := uu_neg c28 h
      exact zb_X4_isAskedFor_118  h
  replace h := uu_neg c28_9 h
  have hr := Option.some.inj h
  subst hr
  exact agf.rf
set_option maxRecDepth 100000 in
set_option maxHeartbeats 4000000 in
theorem zb_X4_takeString_94     {k2 : Nat} {x3 : Int32} {s : uS} {r : (uS × Int32)} (hk2 : uSo k2 3) (h : fb_X4_takeString_94   k2 x3 s = some r) : agf [(6, 5), (6, 8)] [] [4] [] s r.1 := by
  unfold fb_X4_takeString_94 at h
  obtain ⟨v1, e2, h⟩ := uu_ob h
  obtain ⟨s3, e4, h⟩ := uu_ob h
  refine (agf_iput e4 (Or.inr (Or.inl (by rw [rg_X3 (d := 2) hk2 (by decide)]; decide)))).tr ?_
  obtain ⟨r5, e6, h⟩ := uu_ob h
  refine ((zc_X4_pop  e6).mo (by decide) (by decide) (by decide) (fun _ h => nomatch h)).tr ?_
  have hr := Option.some.inj h
  subst hr
  exact agf.rf
set_option maxRecDepth 100000 in
set_option maxHeartbeats 4000000 in
theorem zc_X4_takeString   {x1 : Int32} {s : uS} {r : (uS × Int32)}  (h : fn_X4_takeString  x1 s = some r) : agf [(6, 5), (6, 8)] [] [4] [] s r.1 := by
  unfold fn_X4_takeString at h
  obtain ⟨j1, e2, h⟩ := uu_ob h
  obtain ⟨g3, h⟩ := uu_grd h
  by_cases c4 : (s.I 7 2) = 3
  · replace h := uu_pos c4 h
    by_cases c5 : ((s.I 8 3) - 1) < 0
    · replace h := uu_pos c5 h
      have hr := Option.some.inj h
      subst hr
      exact agf.rf
    · replace h := uu_neg c5 h
      by_cases c6 : (300 : Int32) ≤ ((s.I 8 3) - 1)
      · replace h := uu_pos c6 h
        have hr := Option.some.inj h
        subst hr
        exact agf.rf
      · replace h := uu_neg c6 h
        obtain ⟨v7, e8, h⟩ := uu_ob h
        by_cases c9 : v7 = 10
        · replace h := uu_pos c9 h
          have hr := Option.some.inj h
          subst hr
          exact agf.rf
        · replace h := uu_neg c9 h
          obtain ⟨r10, e11, h⟩ := uu_ob h
          refine ((zc_X4_isAskedFor g3 e11).mo (by decide) (by decide) (by decide) (fun _ h => nomatch h)).tr ?_
          by_cases c12 : r10.2 = true
          · replace h := uu_pos c12 h
            obtain ⟨v13, e14, h⟩ := uu_ob h
            by_cases c15 : v13 = 0
            · replace h := uu_pos c15 h
              obtain ⟨s16, e17, h⟩ := uu_ob h
              refine (agf_iput e17 (Or.inr (Or.inl (by rw [rg_X3 (d := 1) g3 (by decide)]; decide)))).tr ?_
              exact zb_X4_takeString_94 g3 h
            · replace h := uu_neg c15 h
              exact zb_X4_takeString_94 g3 h
          · replace h := uu_neg c12 h
            have hr := Option.some.inj h
            subst hr
            exact agf.rf
  · replace h := uu_neg c4 h
    have hr := Option.some.inj h
    subst hr
    exact agf.rf
set_option maxRecDepth 100000 in
set_option maxHeartbeats 4000000 in
theorem zb_X4_parse_425     {x4 : Int32} {s : uS} {r : (uS × Int32)}  (h : fb_X4_parse_425   x4 s = some r) : agf [(6, 2), (6, 5), (6, 6), (6, 7), (6, 8), (7, 1), (7, 2), (7, 3), (7, 4), (7, 5), (7, 6), (7, 7), (7, 8)] [14, 15] [4] [11, 10, 8, 9] s r.1 := by
  unfold fb_X4_parse_425 at h
  by_cases c1 : x4 = 3
  · replace h := uu_pos c1 h
    have hr := Option.some.inj h
    subst hr
    exact agf.rf
  · replace h := uu_neg c1 h
    obtain ⟨v2, e3, h⟩ := uu_ob h
    have hr := Option.some.inj h
    subst hr
    exact agf.rf
set_option maxRecDepth 100000 in
set_option maxHeartbeats 4000000 in
theorem zb_X4_parse_84      {s : uS} {r : (uS × Int32)}  (h : fb_X4_parse_84    s = some r) : agf [(6, 2), (6, 5), (6, 6), (6, 7), (6, 8), (7, 1), (7, 2), (7, 3), (7, 4), (7, 5), (7, 6), (7, 7), (7, 8)] [14, 15] [4] [11, 10, 8, 9] s r.1 := by
  unfold fb_X4_parse_84 at h
  obtain ⟨v1, e2, h⟩ := uu_ob h
  have hr := Option.some.inj h
  subst hr
  exact agf.rf
set_option maxRecDepth 100000 in
set_option maxHeartbeats 4000000 in
theorem zb_X4_parse_46  {K13 : Int32 → Int32 → uS → Option (uS × Int32)}  (hK13 : ∀ (x4 : Int32) (x5 : Int32)  (s : uS) (r : (uS × Int32)), K13 x4 x5 s = some r → agf [(6, 2), (6, 5), (6, 6), (6, 7), (6, 8), (7, 1), (7, 2), (7, 3), (7, 4), (7, 5), (7, 6), (7, 7), (7, 8)] [14, 15] [4] [11, 10, 8, 9] s r.1) {x5 : Int32} {s : uS} {r : (uS × Int32)}  (h : fb_X4_parse_46  K13 x5 s = some r) : agf [(6, 2), (6, 5), (6, 6), (6, 7), (6, 8), (7, 1), (7, 2), (7, 3), (7, 4), (7, 5), (7, 6), (7, 7), (7, 8)] [14, 15] [4] [11, 10, 8, 9] s r.1 := by
  unfold fb_X4_parse_46 at h
  by_cases c1 : (s.I 7 2) = 6
  · replace h := uu_pos c1 h
    exact zb_X4_parse_84  h
  · replace h := uu_neg c1 h
    by_cases c2 : (s.I 6 5) = 0
    · replace h := uu_pos c2 h
      exact zb_X4_parse_84  h
    · replace h := uu_neg c2 h
      by_cases c3 : (116 : Int32) < (s.I 6 5)
      · replace h := uu_pos c3 h
        exact zb_X4_parse_84  h
      · replace h := uu_neg c3 h
        by_cases c4 : (s.I 6 2) < 320
        · replace h := uu_pos c4 h
          obtain ⟨v5, e6, h⟩ := uu_ob h
          obtain ⟨v7, e8, h⟩ := uu_ob h
          by_cases c116_0 : v7 = 0
          · replace h := uu_pos c116_0 h
            obtain ⟨r9, e10, h⟩ := uu_ob h
            refine ((zc_X4_require  e10).mo (by decide) (by decide) (by decide) (fun _ h => nomatch h)).tr ?_
            exact hK13 r9.2 (x5 + 1) _ _ h
          replace h := uu_neg c116_0 h
          by_cases c116_1 : v7 = 1
          · replace h := uu_pos c116_1 h
            by_cases c11 : (s.I 7 2) = 5
            · replace h := uu_pos c11 h
              exact hK13 3 (x5 + 1) _ _ h
            · replace h := uu_neg c11 h
              obtain ⟨r12, e13, h⟩ := uu_ob h
              refine ((zc_X4_startCommand  e13).mo (by decide) (by decide) (by decide) (fun _ h => nomatch h)).tr ?_
              exact hK13 r12.2 (x5 + 1) _ _ h
          replace h := uu_neg c116_1 h
          by_cases c116_2 : v7 = 2
          · replace h := uu_pos c116_2 h
            obtain ⟨r14, e15, h⟩ := uu_ob h
            refine ((zc_X4_openBlock  e15).mo (by decide) (by decide) (by decide) (fun _ h => nomatch h)).tr ?_
            exact hK13 r14.2 (x5 + 1) _ _ h
          replace h := uu_neg c116_2 h
          by_cases c116_3 : v7 = 3
          · replace h := uu_pos c116_3 h
            obtain ⟨v16, e17, h⟩ := uu_ob h
            by_cases c18 : v16 = true
            · replace h := uu_pos c18 h
              obtain ⟨r19, e20, h⟩ := uu_ob h
              refine ((zc_X4_closeBlock  e20).mo (by decide) (by decide) (by decide) (fun _ h => nomatch h)).tr ?_
              exact hK13 r19.2 (x5 + 1) _ _ h
            · replace h := uu_neg c18 h
              obtain ⟨r21, e22, h⟩ := uu_ob h
              refine ((zc_X4_startCommand  e22).mo (by decide) (by decide) (by decide) (fun _ h => nomatch h)).tr ?_
              exact hK13 r21.2 (x5 + 1) _ _ h
          replace h := uu_neg c116_3 h
          by_cases c116_4 : v7 = 4
          · replace h := uu_pos c116_4 h
            obtain ⟨r23, e24, h⟩ := uu_ob h
            refine ((zc_X4_startElse  e24).mo (by decide) (by decide) (by decide) (fun _ h => nomatch h)).tr ?_
            exact hK13 r23.2 (x5 + 1) _ _ h
          replace h := uu_neg c116_4 h
          by_cases c116_5 : v7 = 5
          · replace h := uu_pos c116_5 h
            obtain ⟨r25, e26, h⟩ := uu_ob h
            refine ((zc_X4_startTest  e26).mo (by decide) (by decide) (by decide) (fun _ h => nomatch h)).tr ?_
            exact hK13 r25.2 (x5 + 1) _ _ h
          replace h := uu_neg c116_5 h
          by_cases c116_6 : v7 = 6
          · replace h := uu_pos c116_6 h
            obtain ⟨r27, e28, h⟩ := uu_ob h
            refine ((zc_X4_moreTests  e28).mo (by decide) (by decide) (by decide) (fun _ h => nomatch h)).tr ?_
            exact hK13 r27.2 (x5 + 1) _ _ h
          replace h := uu_neg c116_6 h
          by_cases c116_7 : v7 = 7
          · replace h := uu_pos c116_7 h
            obtain ⟨r29, e30, h⟩ := uu_ob h
            refine ((zc_X4_endTest  e30).mo (by decide) (by decide) (by decide) (fun _ h => nomatch h)).tr ?_
            exact hK13 r29.2 (x5 + 1) _ _ h
          replace h := uu_neg c116_7 h
          by_cases c116_8 : v7 = 8
          · replace h := uu_pos c116_8 h
            by_cases c31 : (s.I 7 2) = 1
            · replace h := uu_pos c31 h
              obtain ⟨r32, e33, h⟩ := uu_ob h
              refine ((zc_X4_takeTag  e33).mo (by decide) (by decide) (by decide) (fun _ h => nomatch h)).tr ?_
              exact hK13 r32.2 (x5 + 1) _ _ h
            · replace h := uu_neg c31 h
              obtain ⟨r34, e35, h⟩ := uu_ob h
              refine ((zc_X4_pop  e35).mo (by decide) (by decide) (by decide) (fun _ h => nomatch h)).tr ?_
              exact hK13 r34.2 (x5 + 1) _ _ h
          replace h := uu_neg c116_8 h
          by_cases c116_9 : v7 = 9
          · replace h := uu_pos c116_9 h
            obtain ⟨r36, e37, h⟩ := uu_ob h
            refine ((zc_X4_takeNumber  e37).mo (by decide) (by decide) (by decide) (fun _ h => nomatch h)).tr ?_
            exact hK13 r36.2 (x5 + 1) _ _ h
          replace h := uu_neg c116_9 h
          by_cases c116_10 : v7 = 10
          · replace h := uu_pos c116_10 h
            obtain ⟨r38, e39, h⟩ := uu_ob h
            refine ((zc_X4_takeString  e39).mo (by decide) (by decide) (by decide) (fun _ h => nomatch h)).tr ?_
            exact hK13 r38.2 (x5 + 1) _ _ h
          replace h := uu_neg c116_10 h
          by_cases c116_11 : v7 = 11
          · replace h := uu_pos c116_11 h
            obtain ⟨v40, e41, h⟩ := uu_ob h
            by_cases c42 : v40 = true
            · replace h := uu_pos c42 h
              obtain ⟨r43, e44, h⟩ := uu_ob h
              refine ((zc_X4_openList  e44).mo (by decide) (by decide) (by decide) (fun _ h => nomatch h)).tr ?_
              exact hK13 r43.2 (x5 + 1) _ _ h
            · replace h := uu_neg c42 h
              obtain ⟨r45, e46, h⟩ := uu_ob h
              refine ((zc_X4_takeString  e46).mo (by decide) (by decide) (by decide) (fun _ h => nomatch h)).tr ?_
              exact hK13 r45.2 (x5 + 1) _ _ h
          replace h := uu_neg c116_11 h
          by_cases c116_12 : v7 = 12
          · replace h := uu_pos c116_12 h
            obtain ⟨r47, e48, h⟩ := uu_ob h
            refine ((zc_X4_moreStrings  e48).mo (by decide) (by decide) (by decide) (fun _ h => nomatch h)).tr ?_
            exact hK13 r47.2 (x5 + 1) _ _ h
          replace h := uu_neg c116_12 h
          obtain ⟨v49, e50, h⟩ := uu_ob h
          by_cases c51 : v49 = true
          · replace h := uu_pos c51 h
            obtain ⟨r52, e53, h⟩ := uu_ob h
            refine ((zc_X4_pop  e53).mo (by decide) (by decide) (by decide) (fun _ h => nomatch h)).tr ?_
            exact hK13 r52.2 (x5 + 1) _ _ h
          · replace h := uu_neg c51 h
            exact hK13 0 (x5 + 1) _ _ h
        · replace h := uu_neg c4 h
          exact zb_X4_parse_84  h
set_option maxRecDepth 100000 in
set_option maxHeartbeats 4000000 in
theorem zb_X4_parse_33  {K13 : Int32 → Int32 → uS → Option (uS × Int32)}  (hK13 : ∀ (x4 : Int32) (x5 : Int32)  (s : uS) (r : (uS × Int32)), K13 x4 x5 s = some r → agf [(6, 2), (6, 5), (6, 6), (6, 7), (6, 8), (7, 1), (7, 2), (7, 3), (7, 4), (7, 5), (7, 6), (7, 7), (7, 8)] [14, 15] [4] [11, 10, 8, 9] s r.1) {x4 : Int32} {x5 : Int32} {s : uS} {r : (uS × Int32)}  (h : fb_X4_parse_33  K13 x4 x5 s = some r) : agf [(6, 2), (6, 5), (6, 6), (6, 7), (6, 8), (7, 1), (7, 2), (7, 3), (7, 4), (7, 5), (7, 6), (7, 7), (7, 8)] [14, 15] [4] [11, 10, 8, 9] s r.1 := by
  unfold fb_X4_parse_33 at h
  by_cases c1 : x4 = 1
  · replace h := uu_pos c1 h
    obtain ⟨s2, e3, h⟩ := uu_ob h
    refine ((zc_X2_next  e3).mo (by decide) (by decide) (by decide) (List.forall_mem_cons.mpr ⟨(Or.inr (List.mem_of_getElem? (i := 3) rfl)), List.forall_mem_cons.mpr ⟨(Or.inr (List.mem_of_getElem? (i := 2) rfl)), List.forall_mem_cons.mpr ⟨(Or.inr (List.mem_of_getElem? (i := 1) rfl)), List.forall_mem_cons.mpr ⟨(Or.inr (List.mem_of_getElem? (i := 0) rfl)), fun _ h => nomatch h⟩⟩⟩⟩)).tr ?_
    exact zb_X4_parse_46 hK13 h
  · replace h := uu_neg c1 h
    exact zb_X4_parse_46 hK13 h
set_option maxRecDepth 100000 in
set_option maxHeartbeats 4000000 in
theorem zb_X4_parse_13  {K13 : Int32 → Int32 → uS → Option (uS × Int32)}  (hK13 : ∀ (x4 : Int32) (x5 : Int32)  (s : uS) (r : (uS × Int32)), K13 x4 x5 s = some r → agf [(6, 2), (6, 5), (6, 6), (6, 7), (6, 8), (7, 1), (7, 2), (7, 3), (7, 4), (7, 5), (7, 6), (7, 7), (7, 8)] [14, 15] [4] [11, 10, 8, 9] s r.1) {x4 : Int32} {x5 : Int32} {s : uS} {r : (uS × Int32)}  (h : fb_X4_parse_13  K13 x4 x5 s = some r) : agf [(6, 2), (6, 5), (6, 6), (6, 7), (6, 8), (7, 1), (7, 2), (7, 3), (7, 4), (7, 5), (7, 6), (7, 7), (7, 8)] [14, 15] [4] [11, 10, 8, 9] s r.1 := by
  unfold fb_X4_parse_13 at h
  by_cases c1 : (20000 : Int32) ≤ x5
  · replace h := uu_pos c1 h
    exact zb_X4_parse_425  h
  · replace h := uu_neg c1 h
    by_cases c2 : x4 = 2
    · replace h := uu_pos c2 h
      exact zb_X4_parse_33 hK13 h
    · replace h := uu_neg c2 h
      by_cases c3 : x4 = 1
      · replace h := uu_pos c3 h
        exact zb_X4_parse_33 hK13 h
      · replace h := uu_neg c3 h
        exact zb_X4_parse_425  h
set_option maxRecDepth 100000 in
set_option maxHeartbeats 4000000 in
theorem zn_X4_parse_13     : ∀ (n : Nat) (x4 : Int32) (x5 : Int32)  (s : uS) (r : (uS × Int32)), fn_X4_parse_13   n x4 x5 s = some r → agf [(6, 2), (6, 5), (6, 6), (6, 7), (6, 8), (7, 1), (7, 2), (7, 3), (7, 4), (7, 5), (7, 6), (7, 7), (7, 8)] [14, 15] [4] [11, 10, 8, 9] s r.1 := by
  intro n
  induction n with
  | zero => intro x4 x5  s r h
            cases h
  | succ n ih => intro x4 x5  s r h
                 exact zb_X4_parse_13  ih  h
set_option maxRecDepth 100000 in
set_option maxHeartbeats 4000000 in
theorem zc_X4_parse   {k1 : Nat} {x2 : Int32} {x3 : Int32} {s : uS} {r : (uS × Int32)}  (h : fn_X4_parse  k1 x2 x3 s = some r) : agf [(6, 2), (6, 5), (6, 6), (6, 7), (6, 8), (7, 1), (7, 2), (7, 3), (7, 4), (7, 5), (7, 6), (7, 7), (7, 8)] [14, 15] [4] [11, 10, 8, 9] s r.1 := by
  unfold fn_X4_parse at h
  obtain ⟨s1, e2, h⟩ := uu_ob h
  refine ((zc_X4_open  e2).mo (by decide) (by decide) (by decide) (List.forall_mem_cons.mpr ⟨(Or.inr (List.mem_of_getElem? (i := 2) rfl)), fun _ h => nomatch h⟩)).tr ?_
  exact zn_X4_parse_13  _ _ _ _ _ h
set_option maxRecDepth 100000 in
set_option maxHeartbeats 4000000 in
theorem zb_X6_valueStart_155     {x1 : Int32} {x4 : Int32} {x5 : Int32} {s : uS} {r : (uS × Int32)}  (h : fb_X6_valueStart_155   x1 x4 x5 s = some r) : agf [] [] [] [1058, 1061, 1060, 1054, 1055, 1057, 1056] s r.1 := by
  unfold fb_X6_valueStart_155 at h
  obtain ⟨s1, e2, h⟩ := uu_ob h
  refine ((zc_X9_putRange so_1054 e2).mo (by decide) (by decide) (by decide) (List.forall_mem_cons.mpr ⟨(Or.inr (List.mem_of_getElem? (i := 4) rfl)), List.forall_mem_cons.mpr ⟨(Or.inr (List.mem_of_getElem? (i := 3) rfl)), fun _ h => nomatch h⟩⟩)).tr ?_
  obtain ⟨s3, e4, h⟩ := uu_ob h
  refine ((zc_X9_close so_1054 e4).mo (by decide) (by decide) (by decide) (List.forall_mem_cons.mpr ⟨(Or.inr (List.mem_of_getElem? (i := 3) rfl)), List.forall_mem_cons.mpr ⟨(Or.inr (List.mem_of_getElem? (i := 6) rfl)), List.forall_mem_cons.mpr ⟨(Or.inr (List.mem_of_getElem? (i := 5) rfl)), fun _ h => nomatch h⟩⟩⟩)).tr ?_
  have hr := Option.some.inj h
  subst hr
  exact agf.rf
set_option maxRecDepth 100000 in
set_option maxHeartbeats 4000000 in
theorem zb_X6_valueStart_106     {x1 : Int32} {x2 : Int32} {x4 : Int32} {x5 : Int32} {s : uS} {r : (uS × Int32)}  (h : fb_X6_valueStart_106   x1 x2 x4 x5 s = some r) : agf [] [] [] [1058, 1061, 1060, 1054, 1055, 1057, 1056] s r.1 := by
  unfold fb_X6_valueStart_106 at h
  by_cases c1 : x4 = x1
  · replace h := uu_pos c1 h
    have hr := Option.some.inj h
    subst hr
    exact agf.rf
  · replace h := uu_neg c1 h
    by_cases c2 : (60 : Int32) < (x4 - x1)
    · replace h := uu_pos c2 h
      have hr := Option.some.inj h
      subst hr
      exact agf.rf
    · replace h := uu_neg c2 h
      by_cases c3 : x2 ≤ x5
      · replace h := uu_pos c3 h
        have hr := Option.some.inj h
        subst hr
        exact agf.rf
      · replace h := uu_neg c3 h
        obtain ⟨v4, e5, h⟩ := uu_ob h
        by_cases c6 : v4 = 58
        · replace h := uu_pos c6 h
          by_cases c7 : (s.I 1054 3) ≤ 0
          · replace h := uu_pos c7 h
            exact zb_X6_valueStart_155  h
          · replace h := uu_neg c7 h
            obtain ⟨s8, e9, h⟩ := uu_ob h
            refine ((zc_X9_closeTrimmed so_1058 e9).mo (by decide) (by decide) (by decide) (List.forall_mem_cons.mpr ⟨(Or.inr (List.mem_of_getElem? (i := 2) rfl)), List.forall_mem_cons.mpr ⟨(Or.inr (List.mem_of_getElem? (i := 1) rfl)), List.forall_mem_cons.mpr ⟨(Or.inr (List.mem_of_getElem? (i := 0) rfl)), fun _ h => nomatch h⟩⟩⟩)).tr ?_
            exact zb_X6_valueStart_155  h
        · replace h := uu_neg c6 h
          have hr := Option.some.inj h
          subst hr
          exact agf.rf
set_option maxRecDepth 100000 in
set_option maxHeartbeats 4000000 in
theorem zb_X6_valueStart_84  {K84 : Int32 → Int32 → Int32 → Int32 → uS → Option (uS × Int32)}  (hK84 : ∀ (x1 : Int32) (x2 : Int32) (x4 : Int32) (x5 : Int32)  (s : uS) (r : (uS × Int32)), K84 x1 x2 x4 x5 s = some r → agf [] [] [] [1058, 1061, 1060, 1054, 1055, 1057, 1056] s r.1) {x1 : Int32} {x2 : Int32} {x4 : Int32} {x5 : Int32} {s : uS} {r : (uS × Int32)}  (h : fb_X6_valueStart_84  K84 x1 x2 x4 x5 s = some r) : agf [] [] [] [1058, 1061, 1060, 1054, 1055, 1057, 1056] s r.1 := by
  unfold fb_X6_valueStart_84 at h
  by_cases c1 : x2 ≤ x5
  · replace h := uu_pos c1 h
    exact zb_X6_valueStart_106  h
  · replace h := uu_neg c1 h
    obtain ⟨v2, e3, h⟩ := uu_ob h
    obtain ⟨v4, e5, h⟩ := uu_ob h
    by_cases c6 : v4 = true
    · replace h := uu_pos c6 h
      exact hK84 x1 x2 x4 (x5 + 1) _ _ h
    · replace h := uu_neg c6 h
      exact zb_X6_valueStart_106  h
set_option maxRecDepth 100000 in
set_option maxHeartbeats 4000000 in
theorem zn_X6_valueStart_84     : ∀ (n : Nat) (x1 : Int32) (x2 : Int32) (x4 : Int32) (x5 : Int32)  (s : uS) (r : (uS × Int32)), fn_X6_valueStart_84   n x1 x2 x4 x5 s = some r → agf [] [] [] [1058, 1061, 1060, 1054, 1055, 1057, 1056] s r.1 := by
  intro n
  induction n with
  | zero => intro x1 x2 x4 x5  s r h
            cases h
  | succ n ih => intro x1 x2 x4 x5  s r h
                 exact zb_X6_valueStart_84  ih  h
set_option maxRecDepth 100000 in
set_option maxHeartbeats 4000000 in
theorem zb_X6_valueStart_41  {K41 : Int32 → Int32 → Int32 → uS → Option (uS × Int32)}  (hK41 : ∀ (x1 : Int32) (x2 : Int32) (x4 : Int32)  (s : uS) (r : (uS × Int32)), K41 x1 x2 x4 s = some r → agf [] [] [] [1058, 1061, 1060, 1054, 1055, 1057, 1056] s r.1) {x1 : Int32} {x2 : Int32} {x4 : Int32} {s : uS} {r : (uS × Int32)}  (h : fb_X6_valueStart_41  K41 x1 x2 x4 s = some r) : agf [] [] [] [1058, 1061, 1060, 1054, 1055, 1057, 1056] s r.1 := by
  unfold fb_X6_valueStart_41 at h
  by_cases c1 : x2 ≤ x4
  · replace h := uu_pos c1 h
    exact zn_X6_valueStart_84  _ _ _ _ _ _ _ h
  · replace h := uu_neg c1 h
    obtain ⟨v2, e3, h⟩ := uu_ob h
    by_cases c4 : v2 ≤ 32
    · replace h := uu_pos c4 h
      exact zn_X6_valueStart_84  _ _ _ _ _ _ _ h
    · replace h := uu_neg c4 h
      obtain ⟨v5, e6, h⟩ := uu_ob h
      by_cases c7 : (127 : Int32) ≤ v5
      · replace h := uu_pos c7 h
        exact zn_X6_valueStart_84  _ _ _ _ _ _ _ h
      · replace h := uu_neg c7 h
        obtain ⟨v8, e9, h⟩ := uu_ob h
        by_cases c10 : v8 = 58
        · replace h := uu_pos c10 h
          exact zn_X6_valueStart_84  _ _ _ _ _ _ _ h
        · replace h := uu_neg c10 h
          exact hK41 x1 x2 (x4 + 1) _ _ h
set_option maxRecDepth 100000 in
set_option maxHeartbeats 4000000 in
theorem zn_X6_valueStart_41     : ∀ (n : Nat) (x1 : Int32) (x2 : Int32) (x4 : Int32)  (s : uS) (r : (uS × Int32)), fn_X6_valueStart_41   n x1 x2 x4 s = some r → agf [] [] [] [1058, 1061, 1060, 1054, 1055, 1057, 1056] s r.1 := by
  intro n
  induction n with
  | zero => intro x1 x2 x4  s r h
            cases h
  | succ n ih => intro x1 x2 x4  s r h
                 exact zb_X6_valueStart_41  ih  h
set_option maxRecDepth 100000 in
set_option maxHeartbeats 4000000 in
theorem zc_X6_valueStart   {x1 : Int32} {x2 : Int32} {s : uS} {r : (uS × Int32)}  (h : fn_X6_valueStart  x1 x2 s = some r) : agf [] [] [] [1058, 1061, 1060, 1054, 1055, 1057, 1056] s r.1 := by
  unfold fn_X6_valueStart at h
  by_cases c1 : x2 ≤ x1
  · replace h := uu_pos c1 h
    exact zn_X6_valueStart_41  _ _ _ _ _ _ h
  · replace h := uu_neg c1 h
    obtain ⟨v2, e3, h⟩ := uu_ob h
    obtain ⟨v4, e5, h⟩ := uu_ob h
    by_cases c6 : v4 = true
    · replace h := uu_pos c6 h
      by_cases c7 : (s.I 1054 3) ≤ 0
      · replace h := uu_pos c7 h
        have hr := Option.some.inj h
        subst hr
        exact agf.rf
      · replace h := uu_neg c7 h
        have hr := Option.some.inj h
        subst hr
        exact agf.rf
    · replace h := uu_neg c6 h
      exact zn_X6_valueStart_41  _ _ _ _ _ _ h
set_option maxRecDepth 100000 in
set_option maxHeartbeats 4000000 in
theorem zb_X6_readHeader_90      {s : uS} {r : uS}  (h : fb_X6_readHeader_90    s = some r) : agf [] [] [] [1056, 1057, 1055, 1054, 1060, 1061, 1058, 1059] s r := by
  unfold fb_X6_readHeader_90 at h
  by_cases c1 : (s.I 1054 3) ≤ 0
  · replace h := uu_pos c1 h
    have hr := Option.some.inj h
    subst hr
    exact agf.rf
  · replace h := uu_neg c1 h
    obtain ⟨s2, e3, h⟩ := uu_ob h
    refine ((zc_X9_closeTrimmed so_1058 e3).mo (by decide) (by decide) (by decide) (List.forall_mem_cons.mpr ⟨(Or.inr (List.mem_of_getElem? (i := 4) rfl)), List.forall_mem_cons.mpr ⟨(Or.inr (List.mem_of_getElem? (i := 5) rfl)), List.forall_mem_cons.mpr ⟨(Or.inr (List.mem_of_getElem? (i := 6) rfl)), fun _ h => nomatch h⟩⟩⟩)).tr ?_
    have hr := Option.some.inj h
    subst hr
    exact agf.rf
set_option maxRecDepth 100000 in
set_option maxHeartbeats 4000000 in
theorem zb_X6_readHeader_38  {K38 : Int32 → Int32 → uS → Option uS}  (hK38 : ∀ (x1 : Int32) (x2 : Int32)  (s : uS) (r : uS), K38 x1 x2 s = some r → agf [] [] [] [1056, 1057, 1055, 1054, 1060, 1061, 1058, 1059] s r) {x1 : Int32} {x2 : Int32} {s : uS} {r : uS}  (h : fb_X6_readHeader_38  K38 x1 x2 s = some r) : agf [] [] [] [1056, 1057, 1055, 1054, 1060, 1061, 1058, 1059] s r := by
  unfold fb_X6_readHeader_38 at h
  by_cases c1 : x1 ≤ x2
  · replace h := uu_pos c1 h
    exact zb_X6_readHeader_90  h
  · replace h := uu_neg c1 h
    obtain ⟨v2, e3, h⟩ := uu_ob h
    obtain ⟨r4, e5, h⟩ := uu_ob h
    refine ((zc_X6_valueStart  e5).mo (by decide) (by decide) (by decide) (List.forall_mem_cons.mpr ⟨(Or.inr (List.mem_of_getElem? (i := 6) rfl)), List.forall_mem_cons.mpr ⟨(Or.inr (List.mem_of_getElem? (i := 5) rfl)), List.forall_mem_cons.mpr ⟨(Or.inr (List.mem_of_getElem? (i := 4) rfl)), List.forall_mem_cons.mpr ⟨(Or.inr (List.mem_of_getElem? (i := 3) rfl)), List.forall_mem_cons.mpr ⟨(Or.inr (List.mem_of_getElem? (i := 2) rfl)), List.forall_mem_cons.mpr ⟨(Or.inr (List.mem_of_getElem? (i := 1) rfl)), List.forall_mem_cons.mpr ⟨(Or.inr (List.mem_of_getElem? (i := 0) rfl)), fun _ h => nomatch h⟩⟩⟩⟩⟩⟩⟩)).tr ?_
    by_cases c6 : 0 ≤ r4.2
    · replace h := uu_pos c6 h
      obtain ⟨s7, e8, h⟩ := uu_ob h
      refine ((zc_X9_putRange so_1058 e8).mo (by decide) (by decide) (by decide) (List.forall_mem_cons.mpr ⟨(Or.inr (List.mem_of_getElem? (i := 7) rfl)), List.forall_mem_cons.mpr ⟨(Or.inr (List.mem_of_getElem? (i := 6) rfl)), fun _ h => nomatch h⟩⟩)).tr ?_
      exact hK38 x1 (v2 + 2) _ _ h
    · replace h := uu_neg c6 h
      exact zb_X6_readHeader_90  h
set_option maxRecDepth 100000 in
set_option maxHeartbeats 4000000 in
theorem zn_X6_readHeader_38     : ∀ (n : Nat) (x1 : Int32) (x2 : Int32)  (s : uS) (r : uS), fn_X6_readHeader_38   n x1 x2 s = some r → agf [] [] [] [1056, 1057, 1055, 1054, 1060, 1061, 1058, 1059] s r := by
  intro n
  induction n with
  | zero => intro x1 x2  s r h
            cases h
  | succ n ih => intro x1 x2  s r h
                 exact zb_X6_readHeader_38  ih  h
set_option maxRecDepth 100000 in
set_option maxHeartbeats 4000000 in
theorem zc_X6_readHeader    {s : uS} {r : uS}  (h : fn_X6_readHeader   s = some r) : agf [] [] [] [1056, 1057, 1055, 1054, 1060, 1061, 1058, 1059] s r := by
  unfold fn_X6_readHeader at h
  obtain ⟨s1, e2, h⟩ := uu_ob h
  refine ((zc_X9_clear so_1054 e2).mo (by decide) (by decide) (by decide) (List.forall_mem_cons.mpr ⟨(Or.inr (List.mem_of_getElem? (i := 3) rfl)), fun _ h => nomatch h⟩)).tr ?_
  obtain ⟨s3, e4, h⟩ := uu_ob h
  refine ((zc_X9_clear so_1058 e4).mo (by decide) (by decide) (by decide) (List.forall_mem_cons.mpr ⟨(Or.inr (List.mem_of_getElem? (i := 6) rfl)), fun _ h => nomatch h⟩)).tr ?_
  obtain ⟨v5, e6, h⟩ := uu_ob h
  by_cases c7 : v5 = true
  · replace h := uu_pos c7 h
    exact zn_X6_readHeader_38  _ _ _ _ _ h
  · replace h := uu_neg c7 h
    exact zn_X6_readHeader_38  _ _ _ _ _ h
set_option maxRecDepth 100000 in
set_option maxHeartbeats 4000000 in
theorem zb_X6_findAddresses_140  {K32 : Int32 → Int32 → Int32 → Bool → Bool → Int32 → uS → Option uS}  (hK32 : ∀ (x2 : Int32) (x3 : Int32) (x4 : Int32) (b5 : Bool) (b6 : Bool) (x7 : Int32)  (s : uS) (r : uS), K32 x2 x3 x4 b5 b6 x7 s = some r → agf [] [] [] [1065, 1064, 1062, 1063] s r) {x2 : Int32} {x4 : Int32} {b5 : Bool} {b6 : Bool} {x7 : Int32} {s : uS} {r : uS}  (h : fb_X6_findAddresses_140  K32 x2 x4 b5 b6 x7 s = some r) : agf [] [] [] [1065, 1064, 1062, 1063] s r := by
  unfold fb_X6_findAddresses_140 at h
  obtain ⟨s1, e2, h⟩ := uu_ob h
  refine ((zc_X9_drop so_1062 e2).mo (by decide) (by decide) (by decide) (List.forall_mem_cons.mpr ⟨(Or.inr (List.mem_of_getElem? (i := 2) rfl)), fun _ h => nomatch h⟩)).tr ?_
  exact hK32 x2 0 x4 b5 b6 (x7 + 1) _ _ h
set_option maxRecDepth 100000 in
set_option maxHeartbeats 4000000 in
theorem zb_X6_findAddresses_101  {K32 : Int32 → Int32 → Int32 → Bool → Bool → Int32 → uS → Option uS}  (hK32 : ∀ (x2 : Int32) (x3 : Int32) (x4 : Int32) (b5 : Bool) (b6 : Bool) (x7 : Int32)  (s : uS) (r : uS), K32 x2 x3 x4 b5 b6 x7 s = some r → agf [] [] [] [1065, 1064, 1062, 1063] s r) {x2 : Int32} {x3 : Int32} {x4 : Int32} {b5 : Bool} {b6 : Bool} {x7 : Int32} {s : uS} {r : uS}  (h : fb_X6_findAddresses_101  K32 x2 x3 x4 b5 b6 x7 s = some r) : agf [] [] [] [1065, 1064, 1062, 1063] s r := by
  unfold fb_X6_findAddresses_101 at h
  by_cases c1 : x3 = 1
  · replace h := uu_pos c1 h
    exact zb_X6_findAddresses_140 hK32 h
  · replace h := uu_neg c1 h
    obtain ⟨v2, e3, h⟩ := uu_ob h
    by_cases c4 : v2 = true
    · replace h := uu_pos c4 h
      obtain ⟨s5, e6, h⟩ := uu_ob h
      refine ((zc_X9_close so_1062 e6).mo (by decide) (by decide) (by decide) (List.forall_mem_cons.mpr ⟨(Or.inr (List.mem_of_getElem? (i := 2) rfl)), List.forall_mem_cons.mpr ⟨(Or.inr (List.mem_of_getElem? (i := 1) rfl)), List.forall_mem_cons.mpr ⟨(Or.inr (List.mem_of_getElem? (i := 0) rfl)), fun _ h => nomatch h⟩⟩⟩)).tr ?_
      exact zb_X6_findAddresses_140 hK32 h
    · replace h := uu_neg c4 h
      exact zb_X6_findAddresses_140 hK32 h
set_option maxRecDepth 100000 in
set_option maxHeartbeats 4000000 in
theorem zb_X6_findAddresses_169  {K32 : Int32 → Int32 → Int32 → Bool → Bool → Int32 → uS → Option uS}  (hK32 : ∀ (x2 : Int32) (x3 : Int32) (x4 : Int32) (b5 : Bool) (b6 : Bool) (x7 : Int32)  (s : uS) (r : uS), K32 x2 x3 x4 b5 b6 x7 s = some r → agf [] [] [] [1065, 1064, 1062, 1063] s r) {x2 : Int32} {x3 : Int32} {x4 : Int32} {b5 : Bool} {b6 : Bool} {x7 : Int32} {s : uS} {r : uS}  (h : fb_X6_findAddresses_169  K32 x2 x3 x4 b5 b6 x7 s = some r) : agf [] [] [] [1065, 1064, 1062, 1063] s r := by
  unfold fb_X6_findAddresses_169 at h
  by_cases c1 : b6 = true
  · replace h := uu_pos c1 h
    exact hK32 x2 x3 x4 b5 false (x7 + 1) _ _ h
  · replace h := uu_neg c1 h
    exact hK32 x2 x3 x4 b5 true (x7 + 1) _ _ h
set_option maxRecDepth 100000 in
set_option maxHeartbeats 4000000 in
theorem zb_X6_findAddresses_225  {K32 : Int32 → Int32 → Int32 → Bool → Bool → Int32 → uS → Option uS}  (hK32 : ∀ (x2 : Int32) (x3 : Int32) (x4 : Int32) (b5 : Bool) (b6 : Bool) (x7 : Int32)  (s : uS) (r : uS), K32 x2 x3 x4 b5 b6 x7 s = some r → agf [] [] [] [1065, 1064, 1062, 1063] s r) {x2 : Int32} {x3 : Int32} {x4 : Int32} {b5 : Bool} {b6 : Bool} {x7 : Int32} {x8 : Int32} {s : uS} {r : uS}  (h : fb_X6_findAddresses_225  K32 x2 x3 x4 b5 b6 x7 x8 s = some r) : agf [] [] [] [1065, 1064, 1062, 1063] s r := by
  unfold fb_X6_findAddresses_225 at h
  by_cases c1 : x8 = 40
  · replace h := uu_pos c1 h
    exact hK32 x2 x3 (x4 + 1) b5 b6 (x7 + 1) _ _ h
  · replace h := uu_neg c1 h
    exact hK32 x2 x3 (x4 + (-1)) b5 b6 (x7 + 1) _ _ h
set_option maxRecDepth 100000 in
set_option maxHeartbeats 4000000 in
theorem zb_X6_findAddresses_319  {K32 : Int32 → Int32 → Int32 → Bool → Bool → Int32 → uS → Option uS}  (hK32 : ∀ (x2 : Int32) (x3 : Int32) (x4 : Int32) (b5 : Bool) (b6 : Bool) (x7 : Int32)  (s : uS) (r : uS), K32 x2 x3 x4 b5 b6 x7 s = some r → agf [] [] [] [1065, 1064, 1062, 1063] s r) {x2 : Int32} {x3 : Int32} {x4 : Int32} {b6 : Bool} {x7 : Int32} {x8 : Int32} {bs0 : Bool} {s : uS} {r : uS}  (h : fb_X6_findAddresses_319  K32 x2 x3 x4 b6 x7 x8 bs0 s = some r) : agf [] [] [] [1065, 1064, 1062, 1063] s r := by
  unfold fb_X6_findAddresses_319 at h
  by_cases c1 : x3 = 2
  · replace h := uu_pos c1 h
    exact hK32 x2 x3 x4 bs0 b6 (x7 + 1) _ _ h
  · replace h := uu_neg c1 h
    obtain ⟨s2, e3, h⟩ := uu_ob h
    refine ((zc_X9_put so_1062 e3).mo (by decide) (by decide) (by decide) (List.forall_mem_cons.mpr ⟨(Or.inr (List.mem_of_getElem? (i := 3) rfl)), List.forall_mem_cons.mpr ⟨(Or.inr (List.mem_of_getElem? (i := 2) rfl)), fun _ h => nomatch h⟩⟩)).tr ?_
    exact hK32 x2 x3 x4 bs0 b6 (x7 + 1) _ _ h
set_option maxRecDepth 100000 in
set_option maxHeartbeats 4000000 in
theorem zb_X6_findAddresses_307  {K32 : Int32 → Int32 → Int32 → Bool → Bool → Int32 → uS → Option uS}  (hK32 : ∀ (x2 : Int32) (x3 : Int32) (x4 : Int32) (b5 : Bool) (b6 : Bool) (x7 : Int32)  (s : uS) (r : uS), K32 x2 x3 x4 b5 b6 x7 s = some r → agf [] [] [] [1065, 1064, 1062, 1063] s r) {x2 : Int32} {x3 : Int32} {x4 : Int32} {b6 : Bool} {x7 : Int32} {x8 : Int32} {s : uS} {r : uS}  (h : fb_X6_findAddresses_307  K32 x2 x3 x4 b6 x7 x8 s = some r) : agf [] [] [] [1065, 1064, 1062, 1063] s r := by
  unfold fb_X6_findAddresses_307 at h
  by_cases c1 : x8 = 34
  · replace h := uu_pos c1 h
    exact zb_X6_findAddresses_319 hK32 h
  · replace h := uu_neg c1 h
    exact zb_X6_findAddresses_319 hK32 h
set_option maxRecDepth 100000 in
set_option maxHeartbeats 4000000 in
theorem zb_X6_findAddresses_290  {K32 : Int32 → Int32 → Int32 → Bool → Bool → Int32 → uS → Option uS}  (hK32 : ∀ (x2 : Int32) (x3 : Int32) (x4 : Int32) (b5 : Bool) (b6 : Bool) (x7 : Int32)  (s : uS) (r : uS), K32 x2 x3 x4 b5 b6 x7 s = some r → agf [] [] [] [1065, 1064, 1062, 1063] s r) {x2 : Int32} {x3 : Int32} {x4 : Int32} {b5 : Bool} {b6 : Bool} {x7 : Int32} {x8 : Int32} {s : uS} {r : uS}  (h : fb_X6_findAddresses_290  K32 x2 x3 x4 b5 b6 x7 x8 s = some r) : agf [] [] [] [1065, 1064, 1062, 1063] s r := by
  unfold fb_X6_findAddresses_290 at h
  by_cases c1 : x8 = 62
  · replace h := uu_pos c1 h
    by_cases c2 : x3 = 1
    · replace h := uu_pos c2 h
      exact hK32 x2 2 x4 b5 b6 (x7 + 1) _ _ h
    · replace h := uu_neg c2 h
      exact zb_X6_findAddresses_307 hK32 h
  · replace h := uu_neg c1 h
    exact zb_X6_findAddresses_307 hK32 h
set_option maxRecDepth 100000 in
set_option maxHeartbeats 4000000 in
theorem zb_X6_findAddresses_245  {K32 : Int32 → Int32 → Int32 → Bool → Bool → Int32 → uS → Option uS}  (hK32 : ∀ (x2 : Int32) (x3 : Int32) (x4 : Int32) (b5 : Bool) (b6 : Bool) (x7 : Int32)  (s : uS) (r : uS), K32 x2 x3 x4 b5 b6 x7 s = some r → agf [] [] [] [1065, 1064, 1062, 1063] s r) {x2 : Int32} {x3 : Int32} {x4 : Int32} {b5 : Bool} {b6 : Bool} {x7 : Int32} {x8 : Int32} {s : uS} {r : uS}  (h : fb_X6_findAddresses_245  K32 x2 x3 x4 b5 b6 x7 x8 s = some r) : agf [] [] [] [1065, 1064, 1062, 1063] s r := by
  unfold fb_X6_findAddresses_245 at h
  by_cases c1 : 0 < x4
  · replace h := uu_pos c1 h
    exact hK32 x2 x3 x4 b5 b6 (x7 + 1) _ _ h
  · replace h := uu_neg c1 h
    by_cases c2 : x8 = 32
    · replace h := uu_pos c2 h
      exact hK32 x2 x3 x4 b5 b6 (x7 + 1) _ _ h
    · replace h := uu_neg c2 h
      by_cases c3 : x8 = 9
      · replace h := uu_pos c3 h
        exact hK32 x2 x3 x4 b5 b6 (x7 + 1) _ _ h
      · replace h := uu_neg c3 h
        by_cases c4 : x8 = 60
        · replace h := uu_pos c4 h
          by_cases c5 : x3 = 0
          · replace h := uu_pos c5 h
            obtain ⟨s6, e7, h⟩ := uu_ob h
            refine ((zc_X9_drop so_1062 e7).mo (by decide) (by decide) (by decide) (List.forall_mem_cons.mpr ⟨(Or.inr (List.mem_of_getElem? (i := 2) rfl)), fun _ h => nomatch h⟩)).tr ?_
            exact hK32 x2 1 x4 b5 b6 (x7 + 1) _ _ h
          · replace h := uu_neg c5 h
            exact zb_X6_findAddresses_290 hK32 h
        · replace h := uu_neg c4 h
          exact zb_X6_findAddresses_290 hK32 h
set_option maxRecDepth 100000 in
set_option maxHeartbeats 4000000 in
theorem zb_X6_findAddresses_184  {K32 : Int32 → Int32 → Int32 → Bool → Bool → Int32 → uS → Option uS}  (hK32 : ∀ (x2 : Int32) (x3 : Int32) (x4 : Int32) (b5 : Bool) (b6 : Bool) (x7 : Int32)  (s : uS) (r : uS), K32 x2 x3 x4 b5 b6 x7 s = some r → agf [] [] [] [1065, 1064, 1062, 1063] s r) {x2 : Int32} {x3 : Int32} {x4 : Int32} {b5 : Bool} {b6 : Bool} {x7 : Int32} {x8 : Int32} {s : uS} {r : uS}  (h : fb_X6_findAddresses_184  K32 x2 x3 x4 b5 b6 x7 x8 s = some r) : agf [] [] [] [1065, 1064, 1062, 1063] s r := by
  unfold fb_X6_findAddresses_184 at h
  by_cases c1 : b5 = true
  · replace h := uu_pos c1 h
    by_cases c2 : x8 = 34
    · replace h := uu_pos c2 h
      exact hK32 x2 x3 x4 false b6 (x7 + 1) _ _ h
    · replace h := uu_neg c2 h
      exact hK32 x2 x3 x4 true b6 (x7 + 1) _ _ h
  · replace h := uu_neg c1 h
    by_cases c3 : x8 = 40
    · replace h := uu_pos c3 h
      exact zb_X6_findAddresses_225 hK32 h
    · replace h := uu_neg c3 h
      by_cases c4 : x8 = 41
      · replace h := uu_pos c4 h
        by_cases c5 : x4 ≤ 0
        · replace h := uu_pos c5 h
          exact zb_X6_findAddresses_245 hK32 h
        · replace h := uu_neg c5 h
          exact zb_X6_findAddresses_225 hK32 h
      · replace h := uu_neg c4 h
        exact zb_X6_findAddresses_245 hK32 h
set_option maxRecDepth 100000 in
set_option maxHeartbeats 4000000 in
theorem zb_X6_findAddresses_152  {K32 : Int32 → Int32 → Int32 → Bool → Bool → Int32 → uS → Option uS}  (hK32 : ∀ (x2 : Int32) (x3 : Int32) (x4 : Int32) (b5 : Bool) (b6 : Bool) (x7 : Int32)  (s : uS) (r : uS), K32 x2 x3 x4 b5 b6 x7 s = some r → agf [] [] [] [1065, 1064, 1062, 1063] s r) {x2 : Int32} {x3 : Int32} {x4 : Int32} {b5 : Bool} {b6 : Bool} {x7 : Int32} {x8 : Int32} {b9 : Bool} {s : uS} {r : uS}  (h : fb_X6_findAddresses_152  K32 x2 x3 x4 b5 b6 x7 x8 b9 s = some r) : agf [] [] [] [1065, 1064, 1062, 1063] s r := by
  unfold fb_X6_findAddresses_152 at h
  by_cases c1 : b9 = true
  · replace h := uu_pos c1 h
    by_cases c2 : b6 = true
    · replace h := uu_pos c2 h
      exact zb_X6_findAddresses_169 hK32 h
    · replace h := uu_neg c2 h
      by_cases c3 : x8 = 92
      · replace h := uu_pos c3 h
        exact zb_X6_findAddresses_169 hK32 h
      · replace h := uu_neg c3 h
        exact zb_X6_findAddresses_184 hK32 h
  · replace h := uu_neg c1 h
    exact zb_X6_findAddresses_184 hK32 h
set_option maxRecDepth 100000 in
set_option maxHeartbeats 4000000 in
theorem zb_X6_findAddresses_76  {K32 : Int32 → Int32 → Int32 → Bool → Bool → Int32 → uS → Option uS}  (hK32 : ∀ (x2 : Int32) (x3 : Int32) (x4 : Int32) (b5 : Bool) (b6 : Bool) (x7 : Int32)  (s : uS) (r : uS), K32 x2 x3 x4 b5 b6 x7 s = some r → agf [] [] [] [1065, 1064, 1062, 1063] s r) {x2 : Int32} {x3 : Int32} {x4 : Int32} {b5 : Bool} {b6 : Bool} {x7 : Int32} {x8 : Int32} {bs0 : Bool} {s : uS} {r : uS}  (h : fb_X6_findAddresses_76  K32 x2 x3 x4 b5 b6 x7 x8 bs0 s = some r) : agf [] [] [] [1065, 1064, 1062, 1063] s r := by
  unfold fb_X6_findAddresses_76 at h
  by_cases c1 : x7 = x2
  · replace h := uu_pos c1 h
    exact zb_X6_findAddresses_101 hK32 h
  · replace h := uu_neg c1 h
    by_cases c2 : x8 = 44
    · replace h := uu_pos c2 h
      by_cases c3 : bs0 = true
      · replace h := uu_pos c3 h
        exact zb_X6_findAddresses_152 hK32 h
      · replace h := uu_neg c3 h
        by_cases c4 : x3 = 1
        · replace h := uu_pos c4 h
          exact zb_X6_findAddresses_152 hK32 h
        · replace h := uu_neg c4 h
          exact zb_X6_findAddresses_101 hK32 h
    · replace h := uu_neg c2 h
      exact zb_X6_findAddresses_152 hK32 h
set_option maxRecDepth 100000 in
set_option maxHeartbeats 4000000 in
theorem zb_X6_findAddresses_59  {K32 : Int32 → Int32 → Int32 → Bool → Bool → Int32 → uS → Option uS}  (hK32 : ∀ (x2 : Int32) (x3 : Int32) (x4 : Int32) (b5 : Bool) (b6 : Bool) (x7 : Int32)  (s : uS) (r : uS), K32 x2 x3 x4 b5 b6 x7 s = some r → agf [] [] [] [1065, 1064, 1062, 1063] s r) {x2 : Int32} {x3 : Int32} {x4 : Int32} {b5 : Bool} {b6 : Bool} {x7 : Int32} {xs0 : Int32} {s : uS} {r : uS}  (h : fb_X6_findAddresses_59  K32 x2 x3 x4 b5 b6 x7 xs0 s = some r) : agf [] [] [] [1065, 1064, 1062, 1063] s r := by
  unfold fb_X6_findAddresses_59 at h
  by_cases c1 : b5 = true
  · replace h := uu_pos c1 h
    exact zb_X6_findAddresses_76 hK32 h
  · replace h := uu_neg c1 h
    by_cases c2 : x4 ≤ 0
    · replace h := uu_pos c2 h
      exact zb_X6_findAddresses_76 hK32 h
    · replace h := uu_neg c2 h
      exact zb_X6_findAddresses_76 hK32 h
set_option maxRecDepth 100000 in
set_option maxHeartbeats 4000000 in
theorem zb_X6_findAddresses_32  {K32 : Int32 → Int32 → Int32 → Bool → Bool → Int32 → uS → Option uS}  (hK32 : ∀ (x2 : Int32) (x3 : Int32) (x4 : Int32) (b5 : Bool) (b6 : Bool) (x7 : Int32)  (s : uS) (r : uS), K32 x2 x3 x4 b5 b6 x7 s = some r → agf [] [] [] [1065, 1064, 1062, 1063] s r) {x2 : Int32} {x3 : Int32} {x4 : Int32} {b5 : Bool} {b6 : Bool} {x7 : Int32} {s : uS} {r : uS}  (h : fb_X6_findAddresses_32  K32 x2 x3 x4 b5 b6 x7 s = some r) : agf [] [] [] [1065, 1064, 1062, 1063] s r := by
  unfold fb_X6_findAddresses_32 at h
  by_cases c1 : x2 < x7
  · replace h := uu_pos c1 h
    have hr := Option.some.inj h
    subst hr
    exact agf.rf
  · replace h := uu_neg c1 h
    by_cases c2 : x2 ≤ x7
    · replace h := uu_pos c2 h
      exact zb_X6_findAddresses_59 hK32 h
    · replace h := uu_neg c2 h
      obtain ⟨v3, e4, h⟩ := uu_ob h
      exact zb_X6_findAddresses_59 hK32 h
set_option maxRecDepth 100000 in
set_option maxHeartbeats 4000000 in
theorem zn_X6_findAddresses_32     : ∀ (n : Nat) (x2 : Int32) (x3 : Int32) (x4 : Int32) (b5 : Bool) (b6 : Bool) (x7 : Int32)  (s : uS) (r : uS), fn_X6_findAddresses_32   n x2 x3 x4 b5 b6 x7 s = some r → agf [] [] [] [1065, 1064, 1062, 1063] s r := by
  intro n
  induction n with
  | zero => intro x2 x3 x4 b5 b6 x7  s r h
            cases h
  | succ n ih => intro x2 x3 x4 b5 b6 x7  s r h
                 exact zb_X6_findAddresses_32  ih  h
set_option maxRecDepth 100000 in
set_option maxHeartbeats 4000000 in
theorem zc_X6_findAddresses   {x1 : Int32} {s : uS} {r : uS}  (h : fn_X6_findAddresses  x1 s = some r) : agf [] [] [] [1065, 1064, 1062, 1063] s r := by
  unfold fn_X6_findAddresses at h
  obtain ⟨v1, e2, h⟩ := uu_ob h
  obtain ⟨v3, e4, h⟩ := uu_ob h
  exact zn_X6_findAddresses_32  _ _ _ _ _ _ _ _ _ h
set_option maxRecDepth 100000 in
set_option maxHeartbeats 4000000 in
theorem zb_X9_addFrom_32     {k0 : Nat} {s : uS} {r : uS} (hk0 : uSo k0 9) (h : fb_X9_addFrom_32   k0 s = some r) : agf [] [] [] [k0 + 3, k0 + 2, k0, k0 + 1] s r := by
  unfold fb_X9_addFrom_32 at h
  obtain ⟨s1, e2, h⟩ := uu_ob h
  refine ((zc_X9_close hk0 e2).mo (by decide) (by decide) (by decide) (List.forall_mem_cons.mpr ⟨(Or.inr (List.mem_of_getElem? (i := 2) rfl)), List.forall_mem_cons.mpr ⟨(Or.inr (List.mem_of_getElem? (i := 1) rfl)), List.forall_mem_cons.mpr ⟨(Or.inr (List.mem_of_getElem? (i := 0) rfl)), fun _ h => nomatch h⟩⟩⟩)).tr ?_
  have hr := Option.some.inj h
  subst hr
  exact agf.rf
set_option maxRecDepth 100000 in
set_option maxHeartbeats 4000000 in
theorem zc_X9_addFrom   {k0 : Nat} {k1 : Nat} {x2 : Int32} {s : uS} {r : uS} (hk0 : uSo k0 9) (hk1 : uSo k1 9) (h : fn_X9_addFrom  k0 k1 x2 s = some r) : agf [] [] [] [k0 + 3, k0 + 2, k0, k0 + 1] s r := by
  unfold fn_X9_addFrom at h
  by_cases c1 : x2 < 0
  · replace h := uu_pos c1 h
    exact zb_X9_addFrom_32 hk0 h
  · replace h := uu_neg c1 h
    by_cases c2 : (s.I k1 3) ≤ x2
    · replace h := uu_pos c2 h
      exact zb_X9_addFrom_32 hk0 h
    · replace h := uu_neg c2 h
      obtain ⟨v3, e4, h⟩ := uu_ob h
      obtain ⟨v5, e6, h⟩ := uu_ob h
      obtain ⟨s7, e8, h⟩ := uu_ob h
      refine ((zc_X9_putRange hk0 e8).mo (by decide) (by decide) (by decide) (List.forall_mem_cons.mpr ⟨(Or.inr (List.mem_of_getElem? (i := 3) rfl)), List.forall_mem_cons.mpr ⟨(Or.inr (List.mem_of_getElem? (i := 2) rfl)), fun _ h => nomatch h⟩⟩)).tr ?_
      exact zb_X9_addFrom_32 hk0 h
set_option maxRecDepth 100000 in
set_option maxHeartbeats 4000000 in
theorem zb_X6_gatherEnvelope_122     {x2 : Int32} {b4 : Bool} {s : uS} {r : uS}  (h : fb_X6_gatherEnvelope_122   x2 b4 s = some r) : agf [] [] [] [1063, 1062, 1064, 1065] s r := by
  unfold fb_X6_gatherEnvelope_122 at h
  by_cases c1 : b4 = true
  · replace h := uu_pos c1 h
    obtain ⟨s2, e3, h⟩ := uu_ob h
    refine ((zc_X9_addFrom so_1062 so_1047 e3).mo (by decide) (by decide) (by decide) (List.forall_mem_cons.mpr ⟨(Or.inr (List.mem_of_getElem? (i := 3) rfl)), List.forall_mem_cons.mpr ⟨(Or.inr (List.mem_of_getElem? (i := 2) rfl)), List.forall_mem_cons.mpr ⟨(Or.inr (List.mem_of_getElem? (i := 1) rfl)), List.forall_mem_cons.mpr ⟨(Or.inr (List.mem_of_getElem? (i := 0) rfl)), fun _ h => nomatch h⟩⟩⟩⟩)).tr ?_
    have hr := Option.some.inj h
    subst hr
    exact agf.rf
  · replace h := uu_neg c1 h
    have hr := Option.some.inj h
    subst hr
    exact agf.rf
set_option maxRecDepth 100000 in
set_option maxHeartbeats 4000000 in
theorem zb_X6_gatherEnvelope_78  {K8 : Nat → Int32 → Bool → Bool → Int32 → uS → Option uS}  (hK8 : ∀ (k1 : Nat) (x2 : Int32) (b3 : Bool) (b4 : Bool) (x5 : Int32) (hk1 : uSo k1 3) (s : uS) (r : uS), K8 k1 x2 b3 b4 x5 s = some r → agf [] [] [] [1063, 1062, 1064, 1065] s r) {k1 : Nat} {x2 : Int32} {b4 : Bool} {x5 : Int32} {x7 : Int32} {bs0 : Bool} {s : uS} {r : uS} (hk1 : uSo k1 3) (h : fb_X6_gatherEnvelope_78  K8 k1 x2 b4 x5 x7 bs0 s = some r) : agf [] [] [] [1063, 1062, 1064, 1065] s r := by
  unfold fb_X6_gatherEnvelope_78 at h
  by_cases c1 : b4 = true
  · replace h := uu_pos c1 h
    exact hK8 k1 x2 bs0 true (x5 + 1) hk1 _ _ h
  · replace h := uu_neg c1 h
    by_cases c2 : x7 = 1
    · replace h := uu_pos c2 h
      exact hK8 k1 x2 bs0 true (x5 + 1) hk1 _ _ h
    · replace h := uu_neg c2 h
      exact hK8 k1 x2 bs0 false (x5 + 1) hk1 _ _ h
set_option maxRecDepth 100000 in
set_option maxHeartbeats 4000000 in
theorem zb_X6_gatherEnvelope_8  {K8 : Nat → Int32 → Bool → Bool → Int32 → uS → Option uS}  (hK8 : ∀ (k1 : Nat) (x2 : Int32) (b3 : Bool) (b4 : Bool) (x5 : Int32) (hk1 : uSo k1 3) (s : uS) (r : uS), K8 k1 x2 b3 b4 x5 s = some r → agf [] [] [] [1063, 1062, 1064, 1065] s r) {k1 : Nat} {x2 : Int32} {b3 : Bool} {b4 : Bool} {x5 : Int32} {s : uS} {r : uS} (hk1 : uSo k1 3) (h : fb_X6_gatherEnvelope_8  K8 k1 x2 b3 b4 x5 s = some r) : agf [] [] [] [1063, 1062, 1064, 1065] s r := by
  unfold fb_X6_gatherEnvelope_8 at h
  obtain ⟨v1, e2, h⟩ := uu_ob h
  by_cases c3 : v1 ≤ x5
  · replace h := uu_pos c3 h
    by_cases c4 : b3 = true
    · replace h := uu_pos c4 h
      obtain ⟨s5, e6, h⟩ := uu_ob h
      refine ((zc_X9_addFrom so_1062 so_1043 e6).mo (by decide) (by decide) (by decide) (List.forall_mem_cons.mpr ⟨(Or.inr (List.mem_of_getElem? (i := 3) rfl)), List.forall_mem_cons.mpr ⟨(Or.inr (List.mem_of_getElem? (i := 2) rfl)), List.forall_mem_cons.mpr ⟨(Or.inr (List.mem_of_getElem? (i := 1) rfl)), List.forall_mem_cons.mpr ⟨(Or.inr (List.mem_of_getElem? (i := 0) rfl)), fun _ h => nomatch h⟩⟩⟩⟩)).tr ?_
      exact zb_X6_gatherEnvelope_122  h
    · replace h := uu_neg c4 h
      exact zb_X6_gatherEnvelope_122  h
  · replace h := uu_neg c3 h
    obtain ⟨v7, e8, h⟩ := uu_ob h
    obtain ⟨v10, e11, h⟩ := uu_ob h
    obtain ⟨v12, e13, h⟩ := uu_ob h
    obtain ⟨v14, e15, h⟩ := uu_ob h
    by_cases c16 : b3 = true
    · replace h := uu_pos c16 h
      exact zb_X6_gatherEnvelope_78 hK8 hk1 h
    · replace h := uu_neg c16 h
      by_cases c17 : v14 = 0
      · replace h := uu_pos c17 h
        exact zb_X6_gatherEnvelope_78 hK8 hk1 h
      · replace h := uu_neg c17 h
        exact zb_X6_gatherEnvelope_78 hK8 hk1 h
set_option maxRecDepth 100000 in
set_option maxHeartbeats 4000000 in
theorem zn_X6_gatherEnvelope_8     : ∀ (n : Nat) (k1 : Nat) (x2 : Int32) (b3 : Bool) (b4 : Bool) (x5 : Int32) (hk1 : uSo k1 3) (s : uS) (r : uS), fn_X6_gatherEnvelope_8   n k1 x2 b3 b4 x5 s = some r → agf [] [] [] [1063, 1062, 1064, 1065] s r := by
  intro n
  induction n with
  | zero => intro k1 x2 b3 b4 x5 hk1 s r h
            cases h
  | succ n ih => intro k1 x2 b3 b4 x5 hk1 s r h
                 exact zb_X6_gatherEnvelope_8  ih hk1 h
set_option maxRecDepth 100000 in
set_option maxHeartbeats 4000000 in
theorem zc_X6_gatherEnvelope   {k1 : Nat} {x2 : Int32} {s : uS} {r : uS} (hk1 : uSo k1 3) (h : fn_X6_gatherEnvelope  k1 x2 s = some r) : agf [] [] [] [1063, 1062, 1064, 1065] s r := by
  unfold fn_X6_gatherEnvelope at h
  exact zn_X6_gatherEnvelope_8  _ _ _ _ _ _ hk1 _ _ h
set_option maxRecDepth 100000 in
set_option maxHeartbeats 4000000 in
theorem zb_X6_gather_158     {k1 : Nat} {s : uS} {r : uS} (hk1 : uSo k1 3) (h : fb_X6_gather_158   k1 s = some r) : agf [] [1064, 1065] [] [1065, 1064, 1062, 1063, 9] s r := by
  unfold fb_X6_gather_158 at h
  by_cases c1 : (s.I k1 8) = 0
  · replace h := uu_pos c1 h
    obtain ⟨s2, e3, h⟩ := uu_ob h
    refine ((zc_X9_raise so_1062 e3).mo (by decide) (by decide) (by decide) (List.forall_mem_cons.mpr ⟨(Or.inr (List.mem_of_getElem? (i := 3) rfl)), fun _ h => nomatch h⟩)).tr ?_
    obtain ⟨v4, e5, h⟩ := uu_ob h
    obtain ⟨v6, e7, h⟩ := uu_ob h
    obtain ⟨s8, e9, h⟩ := uu_ob h
    refine ((zc_X9_raise so_8 e9).mo (by decide) (by decide) (by decide) (List.forall_mem_cons.mpr ⟨(Or.inr (List.mem_of_getElem? (i := 4) rfl)), fun _ h => nomatch h⟩)).tr ?_
    have hr := Option.some.inj h
    subst hr
    exact agf.rf
  · replace h := uu_neg c1 h
    have hr := Option.some.inj h
    subst hr
    exact agf.rf
set_option maxRecDepth 100000 in
set_option maxHeartbeats 4000000 in
theorem zb_X6_gather_123  {K123 : Nat → Int32 → uS → Option uS}  (hK123 : ∀ (k1 : Nat) (x4 : Int32) (hk1 : uSo k1 3) (s : uS) (r : uS), K123 k1 x4 s = some r → agf [] [1064, 1065] [] [1065, 1064, 1062, 1063, 9] s r) {k1 : Nat} {x4 : Int32} {s : uS} {r : uS} (hk1 : uSo k1 3) (h : fb_X6_gather_123  K123 k1 x4 s = some r) : agf [] [1064, 1065] [] [1065, 1064, 1062, 1063, 9] s r := by
  unfold fb_X6_gather_123 at h
  by_cases c1 : (s.I 1062 3) ≤ x4
  · replace h := uu_pos c1 h
    exact zb_X6_gather_158 hk1 h
  · replace h := uu_neg c1 h
    by_cases c2 : (s.I k1 9) = 0
    · replace h := uu_pos c2 h
      exact zb_X6_gather_158 hk1 h
    · replace h := uu_neg c2 h
      obtain ⟨s3, e4, h⟩ := uu_ob h
      refine ((zc_X6_narrow  e4).mo (by decide) (by decide) (by decide) (fun _ h => nomatch h)).tr ?_
      exact hK123 k1 (x4 + 1) hk1 _ _ h
set_option maxRecDepth 100000 in
set_option maxHeartbeats 4000000 in
theorem zn_X6_gather_123     : ∀ (n : Nat) (k1 : Nat) (x4 : Int32) (hk1 : uSo k1 3) (s : uS) (r : uS), fn_X6_gather_123   n k1 x4 s = some r → agf [] [1064, 1065] [] [1065, 1064, 1062, 1063, 9] s r := by
  intro n
  induction n with
  | zero => intro k1 x4 hk1 s r h
            cases h
  | succ n ih => intro k1 x4 hk1 s r h
                 exact zb_X6_gather_123  ih hk1 h
set_option maxRecDepth 100000 in
set_option maxHeartbeats 4000000 in
theorem zb_X6_gather_57  {K10 : Nat → Int32 → Int32 → Int32 → uS → Option uS}  (hK10 : ∀ (k1 : Nat) (x2 : Int32) (x3 : Int32) (x4 : Int32) (hk1 : uSo k1 3) (s : uS) (r : uS), K10 k1 x2 x3 x4 s = some r → agf [] [1064, 1065] [] [1065, 1064, 1062, 1063, 9] s r) {k1 : Nat} {x2 : Int32} {x3 : Int32} {x4 : Int32} {s : uS} {r : uS} (hk1 : uSo k1 3) (h : fb_X6_gather_57  K10 k1 x2 x3 x4 s = some r) : agf [] [1064, 1065] [] [1065, 1064, 1062, 1063, 9] s r := by
  unfold fb_X6_gather_57 at h
  by_cases c1 : (s.I k1 0) = 12
  · replace h := uu_pos c1 h
    obtain ⟨v2, e3, h⟩ := uu_ob h
    by_cases c4 : v2 = true
    · replace h := uu_pos c4 h
      obtain ⟨s5, e6, h⟩ := uu_ob h
      refine ((zc_X6_findAddresses  e6).mo (by decide) (by decide) (by decide) (List.forall_mem_cons.mpr ⟨(Or.inr (List.mem_of_getElem? (i := 0) rfl)), List.forall_mem_cons.mpr ⟨(Or.inr (List.mem_of_getElem? (i := 1) rfl)), List.forall_mem_cons.mpr ⟨(Or.inr (List.mem_of_getElem? (i := 2) rfl)), List.forall_mem_cons.mpr ⟨(Or.inr (List.mem_of_getElem? (i := 3) rfl)), fun _ h => nomatch h⟩⟩⟩⟩)).tr ?_
      exact hK10 k1 x2 x3 (x4 + 1) hk1 _ _ h
    · replace h := uu_neg c4 h
      exact hK10 k1 x2 x3 (x4 + 1) hk1 _ _ h
  · replace h := uu_neg c1 h
    exact hK10 k1 x2 x3 (x4 + 1) hk1 _ _ h
set_option maxRecDepth 100000 in
set_option maxHeartbeats 4000000 in
theorem zb_X6_gather_10  {K10 : Nat → Int32 → Int32 → Int32 → uS → Option uS}  (hK10 : ∀ (k1 : Nat) (x2 : Int32) (x3 : Int32) (x4 : Int32) (hk1 : uSo k1 3) (s : uS) (r : uS), K10 k1 x2 x3 x4 s = some r → agf [] [1064, 1065] [] [1065, 1064, 1062, 1063, 9] s r) {k1 : Nat} {x2 : Int32} {x3 : Int32} {x4 : Int32} {s : uS} {r : uS} (hk1 : uSo k1 3) (h : fb_X6_gather_10  K10 k1 x2 x3 x4 s = some r) : agf [] [1064, 1065] [] [1065, 1064, 1062, 1063, 9] s r := by
  unfold fb_X6_gather_10 at h
  by_cases c1 : (s.I 1054 3) ≤ x4
  · replace h := uu_pos c1 h
    by_cases c2 : (s.I k1 0) = 13
    · replace h := uu_pos c2 h
      obtain ⟨s3, e4, h⟩ := uu_ob h
      refine ((zc_X6_gatherEnvelope hk1 e4).mo (by decide) (by decide) (by decide) (List.forall_mem_cons.mpr ⟨(Or.inr (List.mem_of_getElem? (i := 3) rfl)), List.forall_mem_cons.mpr ⟨(Or.inr (List.mem_of_getElem? (i := 2) rfl)), List.forall_mem_cons.mpr ⟨(Or.inr (List.mem_of_getElem? (i := 1) rfl)), List.forall_mem_cons.mpr ⟨(Or.inr (List.mem_of_getElem? (i := 0) rfl)), fun _ h => nomatch h⟩⟩⟩⟩)).tr ?_
      exact zn_X6_gather_123  _ _ _ hk1 _ _ h
    · replace h := uu_neg c2 h
      by_cases c5 : (s.I k1 0) = 14
      · replace h := uu_pos c5 h
        obtain ⟨s6, e7, h⟩ := uu_ob h
        refine ((zc_X6_gatherFlags  e7).mo (by decide) (by decide) (by decide) (List.forall_mem_cons.mpr ⟨(Or.inr (List.mem_of_getElem? (i := 2) rfl)), List.forall_mem_cons.mpr ⟨(Or.inr (List.mem_of_getElem? (i := 3) rfl)), List.forall_mem_cons.mpr ⟨(Or.inr (List.mem_of_getElem? (i := 0) rfl)), List.forall_mem_cons.mpr ⟨(Or.inr (List.mem_of_getElem? (i := 1) rfl)), fun _ h => nomatch h⟩⟩⟩⟩)).tr ?_
        exact zn_X6_gather_123  _ _ _ hk1 _ _ h
      · replace h := uu_neg c5 h
        exact zn_X6_gather_123  _ _ _ hk1 _ _ h
  · replace h := uu_neg c1 h
    by_cases c8 : (s.I k1 0) = 11
    · replace h := uu_pos c8 h
      obtain ⟨v9, e10, h⟩ := uu_ob h
      by_cases c11 : v9 = true
      · replace h := uu_pos c11 h
        obtain ⟨s12, e13, h⟩ := uu_ob h
        refine ((zc_X9_addFrom so_1062 so_1058 e13).mo (by decide) (by decide) (by decide) (List.forall_mem_cons.mpr ⟨(Or.inr (List.mem_of_getElem? (i := 0) rfl)), List.forall_mem_cons.mpr ⟨(Or.inr (List.mem_of_getElem? (i := 1) rfl)), List.forall_mem_cons.mpr ⟨(Or.inr (List.mem_of_getElem? (i := 2) rfl)), List.forall_mem_cons.mpr ⟨(Or.inr (List.mem_of_getElem? (i := 3) rfl)), fun _ h => nomatch h⟩⟩⟩⟩)).tr ?_
        exact hK10 k1 x2 x3 (x4 + 1) hk1 _ _ h
      · replace h := uu_neg c11 h
        exact zb_X6_gather_57 hK10 hk1 h
    · replace h := uu_neg c8 h
      exact zb_X6_gather_57 hK10 hk1 h
set_option maxRecDepth 100000 in
set_option maxHeartbeats 4000000 in
theorem zn_X6_gather_10     : ∀ (n : Nat) (k1 : Nat) (x2 : Int32) (x3 : Int32) (x4 : Int32) (hk1 : uSo k1 3) (s : uS) (r : uS), fn_X6_gather_10   n k1 x2 x3 x4 s = some r → agf [] [1064, 1065] [] [1065, 1064, 1062, 1063, 9] s r := by
  intro n
  induction n with
  | zero => intro k1 x2 x3 x4 hk1 s r h
            cases h
  | succ n ih => intro k1 x2 x3 x4 hk1 s r h
                 exact zb_X6_gather_10  ih hk1 h
set_option maxRecDepth 100000 in
set_option maxHeartbeats 4000000 in
theorem zc_X6_gather   {k1 : Nat} {x2 : Int32} {x3 : Int32} {s : uS} {r : uS} (hk1 : uSo k1 3) (h : fn_X6_gather  k1 x2 x3 s = some r) : agf [] [1064, 1065] [] [1065, 1064, 1062, 1063, 9] s r := by
  unfold fn_X6_gather at h
  obtain ⟨s1, e2, h⟩ := uu_ob h
  refine ((zc_X9_clear so_1062 e2).mo (by decide) (by decide) (by decide) (List.forall_mem_cons.mpr ⟨(Or.inr (List.mem_of_getElem? (i := 2) rfl)), fun _ h => nomatch h⟩)).tr ?_
  exact zn_X6_gather_10  _ _ _ _ _ hk1 _ _ h
set_option maxRecDepth 100000 in
set_option maxHeartbeats 4000000 in
theorem zb_X6_isAddressed_127  {K46 : Nat → Int32 → Int32 → uS → Option (uS × Bool)}  (hK46 : ∀ (k1 : Nat) (x2 : Int32) (x3 : Int32) (hk1 : uSo k1 3) (s : uS) (r : (uS × Bool)), K46 k1 x2 x3 s = some r → agf [] [] [] [1063, 1062, 1064, 1065] s r.1) {k1 : Nat} {x2 : Int32} {x3 : Int32} {b4 : Bool} {s : uS} {r : (uS × Bool)} (hk1 : uSo k1 3) (h : fb_X6_isAddressed_127  K46 k1 x2 x3 b4 s = some r) : agf [] [] [] [1063, 1062, 1064, 1065] s r.1 := by
  unfold fb_X6_isAddressed_127 at h
  by_cases c1 : b4 = true
  · replace h := uu_pos c1 h
    have hr := Option.some.inj h
    subst hr
    exact agf.rf
  · replace h := uu_neg c1 h
    exact hK46 k1 x2 (x3 + 1) hk1 _ _ h
set_option maxRecDepth 100000 in
set_option maxHeartbeats 4000000 in
theorem zb_X6_isAddressed_79  {K46 : Nat → Int32 → Int32 → uS → Option (uS × Bool)} {K79 : Nat → Int32 → Int32 → Bool → Int32 → uS → Option (uS × Bool)}  (hK46 : ∀ (k1 : Nat) (x2 : Int32) (x3 : Int32) (hk1 : uSo k1 3) (s : uS) (r : (uS × Bool)), K46 k1 x2 x3 s = some r → agf [] [] [] [1063, 1062, 1064, 1065] s r.1) (hK79 : ∀ (k1 : Nat) (x2 : Int32) (x3 : Int32) (b4 : Bool) (x5 : Int32) (hk1 : uSo k1 3) (s : uS) (r : (uS × Bool)), K79 k1 x2 x3 b4 x5 s = some r → agf [] [] [] [1063, 1062, 1064, 1065] s r.1) {k1 : Nat} {x2 : Int32} {x3 : Int32} {b4 : Bool} {x5 : Int32} {s : uS} {r : (uS × Bool)} (hk1 : uSo k1 3) (h : fb_X6_isAddressed_79  K46 K79 k1 x2 x3 b4 x5 s = some r) : agf [] [] [] [1063, 1062, 1064, 1065] s r.1 := by
  unfold fb_X6_isAddressed_79 at h
  obtain ⟨v1, e2, h⟩ := uu_ob h
  by_cases c3 : v1 ≤ x5
  · replace h := uu_pos c3 h
    exact zb_X6_isAddressed_127 hK46 hk1 h
  · replace h := uu_neg c3 h
    by_cases c4 : b4 = true
    · replace h := uu_pos c4 h
      exact zb_X6_isAddressed_127 hK46 hk1 h
    · replace h := uu_neg c4 h
      obtain ⟨v5, e6, h⟩ := uu_ob h
      obtain ⟨v7, e8, h⟩ := uu_ob h
      exact hK79 k1 x2 x3 v7 (x5 + 1) hk1 _ _ h
set_option maxRecDepth 100000 in
set_option maxHeartbeats 4000000 in
theorem zn_X6_isAddressed_79  {K46 : Nat → Int32 → Int32 → uS → Option (uS × Bool)}  (hK46 : ∀ (k1 : Nat) (x2 : Int32) (x3 : Int32) (hk1 : uSo k1 3) (s : uS) (r : (uS × Bool)), K46 k1 x2 x3 s = some r → agf [] [] [] [1063, 1062, 1064, 1065] s r.1) : ∀ (n : Nat) (k1 : Nat) (x2 : Int32) (x3 : Int32) (b4 : Bool) (x5 : Int32) (hk1 : uSo k1 3) (s : uS) (r : (uS × Bool)), fn_X6_isAddressed_79  K46 n k1 x2 x3 b4 x5 s = some r → agf [] [] [] [1063, 1062, 1064, 1065] s r.1 := by
  intro n
  induction n with
  | zero => intro k1 x2 x3 b4 x5 hk1 s r h
            cases h
  | succ n ih => intro k1 x2 x3 b4 x5 hk1 s r h
                 exact zb_X6_isAddressed_79  hK46 ih hk1 h
set_option maxRecDepth 100000 in
set_option maxHeartbeats 4000000 in
theorem zb_X6_isAddressed_46  {K46 : Nat → Int32 → Int32 → uS → Option (uS × Bool)}  (hK46 : ∀ (k1 : Nat) (x2 : Int32) (x3 : Int32) (hk1 : uSo k1 3) (s : uS) (r : (uS × Bool)), K46 k1 x2 x3 s = some r → agf [] [] [] [1063, 1062, 1064, 1065] s r.1) {k1 : Nat} {x2 : Int32} {x3 : Int32} {s : uS} {r : (uS × Bool)} (hk1 : uSo k1 3) (h : fb_X6_isAddressed_46  K46 k1 x2 x3 s = some r) : agf [] [] [] [1063, 1062, 1064, 1065] s r.1 := by
  unfold fb_X6_isAddressed_46 at h
  by_cases c1 : (s.I 1062 3) ≤ x3
  · replace h := uu_pos c1 h
    have hr := Option.some.inj h
    subst hr
    exact agf.rf
  · replace h := uu_neg c1 h
    obtain ⟨v2, e3, h⟩ := uu_ob h
    exact zn_X6_isAddressed_79 hK46 _ _ _ _ _ _ hk1 _ _ h
set_option maxRecDepth 100000 in
set_option maxHeartbeats 4000000 in
theorem zn_X6_isAddressed_46     : ∀ (n : Nat) (k1 : Nat) (x2 : Int32) (x3 : Int32) (hk1 : uSo k1 3) (s : uS) (r : (uS × Bool)), fn_X6_isAddressed_46   n k1 x2 x3 s = some r → agf [] [] [] [1063, 1062, 1064, 1065] s r.1 := by
  intro n
  induction n with
  | zero => intro k1 x2 x3 hk1 s r h
            cases h
  | succ n ih => intro k1 x2 x3 hk1 s r h
                 exact zb_X6_isAddressed_46  ih hk1 h
set_option maxRecDepth 100000 in
set_option maxHeartbeats 4000000 in
theorem zb_X6_isAddressed_9  {K9 : Nat → Int32 → Int32 → uS → Option (uS × Bool)}  (hK9 : ∀ (k1 : Nat) (x2 : Int32) (x3 : Int32) (hk1 : uSo k1 3) (s : uS) (r : (uS × Bool)), K9 k1 x2 x3 s = some r → agf [] [] [] [1063, 1062, 1064, 1065] s r.1) {k1 : Nat} {x2 : Int32} {x3 : Int32} {s : uS} {r : (uS × Bool)} (hk1 : uSo k1 3) (h : fb_X6_isAddressed_9  K9 k1 x2 x3 s = some r) : agf [] [] [] [1063, 1062, 1064, 1065] s r.1 := by
  unfold fb_X6_isAddressed_9 at h
  by_cases c1 : (s.I 1054 3) ≤ x3
  · replace h := uu_pos c1 h
    exact zn_X6_isAddressed_46  _ _ _ _ hk1 _ _ h
  · replace h := uu_neg c1 h
    obtain ⟨v3, e4, h⟩ := uu_ob h
    by_cases c5 : v3 < 0
    · replace h := uu_pos c5 h
      exact hK9 k1 x2 (x3 + 1) hk1 _ _ h
    · replace h := uu_neg c5 h
      obtain ⟨s6, e7, h⟩ := uu_ob h
      refine ((zc_X6_findAddresses  e7).mo (by decide) (by decide) (by decide) (List.forall_mem_cons.mpr ⟨(Or.inr (List.mem_of_getElem? (i := 3) rfl)), List.forall_mem_cons.mpr ⟨(Or.inr (List.mem_of_getElem? (i := 2) rfl)), List.forall_mem_cons.mpr ⟨(Or.inr (List.mem_of_getElem? (i := 1) rfl)), List.forall_mem_cons.mpr ⟨(Or.inr (List.mem_of_getElem? (i := 0) rfl)), fun _ h => nomatch h⟩⟩⟩⟩)).tr ?_
      exact hK9 k1 x2 (x3 + 1) hk1 _ _ h
set_option maxRecDepth 100000 in
set_option maxHeartbeats 4000000 in
theorem zn_X6_isAddressed_9     : ∀ (n : Nat) (k1 : Nat) (x2 : Int32) (x3 : Int32) (hk1 : uSo k1 3) (s : uS) (r : (uS × Bool)), fn_X6_isAddressed_9   n k1 x2 x3 s = some r → agf [] [] [] [1063, 1062, 1064, 1065] s r.1 := by
  intro n
  induction n with
  | zero => intro k1 x2 x3 hk1 s r h
            cases h
  | succ n ih => intro k1 x2 x3 hk1 s r h
                 exact zb_X6_isAddressed_9  ih hk1 h
set_option maxRecDepth 100000 in
set_option maxHeartbeats 4000000 in
theorem zc_X6_isAddressed   {k1 : Nat} {x2 : Int32} {s : uS} {r : (uS × Bool)} (hk1 : uSo k1 3) (h : fn_X6_isAddressed  k1 x2 s = some r) : agf [] [] [] [1063, 1062, 1064, 1065] s r.1 := by
  unfold fn_X6_isAddressed at h
  obtain ⟨s1, e2, h⟩ := uu_ob h
  refine ((zc_X9_clear so_1062 e2).mo (by decide) (by decide) (by decide) (List.forall_mem_cons.mpr ⟨(Or.inr (List.mem_of_getElem? (i := 1) rfl)), fun _ h => nomatch h⟩)).tr ?_
  exact zn_X6_isAddressed_9  _ _ _ _ hk1 _ _ h
set_option maxRecDepth 100000 in
set_option maxHeartbeats 4000000 in
theorem zb_X7_run_4  {K4 : Int32 → Int32 → uS → Option uS}  (hK4 : ∀ (x1 : Int32) (x2 : Int32)  (s : uS) (r : uS), K4 x1 x2 s = some r → agf [(1070, 5), (1070, 6), (1070, 7), (1070, 9), (1070, 10), (1070, 13), (1070, 14), (1070, 15), (1070, 16), (1070, 17)] [1064, 1065, 1071, 1072, 1073, 1074] [] [9, 1063, 1062, 1064, 1065, 1066, 1067, 1069, 1068] s r) {x1 : Int32} {x2 : Int32} {s : uS} {r : uS}  (h : fb_X7_run_4  K4 x1 x2 s = some r) : agf [(1070, 5), (1070, 6), (1070, 7), (1070, 9), (1070, 10), (1070, 13), (1070, 14), (1070, 15), (1070, 16), (1070, 17)] [1064, 1065, 1071, 1072, 1073, 1074] [] [9, 1063, 1062, 1064, 1065, 1066, 1067, 1069, 1068] s r := by
  unfold fb_X7_run_4 at h
  by_cases c1 : (320 : Int32) ≤ x2
  · replace h := uu_pos c1 h
    have hr := Option.some.inj h
    subst hr
    exact agf.rf
  · replace h := uu_neg c1 h
    by_cases c2 : (s.I 6 2) ≤ x1
    · replace h := uu_pos c2 h
      have hr := Option.some.inj h
      subst hr
      exact agf.rf
    · replace h := uu_neg c2 h
      by_cases c3 : (s.I 1070 17) = 0
      · replace h := uu_pos c3 h
        obtain ⟨j4, e5, h⟩ := uu_ob h
        obtain ⟨g6, h⟩ := uu_grd h
        obtain ⟨v7, e8, h⟩ := uu_ob h
        by_cases c9 : v7 = true
        · replace h := uu_pos c9 h
          obtain ⟨s10, e11, h⟩ := uu_ob h
          refine ((zc_X6_gather g6 e11).mo (by decide) (by decide) (by decide) (List.forall_mem_cons.mpr ⟨(Or.inr (List.mem_of_getElem? (i := 4) rfl)), List.forall_mem_cons.mpr ⟨(Or.inr (List.mem_of_getElem? (i := 3) rfl)), List.forall_mem_cons.mpr ⟨(Or.inr (List.mem_of_getElem? (i := 2) rfl)), List.forall_mem_cons.mpr ⟨(Or.inr (List.mem_of_getElem? (i := 1) rfl)), List.forall_mem_cons.mpr ⟨(Or.inr (List.mem_of_getElem? (i := 0) rfl)), fun _ h => nomatch h⟩⟩⟩⟩⟩)).tr ?_
          obtain ⟨r12, e13, h⟩ := uu_ob h
          refine ((zc_X6_holds g6 e13).mo (by decide) (by decide) (by decide) (List.forall_mem_cons.mpr ⟨(Or.inr (List.mem_of_getElem? (i := 8) rfl)), List.forall_mem_cons.mpr ⟨(Or.inr (List.mem_of_getElem? (i := 7) rfl)), List.forall_mem_cons.mpr ⟨(Or.inr (List.mem_of_getElem? (i := 6) rfl)), List.forall_mem_cons.mpr ⟨(Or.inr (List.mem_of_getElem? (i := 5) rfl)), fun _ h => nomatch h⟩⟩⟩⟩)).tr ?_
          obtain ⟨v14, e15, h⟩ := uu_ob h
          exact hK4 v14 (x2 + 1) _ _ h
        · replace h := uu_neg c9 h
          by_cases c16 : (s.I j4 0) = 24
          · replace h := uu_pos c16 h
            obtain ⟨v17, e18, h⟩ := uu_ob h
            exact hK4 v17 (x2 + 1) _ _ h
          · replace h := uu_neg c16 h
            obtain ⟨s19, e20, h⟩ := uu_ob h
            refine ((zc_X7_perform g6 e20).mo (by decide) (by decide) (by decide) (fun _ h => nomatch h)).tr ?_
            exact hK4 (x1 + 1) (x2 + 1) _ _ h
      · replace h := uu_neg c3 h
        have hr := Option.some.inj h
        subst hr
        exact agf.rf
set_option maxRecDepth 100000 in
set_option maxHeartbeats 4000000 in
theorem zn_X7_run_4     : ∀ (n : Nat) (x1 : Int32) (x2 : Int32)  (s : uS) (r : uS), fn_X7_run_4   n x1 x2 s = some r → agf [(1070, 5), (1070, 6), (1070, 7), (1070, 9), (1070, 10), (1070, 13), (1070, 14), (1070, 15), (1070, 16), (1070, 17)] [1064, 1065, 1071, 1072, 1073, 1074] [] [9, 1063, 1062, 1064, 1065, 1066, 1067, 1069, 1068] s r := by
  intro n
  induction n with
  | zero => intro x1 x2  s r h
            cases h
  | succ n ih => intro x1 x2  s r h
                 exact zb_X7_run_4  ih  h
set_option maxRecDepth 100000 in
set_option maxHeartbeats 4000000 in
theorem zc_X7_run    {s : uS} {r : uS}  (h : fn_X7_run   s = some r) : agf [(1070, 5), (1070, 6), (1070, 7), (1070, 9), (1070, 10), (1070, 13), (1070, 14), (1070, 15), (1070, 16), (1070, 17)] [1064, 1065, 1071, 1072, 1073, 1074] [] [9, 1063, 1062, 1064, 1065, 1066, 1067, 1069, 1068] s r := by
  unfold fn_X7_run at h
  exact zn_X7_run_4  _ _ _ _ _ h
set_option maxRecDepth 100000 in
set_option maxHeartbeats 4000000 in
theorem zc_X9_putFrom   {k0 : Nat} {k1 : Nat} {x2 : Int32} {s : uS} {r : uS} (hk0 : uSo k0 9) (hk1 : uSo k1 9) (h : fn_X9_putFrom  k0 k1 x2 s = some r) : agf [] [] [] [k0, k0 + 1] s r := by
  unfold fn_X9_putFrom at h
  by_cases c1 : x2 < 0
  · replace h := uu_pos c1 h
    have hr := Option.some.inj h
    subst hr
    exact agf.rf
  · replace h := uu_neg c1 h
    by_cases c2 : (s.I k1 3) ≤ x2
    · replace h := uu_pos c2 h
      have hr := Option.some.inj h
      subst hr
      exact agf.rf
    · replace h := uu_neg c2 h
      obtain ⟨v3, e4, h⟩ := uu_ob h
      obtain ⟨v5, e6, h⟩ := uu_ob h
      obtain ⟨s7, e8, h⟩ := uu_ob h
      refine ((zc_X9_putRange hk0 e8).mo (by decide) (by decide) (by decide) (List.forall_mem_cons.mpr ⟨(Or.inr (List.mem_of_getElem? (i := 1) rfl)), List.forall_mem_cons.mpr ⟨(Or.inr (List.mem_of_getElem? (i := 0) rfl)), fun _ h => nomatch h⟩⟩)).tr ?_
      have hr := Option.some.inj h
      subst hr
      exact agf.rf
set_option maxRecDepth 100000 in
set_option maxHeartbeats 4000000 in
theorem zb_X7_writeAnswer_144     {k1 : Nat} {s : uS} {r : uS} (hk1 : uSo k1 3) (h : fb_X7_writeAnswer_144   k1 s = some r) : agf [(1070, 8)] [] [] [1076, 1075] s r := by
  unfold fb_X7_writeAnswer_144 at h
  obtain ⟨s2, e3, h⟩ := uu_ob h
  refine ((zc_X9_putText so_1075 e3).mo (by decide) (by decide) (by decide) (List.forall_mem_cons.mpr ⟨(Or.inr (List.mem_of_getElem? (i := 1) rfl)), List.forall_mem_cons.mpr ⟨(Or.inr (List.mem_of_getElem? (i := 0) rfl)), fun _ h => nomatch h⟩⟩)).tr ?_
  obtain ⟨v4, e5, h⟩ := uu_ob h
  obtain ⟨s6, e7, h⟩ := uu_ob h
  refine ((zc_X9_putFrom so_1075 so_8 e7).mo (by decide) (by decide) (by decide) (List.forall_mem_cons.mpr ⟨(Or.inr (List.mem_of_getElem? (i := 1) rfl)), List.forall_mem_cons.mpr ⟨(Or.inr (List.mem_of_getElem? (i := 0) rfl)), fun _ h => nomatch h⟩⟩)).tr ?_
  obtain ⟨s9, e10, h⟩ := uu_ob h
  refine ((zc_X9_putText so_1075 e10).mo (by decide) (by decide) (by decide) (List.forall_mem_cons.mpr ⟨(Or.inr (List.mem_of_getElem? (i := 1) rfl)), List.forall_mem_cons.mpr ⟨(Or.inr (List.mem_of_getElem? (i := 0) rfl)), fun _ h => nomatch h⟩⟩)).tr ?_
  have hr := Option.some.inj h
  subst hr
  exact agf.rf
set_option maxRecDepth 100000 in
set_option maxHeartbeats 4000000 in
theorem zc_X7_writeAnswer   {k1 : Nat} {s : uS} {r : uS} (hk1 : uSo k1 3) (h : fn_X7_writeAnswer  k1 s = some r) : agf [(1070, 8)] [] [] [1076, 1075] s r := by
  unfold fn_X7_writeAnswer at h
  refine (agf_wI (a := 1070) (f := 8) (v := 1) (Or.inl (by decide))).tr ?_
  obtain ⟨s1, e2, h⟩ := uu_ob h
  refine ((zc_X9_clear so_1075 e2).mo (by decide) (by decide) (by decide) (List.forall_mem_cons.mpr ⟨(Or.inr (List.mem_of_getElem? (i := 1) rfl)), fun _ h => nomatch h⟩)).tr ?_
  obtain ⟨s4, e5, h⟩ := uu_ob h
  refine ((zc_X9_putText so_1075 e5).mo (by decide) (by decide) (by decide) (List.forall_mem_cons.mpr ⟨(Or.inr (List.mem_of_getElem? (i := 1) rfl)), List.forall_mem_cons.mpr ⟨(Or.inr (List.mem_of_getElem? (i := 0) rfl)), fun _ h => nomatch h⟩⟩)).tr ?_
  obtain ⟨s6, e7, h⟩ := uu_ob h
  refine ((zc_X9_putFrom so_1075 so_1043 e7).mo (by decide) (by decide) (by decide) (List.forall_mem_cons.mpr ⟨(Or.inr (List.mem_of_getElem? (i := 1) rfl)), List.forall_mem_cons.mpr ⟨(Or.inr (List.mem_of_getElem? (i := 0) rfl)), fun _ h => nomatch h⟩⟩)).tr ?_
  obtain ⟨s9, e10, h⟩ := uu_ob h
  refine ((zc_X9_putText so_1075 e10).mo (by decide) (by decide) (by decide) (List.forall_mem_cons.mpr ⟨(Or.inr (List.mem_of_getElem? (i := 1) rfl)), List.forall_mem_cons.mpr ⟨(Or.inr (List.mem_of_getElem? (i := 0) rfl)), fun _ h => nomatch h⟩⟩)).tr ?_
  by_cases c11 : (s9.I k1 0) = 6
  · replace h := uu_pos c11 h
    obtain ⟨s13, e14, h⟩ := uu_ob h
    refine ((zc_X9_putText so_1075 e14).mo (by decide) (by decide) (by decide) (List.forall_mem_cons.mpr ⟨(Or.inr (List.mem_of_getElem? (i := 1) rfl)), List.forall_mem_cons.mpr ⟨(Or.inr (List.mem_of_getElem? (i := 0) rfl)), fun _ h => nomatch h⟩⟩)).tr ?_
    exact zb_X7_writeAnswer_144 hk1 h
  · replace h := uu_neg c11 h
    obtain ⟨v15, e16, h⟩ := uu_ob h
    by_cases c17 : v15 = true
    · replace h := uu_pos c17 h
      obtain ⟨v18, e19, h⟩ := uu_ob h
      obtain ⟨s20, e21, h⟩ := uu_ob h
      refine ((zc_X9_putFrom so_1075 so_8 e21).mo (by decide) (by decide) (by decide) (List.forall_mem_cons.mpr ⟨(Or.inr (List.mem_of_getElem? (i := 1) rfl)), List.forall_mem_cons.mpr ⟨(Or.inr (List.mem_of_getElem? (i := 0) rfl)), fun _ h => nomatch h⟩⟩)).tr ?_
      exact zb_X7_writeAnswer_144 hk1 h
    · replace h := uu_neg c17 h
      obtain ⟨s23, e24, h⟩ := uu_ob h
      refine ((zc_X9_putText so_1075 e24).mo (by decide) (by decide) (by decide) (List.forall_mem_cons.mpr ⟨(Or.inr (List.mem_of_getElem? (i := 1) rfl)), List.forall_mem_cons.mpr ⟨(Or.inr (List.mem_of_getElem? (i := 0) rfl)), fun _ h => nomatch h⟩⟩)).tr ?_
      obtain ⟨v26, e27, h⟩ := uu_ob h
      obtain ⟨s28, e29, h⟩ := uu_ob h
      refine ((zc_X9_putFrom so_1075 so_1058 e29).mo (by decide) (by decide) (by decide) (List.forall_mem_cons.mpr ⟨(Or.inr (List.mem_of_getElem? (i := 1) rfl)), List.forall_mem_cons.mpr ⟨(Or.inr (List.mem_of_getElem? (i := 0) rfl)), fun _ h => nomatch h⟩⟩)).tr ?_
      exact zb_X7_writeAnswer_144 hk1 h
set_option maxRecDepth 100000 in
set_option maxHeartbeats 4000000 in
theorem zb_X7_finish_149      {s : uS} {r : uS}  (h : fb_X7_finish_149    s = some r) : agf [(1070, 5), (1070, 6), (1070, 7), (1070, 8), (1070, 9), (1070, 10), (1070, 13), (1070, 14), (1070, 15)] [1071, 1072] [] [1075, 1076, 1065, 1064, 1062, 1063] s r := by
  unfold fb_X7_finish_149 at h
  rcases uu_oe h with ⟨eo1, h⟩ | ⟨j1, eo1, h⟩
  · skip
    cases h
  · skip
    obtain ⟨hj1, h⟩ := uu_grd h
    obtain ⟨s2, e3, h⟩ := uu_ob h
    refine ((zc_X7_writeAnswer hj1 e3).mo (by decide) (by decide) (by decide) (List.forall_mem_cons.mpr ⟨(Or.inr (List.mem_of_getElem? (i := 1) rfl)), List.forall_mem_cons.mpr ⟨(Or.inr (List.mem_of_getElem? (i := 0) rfl)), fun _ h => nomatch h⟩⟩)).tr ?_
    have hr := Option.some.inj h
    subst hr
    exact agf.rf
set_option maxRecDepth 100000 in
set_option maxHeartbeats 4000000 in
theorem zb_X7_finish_59     {x1 : Int32} {s : uS} {r : uS}  (h : fb_X7_finish_59   x1 s = some r) : agf [(1070, 5), (1070, 6), (1070, 7), (1070, 8), (1070, 9), (1070, 10), (1070, 13), (1070, 14), (1070, 15)] [1071, 1072] [] [1075, 1076, 1065, 1064, 1062, 1063] s r := by
  unfold fb_X7_finish_59 at h
  rcases uu_oe h with ⟨eo1, h⟩ | ⟨j1, eo1, h⟩
  · skip
    have hr := Option.some.inj h
    subst hr
    exact agf.rf
  · skip
    obtain ⟨hj1, h⟩ := uu_grd h
    obtain ⟨v2, e3, h⟩ := uu_ob h
    by_cases c4 : v2 = true
    · replace h := uu_pos c4 h
      rcases uu_oe h with ⟨eo5, h⟩ | ⟨j5, eo5, h⟩
      · skip
        cases h
      · skip
        obtain ⟨hj5, h⟩ := uu_grd h
        obtain ⟨r6, e7, h⟩ := uu_ob h
        refine ((zc_X6_isAddressed hj5 e7).mo (by decide) (by decide) (by decide) (List.forall_mem_cons.mpr ⟨(Or.inr (List.mem_of_getElem? (i := 5) rfl)), List.forall_mem_cons.mpr ⟨(Or.inr (List.mem_of_getElem? (i := 4) rfl)), List.forall_mem_cons.mpr ⟨(Or.inr (List.mem_of_getElem? (i := 3) rfl)), List.forall_mem_cons.mpr ⟨(Or.inr (List.mem_of_getElem? (i := 2) rfl)), fun _ h => nomatch h⟩⟩⟩⟩)).tr ?_
        by_cases c8 : r6.2 = true
        · replace h := uu_pos c8 h
          obtain ⟨j9, e10, h⟩ := uu_ob h
          obtain ⟨g11, h⟩ := uu_grd h
          rcases uu_oe h with ⟨eo12, h⟩ | ⟨j12, eo12, h⟩
          · skip
            cases h
          · skip
            obtain ⟨hj12, h⟩ := uu_grd h
            obtain ⟨v13, e14, h⟩ := uu_ob h
            obtain ⟨v15, e16, h⟩ := uu_ob h
            rcases uu_oe h with ⟨eo17, h⟩ | ⟨j17, eo17, h⟩
            · skip
              exact zb_X7_finish_149  h
            · skip
              obtain ⟨g18, h⟩ := uu_grd h
              rcases uu_oe h with ⟨eo19, h⟩ | ⟨j19, eo19, h⟩
              · skip
                cases h
              · skip
                obtain ⟨hj19, h⟩ := uu_grd h
                obtain ⟨v20, e21, h⟩ := uu_ob h
                by_cases c22 : x1 < ((r6.1.I j17 5) + v20)
                · replace h := uu_pos c22 h
                  have hr := Option.some.inj h
                  subst hr
                  exact agf.rf
                · replace h := uu_neg c22 h
                  exact zb_X7_finish_149  h
        · replace h := uu_neg c8 h
          have hr := Option.some.inj h
          subst hr
          exact agf.rf
    · replace h := uu_neg c4 h
      have hr := Option.some.inj h
      subst hr
      exact agf.rf
set_option maxRecDepth 100000 in
set_option maxHeartbeats 4000000 in
theorem zb_X7_finish_27     {x1 : Int32} {s : uS} {r : uS}  (h : fb_X7_finish_27   x1 s = some r) : agf [(1070, 5), (1070, 6), (1070, 7), (1070, 8), (1070, 9), (1070, 10), (1070, 13), (1070, 14), (1070, 15)] [1071, 1072] [] [1075, 1076, 1065, 1064, 1062, 1063] s r := by
  unfold fb_X7_finish_27 at h
  rcases uu_oe h with ⟨eo1, h⟩ | ⟨j1, eo1, h⟩
  · skip
    exact zb_X7_finish_59  h
  · skip
    obtain ⟨hj1, h⟩ := uu_grd h
    obtain ⟨v2, e3, h⟩ := uu_ob h
    by_cases c4 : v2 ≤ 0
    · replace h := uu_pos c4 h
      exact zb_X7_finish_59  h
    · replace h := uu_neg c4 h
      rcases uu_oe h with ⟨eo5, h⟩ | ⟨j5, eo5, h⟩
      · skip
        cases h
      · skip
        obtain ⟨hj5, h⟩ := uu_grd h
        obtain ⟨s6, e7, h⟩ := uu_ob h
        refine ((zc_X7_writeAnswer hj5 e7).mo (by decide) (by decide) (by decide) (List.forall_mem_cons.mpr ⟨(Or.inr (List.mem_of_getElem? (i := 1) rfl)), List.forall_mem_cons.mpr ⟨(Or.inr (List.mem_of_getElem? (i := 0) rfl)), fun _ h => nomatch h⟩⟩)).tr ?_
        exact zb_X7_finish_59  h
set_option maxRecDepth 100000 in
set_option maxHeartbeats 4000000 in
theorem zb_X7_finish_11     {x1 : Int32} {s : uS} {r : uS}  (h : fb_X7_finish_11   x1 s = some r) : agf [(1070, 5), (1070, 6), (1070, 7), (1070, 8), (1070, 9), (1070, 10), (1070, 13), (1070, 14), (1070, 15)] [1071, 1072] [] [1075, 1076, 1065, 1064, 1062, 1063] s r := by
  unfold fb_X7_finish_11 at h
  by_cases c1 : (s.I 1070 14) = 0
  · replace h := uu_pos c1 h
    exact zb_X7_finish_27  h
  · replace h := uu_neg c1 h
    obtain ⟨s2, e3, h⟩ := uu_ob h
    refine ((zc_X7_addFile  e3).mo (by decide) (by decide) (by decide) (fun _ h => nomatch h)).tr ?_
    exact zb_X7_finish_27  h
set_option maxRecDepth 100000 in
set_option maxHeartbeats 4000000 in
theorem zc_X7_finish   {x1 : Int32} {s : uS} {r : uS}  (h : fn_X7_finish  x1 s = some r) : agf [(1070, 5), (1070, 6), (1070, 7), (1070, 8), (1070, 9), (1070, 10), (1070, 13), (1070, 14), (1070, 15)] [1071, 1072] [] [1075, 1076, 1065, 1064, 1062, 1063] s r := by
  unfold fn_X7_finish at h
  by_cases c1 : (s.I 1070 16) = 0
  · replace h := uu_pos c1 h
    exact zb_X7_finish_11  h
  · replace h := uu_neg c1 h
    obtain ⟨s2, e3, h⟩ := uu_ob h
    refine ((zc_X7_clearPlan  e3).mo (by decide) (by decide) (by decide) (fun _ h => nomatch h)).tr ?_
    exact zb_X7_finish_11  h
set_option maxRecDepth 100000 in
set_option maxHeartbeats 4000000 in
theorem zc_X9_copyOf   {k0 : Nat} {x1 : Int32} {s : uS} {r : (uS × Nat)} (hk0 : uSo k0 9) (h : fn_X9_copyOf  k0 x1 s = some r) : agf [] [] [12] [] s r.1 := by
  unfold fn_X9_copyOf at h
  obtain ⟨v1, e2, h⟩ := uu_ob h
  by_cases c3 : v1 = true
  · replace h := uu_pos c3 h
    obtain ⟨v4, e5, h⟩ := uu_ob h
    obtain ⟨v6, e7, h⟩ := uu_ob h
    obtain ⟨r8, e9, h⟩ := uu_ob h
    refine ((zc_J7_copyOfRange_39247  e9).mo (by decide) (by decide) (by decide) (fun _ h => nomatch h)).tr ?_
    have hr := Option.some.inj h
    subst hr
    exact agf.rf
  · replace h := uu_neg c3 h
    obtain ⟨s10, e11, h⟩ := uu_ob h
    refine (agf_nbuf e11 (by decide)).tr ?_
    have hr := Option.some.inj h
    subst hr
    exact agf.rf
set_option maxRecDepth 100000 in
set_option maxHeartbeats 4000000 in
theorem zc_X10_putScript   {k0 : Nat} {o1 : Option Nat} {k2 : Nat} {s : uS} {r : uS} (hk0 : uSo k0 10) (hk2 : uSo k2 9) (h : fn_X10_putScript  k0 o1 k2 s = some r) : agf [] [] [12] [k0 + 1, k0] s r := by
  unfold fn_X10_putScript at h
  cases o1 with
  | none =>
    by_cases c1 : (4 : Int32) ≤ (s.I k0 3)
    · replace h := uu_pos c1 h
      have hr := Option.some.inj h
      subst hr
      exact agf.rf
    · replace h := uu_neg c1 h
      obtain ⟨s2, e3, h⟩ := uu_ob h
      refine (agf_nent e3 (by decide)).tr ?_
      obtain ⟨r4, e5, h⟩ := uu_ob h
      refine ((zc_X9_copyOf hk2 e5).mo (by decide) (by decide) (by decide) (fun _ h => nomatch h)).tr ?_
      obtain ⟨r6, e7, h⟩ := uu_ob h
      refine ((zc_X9_copyOf hk2 e7).mo (by decide) (by decide) (by decide) (fun _ h => nomatch h)).tr ?_
      obtain ⟨g8, h⟩ := uu_grd h
      obtain ⟨s9, e10, h⟩ := uu_ob h
      refine ((zc_X1_init  e10).mo (by decide) (by decide) (by decide) (fun _ h => nomatch h)).tr ?_
      obtain ⟨s11, e12, h⟩ := uu_ob h
      refine (agf_pput e12 (Or.inr (Or.inr (List.mem_of_getElem? (i := 0) rfl)))).tr ?_
      refine (agf_wI (a := k0) (f := 3) (v := (s11.I k0 3) + 1) (Or.inr (Or.inr (List.mem_of_getElem? (i := 1) rfl)))).tr ?_
      have hr := Option.some.inj h
      subst hr
      exact agf.rf
  | some ko1 =>
    obtain ⟨r13, e14, h⟩ := uu_ob h
    refine ((zc_X9_copyOf hk2 e14).mo (by decide) (by decide) (by decide) (fun _ h => nomatch h)).tr ?_
    obtain ⟨g15, h⟩ := uu_grd h
    refine (agf_wR (a := ko1) (f := 1) (v := (some r13.2)) (Or.inr (Or.inl (by rw [rg_e g15]; decide)))).tr ?_
    have hr := Option.some.inj h
    subst hr
    exact agf.rf
set_option maxRecDepth 100000 in
set_option maxHeartbeats 4000000 in
theorem zb_X10_addNote_51     {k0 : Nat} {k1 : Nat} {k2 : Nat} {x3 : Int32} {s : uS} {r : uS} (hk0 : uSo k0 10) (h : fb_X10_addNote_51   k0 k1 k2 x3 s = some r) : agf [] [] [12] [k0, k0 + 2] s r := by
  unfold fb_X10_addNote_51 at h
  obtain ⟨s1, e2, h⟩ := uu_ob h
  refine (agf_nent e2 (by decide)).tr ?_
  obtain ⟨g3, h⟩ := uu_grd h
  obtain ⟨s4, e5, h⟩ := uu_ob h
  refine ((zc_X1_init  e5).mo (by decide) (by decide) (by decide) (fun _ h => nomatch h)).tr ?_
  obtain ⟨g6, h⟩ := uu_grd h
  refine (agf_wI (a := s.n) (f := 5) (v := x3) (Or.inr (Or.inl (by rw [rg_e g6]; decide)))).tr ?_
  obtain ⟨s7, e8, h⟩ := uu_ob h
  refine (agf_pput e8 (Or.inr (Or.inr (List.mem_of_getElem? (i := 1) rfl)))).tr ?_
  refine (agf_wI (a := k0) (f := 4) (v := (s7.I k0 4) + 1) (Or.inr (Or.inr (List.mem_of_getElem? (i := 0) rfl)))).tr ?_
  have hr := Option.some.inj h
  subst hr
  exact agf.rf
set_option maxRecDepth 100000 in
set_option maxHeartbeats 4000000 in
theorem zb_X10_addNote_12  {K12 : Nat → Nat → Nat → Int32 → Int32 → uS → Option uS}  (hK12 : ∀ (k0 : Nat) (k1 : Nat) (k2 : Nat) (x3 : Int32) (x4 : Int32) (hk0 : uSo k0 10) (s : uS) (r : uS), K12 k0 k1 k2 x3 x4 s = some r → agf [] [] [12] [k0, k0 + 2] s r) {k0 : Nat} {k1 : Nat} {k2 : Nat} {x3 : Int32} {x4 : Int32} {s : uS} {r : uS} (hk0 : uSo k0 10) (h : fb_X10_addNote_12  K12 k0 k1 k2 x3 x4 s = some r) : agf [] [] [12] [k0, k0 + 2] s r := by
  unfold fb_X10_addNote_12 at h
  by_cases c1 : (40 : Int32) ≤ x4
  · replace h := uu_pos c1 h
    refine (agf_wI (a := k0) (f := 4) (v := (s.I k0 4) - 1) (Or.inr (Or.inr (List.mem_of_getElem? (i := 0) rfl)))).tr ?_
    exact zb_X10_addNote_51 hk0 h
  · replace h := uu_neg c1 h
    obtain ⟨j2, e3, h⟩ := uu_ob h
    obtain ⟨s4, e5, h⟩ := uu_ob h
    refine (agf_pput e5 (Or.inr (Or.inr (List.mem_of_getElem? (i := 1) rfl)))).tr ?_
    exact hK12 k0 k1 k2 x3 (x4 + 1) hk0 _ _ h
set_option maxRecDepth 100000 in
set_option maxHeartbeats 4000000 in
theorem zn_X10_addNote_12     : ∀ (n : Nat) (k0 : Nat) (k1 : Nat) (k2 : Nat) (x3 : Int32) (x4 : Int32) (hk0 : uSo k0 10) (s : uS) (r : uS), fn_X10_addNote_12   n k0 k1 k2 x3 x4 s = some r → agf [] [] [12] [k0, k0 + 2] s r := by
  intro n
  induction n with
  | zero => intro k0 k1 k2 x3 x4 hk0 s r h
            cases h
  | succ n ih => intro k0 k1 k2 x3 x4 hk0 s r h
                 exact zb_X10_addNote_12  ih hk0 h
set_option maxRecDepth 100000 in
set_option maxHeartbeats 4000000 in
theorem zc_X10_addNote   {k0 : Nat} {k1 : Nat} {k2 : Nat} {x3 : Int32} {s : uS} {r : uS} (hk0 : uSo k0 10) (h : fn_X10_addNote  k0 k1 k2 x3 s = some r) : agf [] [] [12] [k0, k0 + 2] s r := by
  unfold fn_X10_addNote at h
  by_cases c1 : (s.I k0 4) = 40
  · replace h := uu_pos c1 h
    exact zn_X10_addNote_12  _ _ _ _ _ _ hk0 _ _ h
  · replace h := uu_neg c1 h
    exact zb_X10_addNote_51 hk0 h
set_option maxRecDepth 100000 in
set_option maxHeartbeats 4000000 in
theorem zb_X11_storePlan_156  {K156 : Nat → Nat → Int32 → uS → Option uS}  (hK156 : ∀ (k2 : Nat) (k4 : Nat) (x5 : Int32) (hk2 : uSo k2 10) (s : uS) (r : uS), K156 k2 k4 x5 s = some r → agf [(0, 10), (0, 11), (0, 12)] [5] [7, 12] [] s r) {k2 : Nat} {k4 : Nat} {x5 : Int32} {s : uS} {r : uS} (hk2 : uSo k2 10) (h : fb_X11_storePlan_156  K156 k2 k4 x5 s = some r) : agf [(0, 10), (0, 11), (0, 12)] [5] [7, 12] [] s r := by
  unfold fb_X11_storePlan_156 at h
  by_cases c1 : (s.I 1070 7) ≤ x5
  · replace h := uu_pos c1 h
    by_cases c2 : (s.I 1070 8) = 0
    · replace h := uu_pos c2 h
      have hr := Option.some.inj h
      subst hr
      exact agf.rf
    · replace h := uu_neg c2 h
      obtain ⟨r3, e4, h⟩ := uu_ob h
      refine ((zc_X9_copyOf so_1043 e4).mo (by decide) (by decide) (by decide) (fun _ h => nomatch h)).tr ?_
      obtain ⟨s5, e6, h⟩ := uu_ob h
      refine (agf_nent e6 (by decide)).tr ?_
      obtain ⟨r7, e8, h⟩ := uu_ob h
      refine ((zc_J7_copyOf_9075b  e8).mo (by decide) (by decide) (by decide) (fun _ h => nomatch h)).tr ?_
      obtain ⟨g9, h⟩ := uu_grd h
      obtain ⟨s10, e11, h⟩ := uu_ob h
      refine ((zc_X1_init  e11).mo (by decide) (by decide) (by decide) (fun _ h => nomatch h)).tr ?_
      obtain ⟨s12, e13, h⟩ := uu_ob h
      refine ((zc_X11_storeMail  e13).mo (by decide) (by decide) (by decide) (fun _ h => nomatch h)).tr ?_
      rcases uu_oe h with ⟨eo14, h⟩ | ⟨j14, eo14, h⟩
      · skip
        have hr := Option.some.inj h
        subst hr
        exact agf.rf
      · skip
        obtain ⟨hj14, h⟩ := uu_grd h
        rcases uu_oe h with ⟨eo15, h⟩ | ⟨j15, eo15, h⟩
        · skip
          cases h
        · skip
          obtain ⟨hj15, h⟩ := uu_grd h
          obtain ⟨v16, e17, h⟩ := uu_ob h
          obtain ⟨r18, e19, h⟩ := uu_ob h
          refine ((zc_X9_copyOf so_8 e19).mo (by decide) (by decide) (by decide) (fun _ h => nomatch h)).tr ?_
          obtain ⟨s20, e21, h⟩ := uu_ob h
          refine ((zc_X10_addNote hk2 e21).mo (by decide) (by decide) (by decide) (List.forall_mem_cons.mpr ⟨(Or.inl (by rw [show k2 = k2 + 0 from rfl, rg_X10 (d := 0) hk2 (by decide)]; decide)), List.forall_mem_cons.mpr ⟨(Or.inl (by rw [rg_X10 (d := 2) hk2 (by decide)]; decide)), fun _ h => nomatch h⟩⟩)).tr ?_
          have hr := Option.some.inj h
          subst hr
          exact agf.rf
  · replace h := uu_neg c1 h
    obtain ⟨s22, e23, h⟩ := uu_ob h
    refine (agf_nent e23 (by decide)).tr ?_
    obtain ⟨v24, e25, h⟩ := uu_ob h
    obtain ⟨r26, e27, h⟩ := uu_ob h
    refine ((zc_X9_copyOf so_8 e27).mo (by decide) (by decide) (by decide) (fun _ h => nomatch h)).tr ?_
    obtain ⟨g28, h⟩ := uu_grd h
    obtain ⟨s29, e30, h⟩ := uu_ob h
    refine ((zc_X1_init  e30).mo (by decide) (by decide) (by decide) (fun _ h => nomatch h)).tr ?_
    obtain ⟨s31, e32, h⟩ := uu_ob h
    refine ((zc_X11_storeMail  e32).mo (by decide) (by decide) (by decide) (fun _ h => nomatch h)).tr ?_
    exact hK156 k2 k4 (x5 + 1) hk2 _ _ h
set_option maxRecDepth 100000 in
set_option maxHeartbeats 4000000 in
theorem zn_X11_storePlan_156     : ∀ (n : Nat) (k2 : Nat) (k4 : Nat) (x5 : Int32) (hk2 : uSo k2 10) (s : uS) (r : uS), fn_X11_storePlan_156   n k2 k4 x5 s = some r → agf [(0, 10), (0, 11), (0, 12)] [5] [7, 12] [] s r := by
  intro n
  induction n with
  | zero => intro k2 k4 x5 hk2 s r h
            cases h
  | succ n ih => intro k2 k4 x5 hk2 s r h
                 exact zb_X11_storePlan_156  ih hk2 h
set_option maxRecDepth 100000 in
set_option maxHeartbeats 4000000 in
theorem zb_X11_storePlan_79  {K79 : Int32 → Nat → Nat → Int32 → uS → Option uS}  (hK79 : ∀ (x1 : Int32) (k2 : Nat) (k4 : Nat) (x5 : Int32) (hk2 : uSo k2 10) (s : uS) (r : uS), K79 x1 k2 k4 x5 s = some r → agf [(0, 10), (0, 11), (0, 12)] [5] [7, 12] [] s r) {x1 : Int32} {k2 : Nat} {k4 : Nat} {x5 : Int32} {s : uS} {r : uS} (hk2 : uSo k2 10) (h : fb_X11_storePlan_79  K79 x1 k2 k4 x5 s = some r) : agf [(0, 10), (0, 11), (0, 12)] [5] [7, 12] [] s r := by
  unfold fb_X11_storePlan_79 at h
  by_cases c1 : (s.I 1070 5) ≤ x5
  · replace h := uu_pos c1 h
    exact zn_X11_storePlan_156  _ _ _ _ hk2 _ _ h
  · replace h := uu_neg c1 h
    obtain ⟨s2, e3, h⟩ := uu_ob h
    refine (agf_nent e3 (by decide)).tr ?_
    obtain ⟨s4, e5, h⟩ := uu_ob h
    refine ((zc_X1_init  e5).mo (by decide) (by decide) (by decide) (fun _ h => nomatch h)).tr ?_
    obtain ⟨g6, h⟩ := uu_grd h
    refine (agf_wI (a := s.n) (f := 2) (v := x1) (Or.inr (Or.inl (by rw [rg_e g6]; decide)))).tr ?_
    obtain ⟨v7, e8, h⟩ := uu_ob h
    obtain ⟨g9, h⟩ := uu_grd h
    refine (agf_wI (a := s.n) (f := 3) (v := v7) (Or.inr (Or.inl (by rw [rg_e g9]; decide)))).tr ?_
    obtain ⟨v10, e11, h⟩ := uu_ob h
    obtain ⟨g12, h⟩ := uu_grd h
    refine (agf_wI (a := s.n) (f := 4) (v := v10) (Or.inr (Or.inl (by rw [rg_e g12]; decide)))).tr ?_
    obtain ⟨s13, e14, h⟩ := uu_ob h
    refine ((zc_X11_storeMail  e14).mo (by decide) (by decide) (by decide) (fun _ h => nomatch h)).tr ?_
    exact hK79 x1 k2 k4 (x5 + 1) hk2 _ _ h
set_option maxRecDepth 100000 in
set_option maxHeartbeats 4000000 in
theorem zn_X11_storePlan_79     : ∀ (n : Nat) (x1 : Int32) (k2 : Nat) (k4 : Nat) (x5 : Int32) (hk2 : uSo k2 10) (s : uS) (r : uS), fn_X11_storePlan_79   n x1 k2 k4 x5 s = some r → agf [(0, 10), (0, 11), (0, 12)] [5] [7, 12] [] s r := by
  intro n
  induction n with
  | zero => intro x1 k2 k4 x5 hk2 s r h
            cases h
  | succ n ih => intro x1 k2 k4 x5 hk2 s r h
                 exact zb_X11_storePlan_79  ih hk2 h
set_option maxRecDepth 100000 in
set_option maxHeartbeats 4000000 in
theorem zb_X11_storePlan_21  {K21 : Int32 → Nat → Int32 → uS → Option uS}  (hK21 : ∀ (x1 : Int32) (k2 : Nat) (x4 : Int32) (hk2 : uSo k2 10) (s : uS) (r : uS), K21 x1 k2 x4 s = some r → agf [(0, 10), (0, 11), (0, 12)] [5] [7, 12] [] s r) {x1 : Int32} {k2 : Nat} {x4 : Int32} {s : uS} {r : uS} (hk2 : uSo k2 10) (h : fb_X11_storePlan_21  K21 x1 k2 x4 s = some r) : agf [(0, 10), (0, 11), (0, 12)] [5] [7, 12] [] s r := by
  unfold fb_X11_storePlan_21 at h
  by_cases c1 : (s.I 1070 6) ≤ x4
  · replace h := uu_pos c1 h
    obtain ⟨r2, e3, h⟩ := uu_ob h
    refine ((zc_J7_copyOf_9075b  e3).mo (by decide) (by decide) (by decide) (fun _ h => nomatch h)).tr ?_
    exact zn_X11_storePlan_79  _ _ _ _ _ hk2 _ _ h
  · replace h := uu_neg c1 h
    obtain ⟨v4, e5, h⟩ := uu_ob h
    obtain ⟨s6, e7, h⟩ := uu_ob h
    refine ((zc_X9_addFrom (so_boxes hk2) so_8 e7).mo (by decide) (by decide) (by decide) (List.forall_mem_cons.mpr ⟨(Or.inl (by rw [rg_X10 (d := 6) hk2 (by decide)]; decide)), List.forall_mem_cons.mpr ⟨(Or.inl (by rw [rg_X10 (d := 5) hk2 (by decide)]; decide)), List.forall_mem_cons.mpr ⟨(Or.inl (by rw [rg_X10 (d := 3) hk2 (by decide)]; decide)), List.forall_mem_cons.mpr ⟨(Or.inl (by rw [rg_X10 (d := 4) hk2 (by decide)]; decide)), fun _ h => nomatch h⟩⟩⟩⟩)).tr ?_
    exact hK21 x1 k2 (x4 + 1) hk2 _ _ h
set_option maxRecDepth 100000 in
set_option maxHeartbeats 4000000 in
theorem zn_X11_storePlan_21     : ∀ (n : Nat) (x1 : Int32) (k2 : Nat) (x4 : Int32) (hk2 : uSo k2 10) (s : uS) (r : uS), fn_X11_storePlan_21   n x1 k2 x4 s = some r → agf [(0, 10), (0, 11), (0, 12)] [5] [7, 12] [] s r := by
  intro n
  induction n with
  | zero => intro x1 k2 x4 hk2 s r h
            cases h
  | succ n ih => intro x1 k2 x4 hk2 s r h
                 exact zb_X11_storePlan_21  ih hk2 h
set_option maxRecDepth 100000 in
set_option maxHeartbeats 4000000 in
theorem zc_X11_storePlan   {x1 : Int32} {s : uS} {r : uS}  (h : fn_X11_storePlan  x1 s = some r) : agf [(0, 10), (0, 11), (0, 12)] [5] [7, 12] [] s r := by
  unfold fn_X11_storePlan at h
  obtain ⟨j1, e2, h⟩ := uu_ob h
  obtain ⟨g3, h⟩ := uu_grd h
  exact zn_X11_storePlan_21  _ _ _ _ g3 _ _ h
set_option maxRecDepth 100000 in
set_option maxHeartbeats 4000000 in
theorem zb_X11_deliver_181      {s : uS} {r : uS}  (h : fb_X11_deliver_181    s = some r) : agf [(0, 10), (0, 11), (0, 12), (0, 14), (0, 15), (0, 16), (6, 2), (6, 5), (6, 6), (6, 7), (6, 8), (7, 1), (7, 2), (7, 3), (7, 4), (7, 5), (7, 6), (7, 7), (7, 8), (1042, 4), (1042, 7), (1042, 8), (1042, 9), (1042, 10), (1070, 5), (1070, 6), (1070, 7), (1070, 8), (1070, 9), (1070, 10), (1070, 11), (1070, 12), (1070, 13), (1070, 14), (1070, 15), (1070, 16), (1070, 17)] [5, 14, 15, 1064, 1065, 1071, 1072, 1073, 1074] [4, 5, 6, 7, 12] [9, 8, 10, 11, 1068, 1069, 1067, 1066, 1065, 1064, 1062, 1063, 1076, 1075, 1047, 1043, 1040, 1041, 1059, 1058, 1061, 1060, 1054, 1055, 1057, 1056] s r := by
  unfold fb_X11_deliver_181 at h
  obtain ⟨s1, e2, h⟩ := uu_ob h
  refine ((zc_X0_forget  e2).mo (by decide) (by decide) (by decide) (List.forall_mem_cons.mpr ⟨(Or.inr (List.mem_of_getElem? (i := 15) rfl)), List.forall_mem_cons.mpr ⟨(Or.inr (List.mem_of_getElem? (i := 14) rfl)), fun _ h => nomatch h⟩⟩)).tr ?_
  have hr := Option.some.inj h
  subst hr
  exact agf.rf
set_option maxRecDepth 100000 in
set_option maxHeartbeats 4000000 in
theorem zb_X11_deliver_122  {K20 : Int32 → Int32 → uS → Option uS}  (hK20 : ∀ (x1 : Int32) (x2 : Int32)  (s : uS) (r : uS), K20 x1 x2 s = some r → agf [(0, 10), (0, 11), (0, 12), (0, 14), (0, 15), (0, 16), (6, 2), (6, 5), (6, 6), (6, 7), (6, 8), (7, 1), (7, 2), (7, 3), (7, 4), (7, 5), (7, 6), (7, 7), (7, 8), (1042, 4), (1042, 7), (1042, 8), (1042, 9), (1042, 10), (1070, 5), (1070, 6), (1070, 7), (1070, 8), (1070, 9), (1070, 10), (1070, 11), (1070, 12), (1070, 13), (1070, 14), (1070, 15), (1070, 16), (1070, 17)] [5, 14, 15, 1064, 1065, 1071, 1072, 1073, 1074] [4, 5, 6, 7, 12] [9, 8, 10, 11, 1068, 1069, 1067, 1066, 1065, 1064, 1062, 1063, 1076, 1075, 1047, 1043, 1040, 1041, 1059, 1058, 1061, 1060, 1054, 1055, 1057, 1056] s r) {x1 : Int32} {x2 : Int32} {x3 : Int32} {s : uS} {r : uS}  (h : fb_X11_deliver_122  K20 x1 x2 x3 s = some r) : agf [(0, 10), (0, 11), (0, 12), (0, 14), (0, 15), (0, 16), (6, 2), (6, 5), (6, 6), (6, 7), (6, 8), (7, 1), (7, 2), (7, 3), (7, 4), (7, 5), (7, 6), (7, 7), (7, 8), (1042, 4), (1042, 7), (1042, 8), (1042, 9), (1042, 10), (1070, 5), (1070, 6), (1070, 7), (1070, 8), (1070, 9), (1070, 10), (1070, 11), (1070, 12), (1070, 13), (1070, 14), (1070, 15), (1070, 16), (1070, 17)] [5, 14, 15, 1064, 1065, 1071, 1072, 1073, 1074] [4, 5, 6, 7, 12] [9, 8, 10, 11, 1068, 1069, 1067, 1066, 1065, 1064, 1062, 1063, 1076, 1075, 1047, 1043, 1040, 1041, 1059, 1058, 1061, 1060, 1054, 1055, 1057, 1056] s r := by
  unfold fb_X11_deliver_122 at h
  obtain ⟨s1, e2, h⟩ := uu_ob h
  refine ((zc_X7_finish  e2).mo (by decide) (by decide) (by decide) (List.forall_mem_cons.mpr ⟨(Or.inr (List.mem_of_getElem? (i := 13) rfl)), List.forall_mem_cons.mpr ⟨(Or.inr (List.mem_of_getElem? (i := 12) rfl)), List.forall_mem_cons.mpr ⟨(Or.inr (List.mem_of_getElem? (i := 8) rfl)), List.forall_mem_cons.mpr ⟨(Or.inr (List.mem_of_getElem? (i := 9) rfl)), List.forall_mem_cons.mpr ⟨(Or.inr (List.mem_of_getElem? (i := 10) rfl)), List.forall_mem_cons.mpr ⟨(Or.inr (List.mem_of_getElem? (i := 11) rfl)), fun _ h => nomatch h⟩⟩⟩⟩⟩⟩)).tr ?_
  obtain ⟨v3, e4, h⟩ := uu_ob h
  by_cases c5 : v3 = true
  · replace h := uu_pos c5 h
    obtain ⟨r6, e7, h⟩ := uu_ob h
    refine ((zc_X11_commit  e7).mo (by decide) (by decide) (by decide) (List.forall_mem_cons.mpr ⟨(Or.inr (List.mem_of_getElem? (i := 15) rfl)), List.forall_mem_cons.mpr ⟨(Or.inr (List.mem_of_getElem? (i := 14) rfl)), fun _ h => nomatch h⟩⟩)).tr ?_
    by_cases c8 : r6.2 = true
    · replace h := uu_pos c8 h
      obtain ⟨s9, e10, h⟩ := uu_ob h
      refine ((zc_X11_storePlan  e10).mo (by decide) (by decide) (by decide) (fun _ h => nomatch h)).tr ?_
      obtain ⟨s11, e12, h⟩ := uu_ob h
      refine ((zc_X0_answerDelivered  e12).mo (by decide) (by decide) (by decide) (List.forall_mem_cons.mpr ⟨(Or.inr (List.mem_of_getElem? (i := 17) rfl)), List.forall_mem_cons.mpr ⟨(Or.inr (List.mem_of_getElem? (i := 16) rfl)), fun _ h => nomatch h⟩⟩)).tr ?_
      exact hK20 x1 (x2 + 1) _ _ h
    · replace h := uu_neg c8 h
      exact hK20 x1 (x2 + 1) _ _ h
  · replace h := uu_neg c5 h
    obtain ⟨j13, e14, h⟩ := uu_ob h
    obtain ⟨g15, h⟩ := uu_grd h
    obtain ⟨s17, e18, h⟩ := uu_ob h
    refine ((zc_X5_line g15 e18).mo (by decide) (by decide) (by decide) (List.forall_mem_cons.mpr ⟨(Or.inl (by rw [rg_X5 (d := 1) g15 (by decide)]; decide)), List.forall_mem_cons.mpr ⟨(Or.inl (by rw [show j13 = j13 + 0 from rfl, rg_X5 (d := 0) g15 (by decide)]; decide)), fun _ h => nomatch h⟩⟩)).tr ?_
    exact hK20 x1 (x2 + 1) _ _ h
set_option maxRecDepth 100000 in
set_option maxHeartbeats 4000000 in
theorem zb_X11_deliver_20  {K20 : Int32 → Int32 → uS → Option uS}  (hK20 : ∀ (x1 : Int32) (x2 : Int32)  (s : uS) (r : uS), K20 x1 x2 s = some r → agf [(0, 10), (0, 11), (0, 12), (0, 14), (0, 15), (0, 16), (6, 2), (6, 5), (6, 6), (6, 7), (6, 8), (7, 1), (7, 2), (7, 3), (7, 4), (7, 5), (7, 6), (7, 7), (7, 8), (1042, 4), (1042, 7), (1042, 8), (1042, 9), (1042, 10), (1070, 5), (1070, 6), (1070, 7), (1070, 8), (1070, 9), (1070, 10), (1070, 11), (1070, 12), (1070, 13), (1070, 14), (1070, 15), (1070, 16), (1070, 17)] [5, 14, 15, 1064, 1065, 1071, 1072, 1073, 1074] [4, 5, 6, 7, 12] [9, 8, 10, 11, 1068, 1069, 1067, 1066, 1065, 1064, 1062, 1063, 1076, 1075, 1047, 1043, 1040, 1041, 1059, 1058, 1061, 1060, 1054, 1055, 1057, 1056] s r) {x1 : Int32} {x2 : Int32} {s : uS} {r : uS}  (h : fb_X11_deliver_20  K20 x1 x2 s = some r) : agf [(0, 10), (0, 11), (0, 12), (0, 14), (0, 15), (0, 16), (6, 2), (6, 5), (6, 6), (6, 7), (6, 8), (7, 1), (7, 2), (7, 3), (7, 4), (7, 5), (7, 6), (7, 7), (7, 8), (1042, 4), (1042, 7), (1042, 8), (1042, 9), (1042, 10), (1070, 5), (1070, 6), (1070, 7), (1070, 8), (1070, 9), (1070, 10), (1070, 11), (1070, 12), (1070, 13), (1070, 14), (1070, 15), (1070, 16), (1070, 17)] [5, 14, 15, 1064, 1065, 1071, 1072, 1073, 1074] [4, 5, 6, 7, 12] [9, 8, 10, 11, 1068, 1069, 1067, 1066, 1065, 1064, 1062, 1063, 1076, 1075, 1047, 1043, 1040, 1041, 1059, 1058, 1061, 1060, 1054, 1055, 1057, 1056] s r := by
  unfold fb_X11_deliver_20 at h
  by_cases c1 : x1 ≤ x2
  · replace h := uu_pos c1 h
    exact zb_X11_deliver_181  h
  · replace h := uu_neg c1 h
    by_cases c2 : (s.I 0 16) = 0
    · replace h := uu_pos c2 h
      exact zb_X11_deliver_181  h
    · replace h := uu_neg c2 h
      obtain ⟨v3, e4, h⟩ := uu_ob h
      by_cases c5 : v3 = true
      · replace h := uu_pos c5 h
        obtain ⟨j6, e7, h⟩ := uu_ob h
        obtain ⟨g8, h⟩ := uu_grd h
        obtain ⟨s10, e11, h⟩ := uu_ob h
        refine ((zc_X5_line g8 e11).mo (by decide) (by decide) (by decide) (List.forall_mem_cons.mpr ⟨(Or.inl (by rw [rg_X5 (d := 1) g8 (by decide)]; decide)), List.forall_mem_cons.mpr ⟨(Or.inl (by rw [show j6 = j6 + 0 from rfl, rg_X5 (d := 0) g8 (by decide)]; decide)), fun _ h => nomatch h⟩⟩)).tr ?_
        exact hK20 x1 (x2 + 1) _ _ h
      · replace h := uu_neg c5 h
        obtain ⟨v12, e13, h⟩ := uu_ob h
        obtain ⟨j14, e15, h⟩ := uu_ob h
        obtain ⟨g16, h⟩ := uu_grd h
        rcases uu_oe h with ⟨eo17, h⟩ | ⟨j17, eo17, h⟩
        · skip
          obtain ⟨j18, e19, h⟩ := uu_ob h
          obtain ⟨g20, h⟩ := uu_grd h
          obtain ⟨s21, e22, h⟩ := uu_ob h
          refine ((zc_X7_begin g20 e22).mo (by decide) (by decide) (by decide) (fun _ h => nomatch h)).tr ?_
          exact zb_X11_deliver_122 hK20 h
        · skip
          obtain ⟨j23, e24, h⟩ := uu_ob h
          obtain ⟨g25, h⟩ := uu_grd h
          obtain ⟨s26, e27, h⟩ := uu_ob h
          refine ((zc_X7_begin g25 e27).mo (by decide) (by decide) (by decide) (fun _ h => nomatch h)).tr ?_
          obtain ⟨g28, h⟩ := uu_grd h
          obtain ⟨j29, e30, h⟩ := uu_ob h
          obtain ⟨g31, h⟩ := uu_grd h
          obtain ⟨j32, e33, h⟩ := uu_ob h
          obtain ⟨v34, e35, h⟩ := uu_ob h
          obtain ⟨r36, e37, h⟩ := uu_ob h
          refine ((zc_X4_parse  e37).mo (by decide) (by decide) (by decide) (List.forall_mem_cons.mpr ⟨(Or.inr (List.mem_of_getElem? (i := 3) rfl)), List.forall_mem_cons.mpr ⟨(Or.inr (List.mem_of_getElem? (i := 2) rfl)), List.forall_mem_cons.mpr ⟨(Or.inr (List.mem_of_getElem? (i := 1) rfl)), List.forall_mem_cons.mpr ⟨(Or.inr (List.mem_of_getElem? (i := 0) rfl)), fun _ h => nomatch h⟩⟩⟩⟩)).tr ?_
          obtain ⟨s38, e39, h⟩ := uu_ob h
          refine ((zc_X7_run  e39).mo (by decide) (by decide) (by decide) (List.forall_mem_cons.mpr ⟨(Or.inr (List.mem_of_getElem? (i := 0) rfl)), List.forall_mem_cons.mpr ⟨(Or.inr (List.mem_of_getElem? (i := 11) rfl)), List.forall_mem_cons.mpr ⟨(Or.inr (List.mem_of_getElem? (i := 10) rfl)), List.forall_mem_cons.mpr ⟨(Or.inr (List.mem_of_getElem? (i := 9) rfl)), List.forall_mem_cons.mpr ⟨(Or.inr (List.mem_of_getElem? (i := 8) rfl)), List.forall_mem_cons.mpr ⟨(Or.inr (List.mem_of_getElem? (i := 7) rfl)), List.forall_mem_cons.mpr ⟨(Or.inr (List.mem_of_getElem? (i := 6) rfl)), List.forall_mem_cons.mpr ⟨(Or.inr (List.mem_of_getElem? (i := 5) rfl)), List.forall_mem_cons.mpr ⟨(Or.inr (List.mem_of_getElem? (i := 4) rfl)), fun _ h => nomatch h⟩⟩⟩⟩⟩⟩⟩⟩⟩)).tr ?_
          exact zb_X11_deliver_122 hK20 h
set_option maxRecDepth 100000 in
set_option maxHeartbeats 4000000 in
theorem zn_X11_deliver_20     : ∀ (n : Nat) (x1 : Int32) (x2 : Int32)  (s : uS) (r : uS), fn_X11_deliver_20   n x1 x2 s = some r → agf [(0, 10), (0, 11), (0, 12), (0, 14), (0, 15), (0, 16), (6, 2), (6, 5), (6, 6), (6, 7), (6, 8), (7, 1), (7, 2), (7, 3), (7, 4), (7, 5), (7, 6), (7, 7), (7, 8), (1042, 4), (1042, 7), (1042, 8), (1042, 9), (1042, 10), (1070, 5), (1070, 6), (1070, 7), (1070, 8), (1070, 9), (1070, 10), (1070, 11), (1070, 12), (1070, 13), (1070, 14), (1070, 15), (1070, 16), (1070, 17)] [5, 14, 15, 1064, 1065, 1071, 1072, 1073, 1074] [4, 5, 6, 7, 12] [9, 8, 10, 11, 1068, 1069, 1067, 1066, 1065, 1064, 1062, 1063, 1076, 1075, 1047, 1043, 1040, 1041, 1059, 1058, 1061, 1060, 1054, 1055, 1057, 1056] s r := by
  intro n
  induction n with
  | zero => intro x1 x2  s r h
            cases h
  | succ n ih => intro x1 x2  s r h
                 exact zb_X11_deliver_20  ih  h
set_option maxRecDepth 100000 in
set_option maxHeartbeats 4000000 in
theorem zc_X11_deliver    {s : uS} {r : uS}  (h : fn_X11_deliver   s = some r) : agf [(0, 10), (0, 11), (0, 12), (0, 14), (0, 15), (0, 16), (6, 2), (6, 5), (6, 6), (6, 7), (6, 8), (7, 1), (7, 2), (7, 3), (7, 4), (7, 5), (7, 6), (7, 7), (7, 8), (1042, 4), (1042, 7), (1042, 8), (1042, 9), (1042, 10), (1070, 5), (1070, 6), (1070, 7), (1070, 8), (1070, 9), (1070, 10), (1070, 11), (1070, 12), (1070, 13), (1070, 14), (1070, 15), (1070, 16), (1070, 17)] [5, 14, 15, 1064, 1065, 1071, 1072, 1073, 1074] [4, 5, 6, 7, 12] [9, 8, 10, 11, 1068, 1069, 1067, 1066, 1065, 1064, 1062, 1063, 1076, 1075, 1047, 1043, 1040, 1041, 1059, 1058, 1061, 1060, 1054, 1055, 1057, 1056] s r := by
  unfold fn_X11_deliver at h
  obtain ⟨s1, e2, h⟩ := uu_ob h
  refine ((zc_X6_readHeader  e2).mo (by decide) (by decide) (by decide) (List.forall_mem_cons.mpr ⟨(Or.inr (List.mem_of_getElem? (i := 25) rfl)), List.forall_mem_cons.mpr ⟨(Or.inr (List.mem_of_getElem? (i := 24) rfl)), List.forall_mem_cons.mpr ⟨(Or.inr (List.mem_of_getElem? (i := 23) rfl)), List.forall_mem_cons.mpr ⟨(Or.inr (List.mem_of_getElem? (i := 22) rfl)), List.forall_mem_cons.mpr ⟨(Or.inr (List.mem_of_getElem? (i := 21) rfl)), List.forall_mem_cons.mpr ⟨(Or.inr (List.mem_of_getElem? (i := 20) rfl)), List.forall_mem_cons.mpr ⟨(Or.inr (List.mem_of_getElem? (i := 19) rfl)), List.forall_mem_cons.mpr ⟨(Or.inr (List.mem_of_getElem? (i := 18) rfl)), fun _ h => nomatch h⟩⟩⟩⟩⟩⟩⟩⟩)).tr ?_
  exact zn_X11_deliver_20  _ _ _ _ _ h
set_option maxRecDepth 100000 in
set_option maxHeartbeats 4000000 in
theorem zb_X11_mail_33  {K33 : Int32 → Int32 → uS → Option (uS × Int32)}  (hK33 : ∀ (x1 : Int32) (x2 : Int32)  (s : uS) (r : (uS × Int32)), K33 x1 x2 s = some r → agf [(0, 9), (0, 10), (0, 11), (0, 12), (0, 14), (0, 15), (0, 16), (6, 2), (6, 5), (6, 6), (6, 7), (6, 8), (7, 1), (7, 2), (7, 3), (7, 4), (7, 5), (7, 6), (7, 7), (7, 8), (1042, 3), (1042, 4), (1042, 7), (1042, 8), (1042, 9), (1042, 10), (1042, 11), (1070, 5), (1070, 6), (1070, 7), (1070, 8), (1070, 9), (1070, 10), (1070, 11), (1070, 12), (1070, 13), (1070, 14), (1070, 15), (1070, 16), (1070, 17)] [5, 14, 15, 1051, 1052, 1064, 1065, 1071, 1072, 1073, 1074] [4, 5, 6, 7, 12] [1048, 1050, 1049, 1044, 1046, 1045, 1047, 1043, 1041, 1040, 1056, 1057, 1055, 1054, 1060, 1061, 1058, 1059, 1075, 1076, 1063, 1062, 1064, 1065, 1066, 1067, 1069, 1068, 11, 10, 8, 9] s r.1) {x1 : Int32} {x2 : Int32} {s : uS} {r : (uS × Int32)}  (h : fb_X11_mail_33  K33 x1 x2 s = some r) : agf [(0, 9), (0, 10), (0, 11), (0, 12), (0, 14), (0, 15), (0, 16), (6, 2), (6, 5), (6, 6), (6, 7), (6, 8), (7, 1), (7, 2), (7, 3), (7, 4), (7, 5), (7, 6), (7, 7), (7, 8), (1042, 3), (1042, 4), (1042, 7), (1042, 8), (1042, 9), (1042, 10), (1042, 11), (1070, 5), (1070, 6), (1070, 7), (1070, 8), (1070, 9), (1070, 10), (1070, 11), (1070, 12), (1070, 13), (1070, 14), (1070, 15), (1070, 16), (1070, 17)] [5, 14, 15, 1051, 1052, 1064, 1065, 1071, 1072, 1073, 1074] [4, 5, 6, 7, 12] [1048, 1050, 1049, 1044, 1046, 1045, 1047, 1043, 1041, 1040, 1056, 1057, 1055, 1054, 1060, 1061, 1058, 1059, 1075, 1076, 1063, 1062, 1064, 1065, 1066, 1067, 1069, 1068, 11, 10, 8, 9] s r.1 := by
  unfold fb_X11_mail_33 at h
  by_cases c1 : x1 ≤ x2
  · replace h := uu_pos c1 h
    refine (agf_wI (a := 0) (f := 9) (v := 0) (Or.inl (by decide))).tr ?_
    have hr := Option.some.inj h
    subst hr
    exact agf.rf
  · replace h := uu_neg c1 h
    by_cases c2 : (6000 : Int32) ≤ x2
    · replace h := uu_pos c2 h
      refine (agf_wI (a := 0) (f := 9) (v := 0) (Or.inl (by decide))).tr ?_
      have hr := Option.some.inj h
      subst hr
      exact agf.rf
    · replace h := uu_neg c2 h
      by_cases c3 : (s.I 0 16) = 0
      · replace h := uu_pos c3 h
        refine (agf_wI (a := 0) (f := 9) (v := 0) (Or.inl (by decide))).tr ?_
        have hr := Option.some.inj h
        subst hr
        exact agf.rf
      · replace h := uu_neg c3 h
        obtain ⟨v4, e5, h⟩ := uu_ob h
        obtain ⟨r6, e7, h⟩ := uu_ob h
        refine ((zc_X0_take  e7).mo (by decide) (by decide) (by decide) (fun _ h => nomatch h)).tr ?_
        by_cases c8 : r6.2 = 1
        · replace h := uu_pos c8 h
          obtain ⟨s9, e10, h⟩ := uu_ob h
          refine ((zc_X0_answerLine  e10).mo (by decide) (by decide) (by decide) (List.forall_mem_cons.mpr ⟨(Or.inr (List.mem_of_getElem? (i := 9) rfl)), List.forall_mem_cons.mpr ⟨(Or.inr (List.mem_of_getElem? (i := 8) rfl)), List.forall_mem_cons.mpr ⟨(Or.inr (List.mem_of_getElem? (i := 7) rfl)), List.forall_mem_cons.mpr ⟨(Or.inr (List.mem_of_getElem? (i := 6) rfl)), List.forall_mem_cons.mpr ⟨(Or.inr (List.mem_of_getElem? (i := 5) rfl)), List.forall_mem_cons.mpr ⟨(Or.inr (List.mem_of_getElem? (i := 4) rfl)), List.forall_mem_cons.mpr ⟨(Or.inr (List.mem_of_getElem? (i := 3) rfl)), List.forall_mem_cons.mpr ⟨(Or.inr (List.mem_of_getElem? (i := 2) rfl)), List.forall_mem_cons.mpr ⟨(Or.inr (List.mem_of_getElem? (i := 1) rfl)), List.forall_mem_cons.mpr ⟨(Or.inr (List.mem_of_getElem? (i := 0) rfl)), fun _ h => nomatch h⟩⟩⟩⟩⟩⟩⟩⟩⟩⟩)).tr ?_
          exact hK33 x1 (x2 + 1) _ _ h
        · replace h := uu_neg c8 h
          by_cases c11 : r6.2 = 2
          · replace h := uu_pos c11 h
            obtain ⟨s12, e13, h⟩ := uu_ob h
            refine ((zc_X11_deliver  e13).mo (by decide) (by decide) (by decide) (List.forall_mem_cons.mpr ⟨(Or.inr (List.mem_of_getElem? (i := 31) rfl)), List.forall_mem_cons.mpr ⟨(Or.inr (List.mem_of_getElem? (i := 30) rfl)), List.forall_mem_cons.mpr ⟨(Or.inr (List.mem_of_getElem? (i := 29) rfl)), List.forall_mem_cons.mpr ⟨(Or.inr (List.mem_of_getElem? (i := 28) rfl)), List.forall_mem_cons.mpr ⟨(Or.inr (List.mem_of_getElem? (i := 27) rfl)), List.forall_mem_cons.mpr ⟨(Or.inr (List.mem_of_getElem? (i := 26) rfl)), List.forall_mem_cons.mpr ⟨(Or.inr (List.mem_of_getElem? (i := 25) rfl)), List.forall_mem_cons.mpr ⟨(Or.inr (List.mem_of_getElem? (i := 24) rfl)), List.forall_mem_cons.mpr ⟨(Or.inr (List.mem_of_getElem? (i := 23) rfl)), List.forall_mem_cons.mpr ⟨(Or.inr (List.mem_of_getElem? (i := 22) rfl)), List.forall_mem_cons.mpr ⟨(Or.inr (List.mem_of_getElem? (i := 21) rfl)), List.forall_mem_cons.mpr ⟨(Or.inr (List.mem_of_getElem? (i := 20) rfl)), List.forall_mem_cons.mpr ⟨(Or.inr (List.mem_of_getElem? (i := 19) rfl)), List.forall_mem_cons.mpr ⟨(Or.inr (List.mem_of_getElem? (i := 18) rfl)), List.forall_mem_cons.mpr ⟨(Or.inr (List.mem_of_getElem? (i := 6) rfl)), List.forall_mem_cons.mpr ⟨(Or.inr (List.mem_of_getElem? (i := 7) rfl)), List.forall_mem_cons.mpr ⟨(Or.inr (List.mem_of_getElem? (i := 9) rfl)), List.forall_mem_cons.mpr ⟨(Or.inr (List.mem_of_getElem? (i := 8) rfl)), List.forall_mem_cons.mpr ⟨(Or.inr (List.mem_of_getElem? (i := 17) rfl)), List.forall_mem_cons.mpr ⟨(Or.inr (List.mem_of_getElem? (i := 16) rfl)), List.forall_mem_cons.mpr ⟨(Or.inr (List.mem_of_getElem? (i := 15) rfl)), List.forall_mem_cons.mpr ⟨(Or.inr (List.mem_of_getElem? (i := 14) rfl)), List.forall_mem_cons.mpr ⟨(Or.inr (List.mem_of_getElem? (i := 13) rfl)), List.forall_mem_cons.mpr ⟨(Or.inr (List.mem_of_getElem? (i := 12) rfl)), List.forall_mem_cons.mpr ⟨(Or.inr (List.mem_of_getElem? (i := 11) rfl)), List.forall_mem_cons.mpr ⟨(Or.inr (List.mem_of_getElem? (i := 10) rfl)), fun _ h => nomatch h⟩⟩⟩⟩⟩⟩⟩⟩⟩⟩⟩⟩⟩⟩⟩⟩⟩⟩⟩⟩⟩⟩⟩⟩⟩⟩)).tr ?_
            exact hK33 x1 (x2 + 1) _ _ h
          · replace h := uu_neg c11 h
            exact hK33 x1 (x2 + 1) _ _ h
set_option maxRecDepth 100000 in
set_option maxHeartbeats 4000000 in
theorem zn_X11_mail_33     : ∀ (n : Nat) (x1 : Int32) (x2 : Int32)  (s : uS) (r : (uS × Int32)), fn_X11_mail_33   n x1 x2 s = some r → agf [(0, 9), (0, 10), (0, 11), (0, 12), (0, 14), (0, 15), (0, 16), (6, 2), (6, 5), (6, 6), (6, 7), (6, 8), (7, 1), (7, 2), (7, 3), (7, 4), (7, 5), (7, 6), (7, 7), (7, 8), (1042, 3), (1042, 4), (1042, 7), (1042, 8), (1042, 9), (1042, 10), (1042, 11), (1070, 5), (1070, 6), (1070, 7), (1070, 8), (1070, 9), (1070, 10), (1070, 11), (1070, 12), (1070, 13), (1070, 14), (1070, 15), (1070, 16), (1070, 17)] [5, 14, 15, 1051, 1052, 1064, 1065, 1071, 1072, 1073, 1074] [4, 5, 6, 7, 12] [1048, 1050, 1049, 1044, 1046, 1045, 1047, 1043, 1041, 1040, 1056, 1057, 1055, 1054, 1060, 1061, 1058, 1059, 1075, 1076, 1063, 1062, 1064, 1065, 1066, 1067, 1069, 1068, 11, 10, 8, 9] s r.1 := by
  intro n
  induction n with
  | zero => intro x1 x2  s r h
            cases h
  | succ n ih => intro x1 x2  s r h
                 exact zb_X11_mail_33  ih  h
set_option maxRecDepth 100000 in
set_option maxHeartbeats 4000000 in
theorem zc_X11_mail   {x1 : Int32} {s : uS} {r : (uS × Int32)}  (h : fn_X11_mail  x1 s = some r) : agf [(0, 9), (0, 10), (0, 11), (0, 12), (0, 14), (0, 15), (0, 16), (6, 2), (6, 5), (6, 6), (6, 7), (6, 8), (7, 1), (7, 2), (7, 3), (7, 4), (7, 5), (7, 6), (7, 7), (7, 8), (1042, 3), (1042, 4), (1042, 7), (1042, 8), (1042, 9), (1042, 10), (1042, 11), (1070, 5), (1070, 6), (1070, 7), (1070, 8), (1070, 9), (1070, 10), (1070, 11), (1070, 12), (1070, 13), (1070, 14), (1070, 15), (1070, 16), (1070, 17)] [5, 14, 15, 1051, 1052, 1064, 1065, 1071, 1072, 1073, 1074] [4, 5, 6, 7, 12] [1048, 1050, 1049, 1044, 1046, 1045, 1047, 1043, 1041, 1040, 1056, 1057, 1055, 1054, 1060, 1061, 1058, 1059, 1075, 1076, 1063, 1062, 1064, 1065, 1066, 1067, 1069, 1068, 11, 10, 8, 9] s r.1 := by
  unfold fn_X11_mail at h
  by_cases c1 : (s.I 0 16) = 0
  · replace h := uu_pos c1 h
    have hr := Option.some.inj h
    subst hr
    exact agf.rf
  · replace h := uu_neg c1 h
    by_cases c2 : (s.I 1042 4) = 0
    · replace h := uu_pos c2 h
      have hr := Option.some.inj h
      subst hr
      exact agf.rf
    · replace h := uu_neg c2 h
      by_cases c3 : x1 < 0
      · replace h := uu_pos c3 h
        have hr := Option.some.inj h
        subst hr
        exact agf.rf
      · replace h := uu_neg c3 h
        by_cases c4 : x1 ≤ (s.I 0 9)
        · replace h := uu_pos c4 h
          exact zn_X11_mail_33  _ _ _ _ _ h
        · replace h := uu_neg c4 h
          have hr := Option.some.inj h
          subst hr
          exact agf.rf
set_option maxRecDepth 100000 in
set_option maxHeartbeats 4000000 in
theorem zb_X11_takeScript_94     {x1 : Int32} {k4 : Nat} {o5 : Option Nat} {s : uS} {r : uS} (hk4 : uSo k4 9) (h : fb_X11_takeScript_94   x1 k4 o5 s = some r) : agf [(0, 14), (0, 15), (0, 16), (1042, 4), (1042, 7), (1042, 8), (1042, 9), (1042, 10)] [] [5, 6, 7, 12] [1047, 1043] s r := by
  unfold fb_X11_takeScript_94 at h
  cases o5 with
  | none =>
    obtain ⟨r1, e2, h⟩ := uu_ob h
    refine ((zc_X11_commit  e2).mo (by decide) (by decide) (by decide) (List.forall_mem_cons.mpr ⟨(Or.inr (List.mem_of_getElem? (i := 1) rfl)), List.forall_mem_cons.mpr ⟨(Or.inr (List.mem_of_getElem? (i := 0) rfl)), fun _ h => nomatch h⟩⟩)).tr ?_
    by_cases c3 : r1.2 = true
    · replace h := uu_pos c3 h
      obtain ⟨j4, e5, h⟩ := uu_ob h
      obtain ⟨g6, h⟩ := uu_grd h
      obtain ⟨s7, e8, h⟩ := uu_ob h
      refine ((zc_X10_putScript g6 hk4 e8).mo (by decide) (by decide) (by decide) (List.forall_mem_cons.mpr ⟨(Or.inl (by rw [rg_X10 (d := 1) g6 (by decide)]; decide)), List.forall_mem_cons.mpr ⟨(Or.inl (by rw [show j4 = j4 + 0 from rfl, rg_X10 (d := 0) g6 (by decide)]; decide)), fun _ h => nomatch h⟩⟩)).tr ?_
      obtain ⟨j9, e10, h⟩ := uu_ob h
      obtain ⟨g11, h⟩ := uu_grd h
      obtain ⟨s13, e14, h⟩ := uu_ob h
      refine ((zc_X5_line g11 e14).mo (by decide) (by decide) (by decide) (List.forall_mem_cons.mpr ⟨(Or.inl (by rw [rg_X5 (d := 1) g11 (by decide)]; decide)), List.forall_mem_cons.mpr ⟨(Or.inl (by rw [show j9 = j9 + 0 from rfl, rg_X5 (d := 0) g11 (by decide)]; decide)), fun _ h => nomatch h⟩⟩)).tr ?_
      have hr := Option.some.inj h
      subst hr
      exact agf.rf
    · replace h := uu_neg c3 h
      have hr := Option.some.inj h
      subst hr
      exact agf.rf
  | some ko5 =>
    obtain ⟨r15, e16, h⟩ := uu_ob h
    refine ((zc_X11_commit  e16).mo (by decide) (by decide) (by decide) (List.forall_mem_cons.mpr ⟨(Or.inr (List.mem_of_getElem? (i := 1) rfl)), List.forall_mem_cons.mpr ⟨(Or.inr (List.mem_of_getElem? (i := 0) rfl)), fun _ h => nomatch h⟩⟩)).tr ?_
    by_cases c17 : r15.2 = true
    · replace h := uu_pos c17 h
      obtain ⟨j18, e19, h⟩ := uu_ob h
      obtain ⟨g20, h⟩ := uu_grd h
      obtain ⟨s21, e22, h⟩ := uu_ob h
      refine ((zc_X10_putScript g20 hk4 e22).mo (by decide) (by decide) (by decide) (List.forall_mem_cons.mpr ⟨(Or.inl (by rw [rg_X10 (d := 1) g20 (by decide)]; decide)), List.forall_mem_cons.mpr ⟨(Or.inl (by rw [show j18 = j18 + 0 from rfl, rg_X10 (d := 0) g20 (by decide)]; decide)), fun _ h => nomatch h⟩⟩)).tr ?_
      obtain ⟨j23, e24, h⟩ := uu_ob h
      obtain ⟨g25, h⟩ := uu_grd h
      obtain ⟨s27, e28, h⟩ := uu_ob h
      refine ((zc_X5_line g25 e28).mo (by decide) (by decide) (by decide) (List.forall_mem_cons.mpr ⟨(Or.inl (by rw [rg_X5 (d := 1) g25 (by decide)]; decide)), List.forall_mem_cons.mpr ⟨(Or.inl (by rw [show j23 = j23 + 0 from rfl, rg_X5 (d := 0) g25 (by decide)]; decide)), fun _ h => nomatch h⟩⟩)).tr ?_
      have hr := Option.some.inj h
      subst hr
      exact agf.rf
    · replace h := uu_neg c17 h
      have hr := Option.some.inj h
      subst hr
      exact agf.rf
set_option maxRecDepth 100000 in
set_option maxHeartbeats 4000000 in
theorem zc_X11_takeScript   {x1 : Int32} {x2 : Int32} {x3 : Int32} {s : uS} {r : uS}  (h : fn_X11_takeScript  x1 x2 x3 s = some r) : agf [(0, 14), (0, 15), (0, 16), (1042, 4), (1042, 7), (1042, 8), (1042, 9), (1042, 10)] [] [5, 6, 7, 12] [1047, 1043] s r := by
  unfold fn_X11_takeScript at h
  obtain ⟨j1, e2, h⟩ := uu_ob h
  obtain ⟨g3, h⟩ := uu_grd h
  obtain ⟨j4, e5, h⟩ := uu_ob h
  obtain ⟨g6, h⟩ := uu_grd h
  obtain ⟨v7, e8, h⟩ := uu_ob h
  rcases uu_oe h with ⟨eo9, h⟩ | ⟨j9, eo9, h⟩
  · skip
    by_cases c10 : x3 ≤ 0
    · replace h := uu_pos c10 h
      by_cases c11 : x2 = 1
      · replace h := uu_pos c11 h
        obtain ⟨j12, e13, h⟩ := uu_ob h
        obtain ⟨g14, h⟩ := uu_grd h
        obtain ⟨s16, e17, h⟩ := uu_ob h
        refine ((zc_X5_line g14 e17).mo (by decide) (by decide) (by decide) (List.forall_mem_cons.mpr ⟨(Or.inl (by rw [rg_X5 (d := 1) g14 (by decide)]; decide)), List.forall_mem_cons.mpr ⟨(Or.inl (by rw [show j12 = j12 + 0 from rfl, rg_X5 (d := 0) g14 (by decide)]; decide)), fun _ h => nomatch h⟩⟩)).tr ?_
        have hr := Option.some.inj h
        subst hr
        exact agf.rf
      · replace h := uu_neg c11 h
        obtain ⟨j18, e19, h⟩ := uu_ob h
        obtain ⟨g20, h⟩ := uu_grd h
        obtain ⟨v21, e22, h⟩ := uu_ob h
        by_cases c23 : v21 = true
        · replace h := uu_pos c23 h
          obtain ⟨j24, e25, h⟩ := uu_ob h
          obtain ⟨g26, h⟩ := uu_grd h
          obtain ⟨s28, e29, h⟩ := uu_ob h
          refine ((zc_X5_refusal g26 e29).mo (by decide) (by decide) (by decide) (List.forall_mem_cons.mpr ⟨(Or.inl (by rw [rg_X5 (d := 1) g26 (by decide)]; decide)), List.forall_mem_cons.mpr ⟨(Or.inl (by rw [show j24 = j24 + 0 from rfl, rg_X5 (d := 0) g26 (by decide)]; decide)), fun _ h => nomatch h⟩⟩)).tr ?_
          have hr := Option.some.inj h
          subst hr
          exact agf.rf
        · replace h := uu_neg c23 h
          exact zb_X11_takeScript_94 (so_parts g3) h
    · replace h := uu_neg c10 h
      obtain ⟨j30, e31, h⟩ := uu_ob h
      obtain ⟨g32, h⟩ := uu_grd h
      obtain ⟨s33, e34, h⟩ := uu_ob h
      refine ((zc_X5_faultLine g32 e34).mo (by decide) (by decide) (by decide) (List.forall_mem_cons.mpr ⟨(Or.inl (by rw [rg_X5 (d := 1) g32 (by decide)]; decide)), List.forall_mem_cons.mpr ⟨(Or.inl (by rw [show j30 = j30 + 0 from rfl, rg_X5 (d := 0) g32 (by decide)]; decide)), fun _ h => nomatch h⟩⟩)).tr ?_
      have hr := Option.some.inj h
      subst hr
      exact agf.rf
  · skip
    by_cases c35 : x3 ≤ 0
    · replace h := uu_pos c35 h
      by_cases c36 : x2 = 1
      · replace h := uu_pos c36 h
        obtain ⟨j37, e38, h⟩ := uu_ob h
        obtain ⟨g39, h⟩ := uu_grd h
        obtain ⟨s41, e42, h⟩ := uu_ob h
        refine ((zc_X5_line g39 e42).mo (by decide) (by decide) (by decide) (List.forall_mem_cons.mpr ⟨(Or.inl (by rw [rg_X5 (d := 1) g39 (by decide)]; decide)), List.forall_mem_cons.mpr ⟨(Or.inl (by rw [show j37 = j37 + 0 from rfl, rg_X5 (d := 0) g39 (by decide)]; decide)), fun _ h => nomatch h⟩⟩)).tr ?_
        have hr := Option.some.inj h
        subst hr
        exact agf.rf
      · replace h := uu_neg c36 h
        exact zb_X11_takeScript_94 (so_parts g3) h
    · replace h := uu_neg c35 h
      obtain ⟨j43, e44, h⟩ := uu_ob h
      obtain ⟨g45, h⟩ := uu_grd h
      obtain ⟨s46, e47, h⟩ := uu_ob h
      refine ((zc_X5_faultLine g45 e47).mo (by decide) (by decide) (by decide) (List.forall_mem_cons.mpr ⟨(Or.inl (by rw [rg_X5 (d := 1) g45 (by decide)]; decide)), List.forall_mem_cons.mpr ⟨(Or.inl (by rw [show j43 = j43 + 0 from rfl, rg_X5 (d := 0) g45 (by decide)]; decide)), fun _ h => nomatch h⟩⟩)).tr ?_
      have hr := Option.some.inj h
      subst hr
      exact agf.rf
set_option maxRecDepth 100000 in
set_option maxHeartbeats 4000000 in
theorem zc_X11_renameScript   {x1 : Int32} {s : uS} {r : uS}  (h : fn_X11_renameScript  x1 s = some r) : agf [(0, 14), (0, 15), (0, 16), (1042, 4), (1042, 7), (1042, 8), (1042, 9), (1042, 10)] [] [5, 6, 12] [1047, 1043] s r := by
  unfold fn_X11_renameScript at h
  obtain ⟨j1, e2, h⟩ := uu_ob h
  obtain ⟨g3, h⟩ := uu_grd h
  obtain ⟨j4, e5, h⟩ := uu_ob h
  obtain ⟨g6, h⟩ := uu_grd h
  obtain ⟨v7, e8, h⟩ := uu_ob h
  rcases uu_oe h with ⟨eo9, h⟩ | ⟨j9, eo9, h⟩
  · skip
    obtain ⟨j10, e11, h⟩ := uu_ob h
    obtain ⟨g12, h⟩ := uu_grd h
    obtain ⟨s14, e15, h⟩ := uu_ob h
    refine ((zc_X5_refusal g12 e15).mo (by decide) (by decide) (by decide) (List.forall_mem_cons.mpr ⟨(Or.inl (by rw [rg_X5 (d := 1) g12 (by decide)]; decide)), List.forall_mem_cons.mpr ⟨(Or.inl (by rw [show j10 = j10 + 0 from rfl, rg_X5 (d := 0) g12 (by decide)]; decide)), fun _ h => nomatch h⟩⟩)).tr ?_
    have hr := Option.some.inj h
    subst hr
    exact agf.rf
  · skip
    obtain ⟨j16, e17, h⟩ := uu_ob h
    obtain ⟨g18, h⟩ := uu_grd h
    obtain ⟨v19, e20, h⟩ := uu_ob h
    rcases uu_oe h with ⟨eo21, h⟩ | ⟨j21, eo21, h⟩
    · skip
      obtain ⟨r22, e23, h⟩ := uu_ob h
      refine ((zc_X11_commit  e23).mo (by decide) (by decide) (by decide) (List.forall_mem_cons.mpr ⟨(Or.inr (List.mem_of_getElem? (i := 1) rfl)), List.forall_mem_cons.mpr ⟨(Or.inr (List.mem_of_getElem? (i := 0) rfl)), fun _ h => nomatch h⟩⟩)).tr ?_
      by_cases c24 : r22.2 = true
      · replace h := uu_pos c24 h
        obtain ⟨r25, e26, h⟩ := uu_ob h
        refine ((zc_X9_copyOf (so_parts g3) e26).mo (by decide) (by decide) (by decide) (fun _ h => nomatch h)).tr ?_
        obtain ⟨g27, h⟩ := uu_grd h
        obtain ⟨g28, h⟩ := uu_grd h
        refine (agf_wR (a := j9) (f := 0) (v := some r25.2) (Or.inr (Or.inl (by rw [rg_e g27]; decide)))).tr ?_
        obtain ⟨j29, e30, h⟩ := uu_ob h
        obtain ⟨g31, h⟩ := uu_grd h
        obtain ⟨s33, e34, h⟩ := uu_ob h
        refine ((zc_X5_line g31 e34).mo (by decide) (by decide) (by decide) (List.forall_mem_cons.mpr ⟨(Or.inl (by rw [rg_X5 (d := 1) g31 (by decide)]; decide)), List.forall_mem_cons.mpr ⟨(Or.inl (by rw [show j29 = j29 + 0 from rfl, rg_X5 (d := 0) g31 (by decide)]; decide)), fun _ h => nomatch h⟩⟩)).tr ?_
        have hr := Option.some.inj h
        subst hr
        exact agf.rf
      · replace h := uu_neg c24 h
        have hr := Option.some.inj h
        subst hr
        exact agf.rf
    · skip
      obtain ⟨j35, e36, h⟩ := uu_ob h
      obtain ⟨g37, h⟩ := uu_grd h
      obtain ⟨s39, e40, h⟩ := uu_ob h
      refine ((zc_X5_refusal g37 e40).mo (by decide) (by decide) (by decide) (List.forall_mem_cons.mpr ⟨(Or.inl (by rw [rg_X5 (d := 1) g37 (by decide)]; decide)), List.forall_mem_cons.mpr ⟨(Or.inl (by rw [show j35 = j35 + 0 from rfl, rg_X5 (d := 0) g37 (by decide)]; decide)), fun _ h => nomatch h⟩⟩)).tr ?_
      have hr := Option.some.inj h
      subst hr
      exact agf.rf
