set_option maxRecDepth 100000 in
set_option maxHeartbeats 4000000 in
theorem zc_X11_execute   {x1 : Int32} {x2 : Int32} {s : uS} {r : uS}  (h : fn_X11_execute  x1 x2 s = some r) : agf [(0, 14), (0, 15), (0, 16), (6, 2), (6, 5), (6, 6), (6, 7), (6, 8), (7, 1), (7, 2), (7, 3), (7, 4), (7, 5), (7, 6), (7, 7), (7, 8), (1042, 4), (1042, 7), (1042, 8), (1042, 9), (1042, 10)] [14, 15] [4, 5, 6, 7, 12] [9, 8, 10, 11, 1043, 1047] s r := by
  unfold fn_X11_execute at h
  by_cases c1_0 : x2 = 0
  · replace h := uu_pos c1_0 h
    obtain ⟨j1, e2, h⟩ := uu_ob h
    obtain ⟨g3, h⟩ := uu_grd h
    obtain ⟨v4, e5, h⟩ := uu_ob h
    obtain ⟨v6, e7, h⟩ := uu_ob h
    obtain ⟨r8, e9, h⟩ := uu_ob h
    refine ((zc_X4_parse  e9).mo (by decide) (by decide) (by decide) (List.forall_mem_cons.mpr ⟨(Or.inr (List.mem_of_getElem? (i := 3) rfl)), List.forall_mem_cons.mpr ⟨(Or.inr (List.mem_of_getElem? (i := 2) rfl)), List.forall_mem_cons.mpr ⟨(Or.inr (List.mem_of_getElem? (i := 1) rfl)), List.forall_mem_cons.mpr ⟨(Or.inr (List.mem_of_getElem? (i := 0) rfl)), fun _ h => nomatch h⟩⟩⟩⟩)).tr ?_
    obtain ⟨s10, e11, h⟩ := uu_ob h
    refine ((zc_X11_takeScript  e11).mo (by decide) (by decide) (by decide) (List.forall_mem_cons.mpr ⟨(Or.inr (List.mem_of_getElem? (i := 5) rfl)), List.forall_mem_cons.mpr ⟨(Or.inr (List.mem_of_getElem? (i := 4) rfl)), fun _ h => nomatch h⟩⟩)).tr ?_
    have hr := Option.some.inj h
    subst hr
    exact agf.rf
  replace h := uu_neg c1_0 h
  by_cases c1_1 : x2 = 1
  · replace h := uu_pos c1_1 h
    obtain ⟨j12, e13, h⟩ := uu_ob h
    obtain ⟨g14, h⟩ := uu_grd h
    obtain ⟨v15, e16, h⟩ := uu_ob h
    obtain ⟨v17, e18, h⟩ := uu_ob h
    obtain ⟨r19, e20, h⟩ := uu_ob h
    refine ((zc_X4_parse  e20).mo (by decide) (by decide) (by decide) (List.forall_mem_cons.mpr ⟨(Or.inr (List.mem_of_getElem? (i := 3) rfl)), List.forall_mem_cons.mpr ⟨(Or.inr (List.mem_of_getElem? (i := 2) rfl)), List.forall_mem_cons.mpr ⟨(Or.inr (List.mem_of_getElem? (i := 1) rfl)), List.forall_mem_cons.mpr ⟨(Or.inr (List.mem_of_getElem? (i := 0) rfl)), fun _ h => nomatch h⟩⟩⟩⟩)).tr ?_
    obtain ⟨s21, e22, h⟩ := uu_ob h
    refine ((zc_X11_takeScript  e22).mo (by decide) (by decide) (by decide) (List.forall_mem_cons.mpr ⟨(Or.inr (List.mem_of_getElem? (i := 5) rfl)), List.forall_mem_cons.mpr ⟨(Or.inr (List.mem_of_getElem? (i := 4) rfl)), fun _ h => nomatch h⟩⟩)).tr ?_
    have hr := Option.some.inj h
    subst hr
    exact agf.rf
  replace h := uu_neg c1_1 h
  by_cases c1_2 : x2 = 2
  · replace h := uu_pos c1_2 h
    obtain ⟨s23, e24, h⟩ := uu_ob h
    refine ((zc_X11_haveSpace  e24).mo (by decide) (by decide) (by decide) (fun _ h => nomatch h)).tr ?_
    have hr := Option.some.inj h
    subst hr
    exact agf.rf
  replace h := uu_neg c1_2 h
  by_cases c1_3 : x2 = 3
  · replace h := uu_pos c1_3 h
    obtain ⟨s25, e26, h⟩ := uu_ob h
    refine ((zc_X11_setActive  e26).mo (by decide) (by decide) (by decide) (List.forall_mem_cons.mpr ⟨(Or.inr (List.mem_of_getElem? (i := 5) rfl)), List.forall_mem_cons.mpr ⟨(Or.inr (List.mem_of_getElem? (i := 4) rfl)), fun _ h => nomatch h⟩⟩)).tr ?_
    have hr := Option.some.inj h
    subst hr
    exact agf.rf
  replace h := uu_neg c1_3 h
  by_cases c1_4 : x2 = 4
  · replace h := uu_pos c1_4 h
    obtain ⟨s27, e28, h⟩ := uu_ob h
    refine ((zc_X11_getScript  e28).mo (by decide) (by decide) (by decide) (fun _ h => nomatch h)).tr ?_
    have hr := Option.some.inj h
    subst hr
    exact agf.rf
  replace h := uu_neg c1_4 h
  by_cases c1_5 : x2 = 5
  · replace h := uu_pos c1_5 h
    obtain ⟨s29, e30, h⟩ := uu_ob h
    refine ((zc_X11_listScripts  e30).mo (by decide) (by decide) (by decide) (fun _ h => nomatch h)).tr ?_
    have hr := Option.some.inj h
    subst hr
    exact agf.rf
  replace h := uu_neg c1_5 h
  by_cases c1_6 : x2 = 6
  · replace h := uu_pos c1_6 h
    obtain ⟨s31, e32, h⟩ := uu_ob h
    refine ((zc_X11_deleteScript  e32).mo (by decide) (by decide) (by decide) (List.forall_mem_cons.mpr ⟨(Or.inr (List.mem_of_getElem? (i := 5) rfl)), List.forall_mem_cons.mpr ⟨(Or.inr (List.mem_of_getElem? (i := 4) rfl)), fun _ h => nomatch h⟩⟩)).tr ?_
    have hr := Option.some.inj h
    subst hr
    exact agf.rf
  replace h := uu_neg c1_6 h
  by_cases c1_7 : x2 = 7
  · replace h := uu_pos c1_7 h
    obtain ⟨s33, e34, h⟩ := uu_ob h
    refine ((zc_X11_renameScript  e34).mo (by decide) (by decide) (by decide) (List.forall_mem_cons.mpr ⟨(Or.inr (List.mem_of_getElem? (i := 5) rfl)), List.forall_mem_cons.mpr ⟨(Or.inr (List.mem_of_getElem? (i := 4) rfl)), fun _ h => nomatch h⟩⟩)).tr ?_
    have hr := Option.some.inj h
    subst hr
    exact agf.rf
  replace h := uu_neg c1_7 h
  by_cases c1_8 : x2 = 8
  · replace h := uu_pos c1_8 h
    obtain ⟨j35, e36, h⟩ := uu_ob h
    obtain ⟨g37, h⟩ := uu_grd h
    obtain ⟨s39, e40, h⟩ := uu_ob h
    refine ((zc_X5_line g37 e40).mo (by decide) (by decide) (by decide) (List.forall_mem_cons.mpr ⟨(Or.inl (by rw [rg_X5 (d := 1) g37 (by decide)]; decide)), List.forall_mem_cons.mpr ⟨(Or.inl (by rw [show j35 = j35 + 0 from rfl, rg_X5 (d := 0) g37 (by decide)]; decide)), fun _ h => nomatch h⟩⟩)).tr ?_
    have hr := Option.some.inj h
    subst hr
    exact agf.rf
  replace h := uu_neg c1_8 h
  obtain ⟨j41, e42, h⟩ := uu_ob h
  obtain ⟨g43, h⟩ := uu_grd h
  obtain ⟨s45, e46, h⟩ := uu_ob h
  refine ((zc_X5_refusal g43 e46).mo (by decide) (by decide) (by decide) (List.forall_mem_cons.mpr ⟨(Or.inl (by rw [rg_X5 (d := 1) g43 (by decide)]; decide)), List.forall_mem_cons.mpr ⟨(Or.inl (by rw [show j41 = j41 + 0 from rfl, rg_X5 (d := 0) g43 (by decide)]; decide)), fun _ h => nomatch h⟩⟩)).tr ?_
  have hr := Option.some.inj h
  subst hr
  exact agf.rf
set_option maxRecDepth 100000 in
set_option maxHeartbeats 4000000 in
theorem zb_X11_manage_40  {K40 : Int32 → Int32 → Nat → Int32 → uS → Option (uS × Int32)}  (hK40 : ∀ (x1 : Int32) (x2 : Int32) (k3 : Nat) (x4 : Int32) (hk3 : uSo k3 8) (s : uS) (r : (uS × Int32)), K40 x1 x2 k3 x4 s = some r → agf [(0, 9), (0, 14), (0, 15), (0, 16), (6, 2), (6, 5), (6, 6), (6, 7), (6, 8), (7, 1), (7, 2), (7, 3), (7, 4), (7, 5), (7, 6), (7, 7), (7, 8), (1042, 4), (1042, 7), (1042, 8), (1042, 9), (1042, 10)] [14, 15] [4, 5, 6, 7, 12] [1047, 1043, 11, 10, 8, 9] s r.1) {x1 : Int32} {x2 : Int32} {k3 : Nat} {x4 : Int32} {s : uS} {r : (uS × Int32)} (hk3 : uSo k3 8) (h : fb_X11_manage_40  K40 x1 x2 k3 x4 s = some r) : agf [(0, 9), (0, 14), (0, 15), (0, 16), (6, 2), (6, 5), (6, 6), (6, 7), (6, 8), (7, 1), (7, 2), (7, 3), (7, 4), (7, 5), (7, 6), (7, 7), (7, 8), (1042, 4), (1042, 7), (1042, 8), (1042, 9), (1042, 10)] [14, 15] [4, 5, 6, 7, 12] [1047, 1043, 11, 10, 8, 9] s r.1 := by
  unfold fb_X11_manage_40 at h
  by_cases c1 : x2 ≤ x4
  · replace h := uu_pos c1 h
    refine (agf_wI (a := 0) (f := 9) (v := 0) (Or.inl (by decide))).tr ?_
    have hr := Option.some.inj h
    subst hr
    exact agf.rf
  · replace h := uu_neg c1 h
    by_cases c2 : (6000 : Int32) ≤ x4
    · replace h := uu_pos c2 h
      refine (agf_wI (a := 0) (f := 9) (v := 0) (Or.inl (by decide))).tr ?_
      have hr := Option.some.inj h
      subst hr
      exact agf.rf
    · replace h := uu_neg c2 h
      by_cases c3 : (s.I 0 16) = 0
      · replace h := uu_pos c3 h
        refine (agf_wI (a := 0) (f := 9) (v := 0) (Or.inl (by decide))).tr ?_
        have hr := Option.some.inj h
        subst hr
        exact agf.rf
      · replace h := uu_neg c3 h
        obtain ⟨v4, e5, h⟩ := uu_ob h
        obtain ⟨r6, e7, h⟩ := uu_ob h
        refine ((zc_X8_take hk3 e7).mo (by decide) (by decide) (by decide) (List.forall_mem_cons.mpr ⟨(Or.inl (by rw [show k3 = k3 + 0 from rfl, rg_X8 (d := 0) hk3 (by decide)]; decide)), List.forall_mem_cons.mpr ⟨(Or.inl (by rw [rg_X8 (d := 6) hk3 (by decide)]; decide)), List.forall_mem_cons.mpr ⟨(Or.inl (by rw [rg_X8 (d := 5) hk3 (by decide)]; decide)), List.forall_mem_cons.mpr ⟨(Or.inl (by rw [rg_X8 (d := 1) hk3 (by decide)]; decide)), List.forall_mem_cons.mpr ⟨(Or.inl (by rw [rg_X8 (d := 3) hk3 (by decide)]; decide)), List.forall_mem_cons.mpr ⟨(Or.inl (by rw [rg_X8 (d := 4) hk3 (by decide)]; decide)), List.forall_mem_cons.mpr ⟨(Or.inl (by rw [rg_X8 (d := 2) hk3 (by decide)]; decide)), fun _ h => nomatch h⟩⟩⟩⟩⟩⟩⟩)).tr ?_
        by_cases c8 : r6.2 = 1
        · replace h := uu_pos c8 h
          obtain ⟨v9, e10, h⟩ := uu_ob h
          obtain ⟨s11, e12, h⟩ := uu_ob h
          refine ((zc_X11_execute  e12).mo (by decide) (by decide) (by decide) (List.forall_mem_cons.mpr ⟨(Or.inr (List.mem_of_getElem? (i := 5) rfl)), List.forall_mem_cons.mpr ⟨(Or.inr (List.mem_of_getElem? (i := 4) rfl)), List.forall_mem_cons.mpr ⟨(Or.inr (List.mem_of_getElem? (i := 3) rfl)), List.forall_mem_cons.mpr ⟨(Or.inr (List.mem_of_getElem? (i := 2) rfl)), List.forall_mem_cons.mpr ⟨(Or.inr (List.mem_of_getElem? (i := 1) rfl)), List.forall_mem_cons.mpr ⟨(Or.inr (List.mem_of_getElem? (i := 0) rfl)), fun _ h => nomatch h⟩⟩⟩⟩⟩⟩)).tr ?_
          obtain ⟨s13, e14, h⟩ := uu_ob h
          refine ((zc_X8_reset hk3 e14).mo (by decide) (by decide) (by decide) (List.forall_mem_cons.mpr ⟨(Or.inl (by rw [rg_X8 (d := 1) hk3 (by decide)]; decide)), List.forall_mem_cons.mpr ⟨(Or.inl (by rw [show k3 = k3 + 0 from rfl, rg_X8 (d := 0) hk3 (by decide)]; decide)), fun _ h => nomatch h⟩⟩)).tr ?_
          exact hK40 x1 x2 k3 (x4 + 1) hk3 _ _ h
        · replace h := uu_neg c8 h
          by_cases c15 : r6.2 = 2
          · replace h := uu_pos c15 h
            obtain ⟨j16, e17, h⟩ := uu_ob h
            obtain ⟨g18, h⟩ := uu_grd h
            obtain ⟨s20, e21, h⟩ := uu_ob h
            refine ((zc_X5_refusal g18 e21).mo (by decide) (by decide) (by decide) (List.forall_mem_cons.mpr ⟨(Or.inl (by rw [rg_X5 (d := 1) g18 (by decide)]; decide)), List.forall_mem_cons.mpr ⟨(Or.inl (by rw [show j16 = j16 + 0 from rfl, rg_X5 (d := 0) g18 (by decide)]; decide)), fun _ h => nomatch h⟩⟩)).tr ?_
            obtain ⟨s22, e23, h⟩ := uu_ob h
            refine ((zc_X8_reset hk3 e23).mo (by decide) (by decide) (by decide) (List.forall_mem_cons.mpr ⟨(Or.inl (by rw [rg_X8 (d := 1) hk3 (by decide)]; decide)), List.forall_mem_cons.mpr ⟨(Or.inl (by rw [show k3 = k3 + 0 from rfl, rg_X8 (d := 0) hk3 (by decide)]; decide)), fun _ h => nomatch h⟩⟩)).tr ?_
            exact hK40 x1 x2 k3 (x4 + 1) hk3 _ _ h
          · replace h := uu_neg c15 h
            exact hK40 x1 x2 k3 (x4 + 1) hk3 _ _ h
set_option maxRecDepth 100000 in
set_option maxHeartbeats 4000000 in
theorem zn_X11_manage_40     : ∀ (n : Nat) (x1 : Int32) (x2 : Int32) (k3 : Nat) (x4 : Int32) (hk3 : uSo k3 8) (s : uS) (r : (uS × Int32)), fn_X11_manage_40   n x1 x2 k3 x4 s = some r → agf [(0, 9), (0, 14), (0, 15), (0, 16), (6, 2), (6, 5), (6, 6), (6, 7), (6, 8), (7, 1), (7, 2), (7, 3), (7, 4), (7, 5), (7, 6), (7, 7), (7, 8), (1042, 4), (1042, 7), (1042, 8), (1042, 9), (1042, 10)] [14, 15] [4, 5, 6, 7, 12] [1047, 1043, 11, 10, 8, 9] s r.1 := by
  intro n
  induction n with
  | zero => intro x1 x2 k3 x4 hk3 s r h
            cases h
  | succ n ih => intro x1 x2 k3 x4 hk3 s r h
                 exact zb_X11_manage_40  ih hk3 h
set_option maxRecDepth 100000 in
set_option maxHeartbeats 4000000 in
theorem zc_X11_manage   {x1 : Int32} {x2 : Int32} {s : uS} {r : (uS × Int32)}  (h : fn_X11_manage  x1 x2 s = some r) : agf [(0, 9), (0, 14), (0, 15), (0, 16), (6, 2), (6, 5), (6, 6), (6, 7), (6, 8), (7, 1), (7, 2), (7, 3), (7, 4), (7, 5), (7, 6), (7, 7), (7, 8), (1042, 4), (1042, 7), (1042, 8), (1042, 9), (1042, 10)] [14, 15] [4, 5, 6, 7, 12] [1047, 1043, 11, 10, 8, 9] s r.1 := by
  unfold fn_X11_manage at h
  by_cases c1 : (s.I 0 16) = 0
  · replace h := uu_pos c1 h
    have hr := Option.some.inj h
    subst hr
    exact agf.rf
  · replace h := uu_neg c1 h
    by_cases c2 : x1 < 0
    · replace h := uu_pos c2 h
      have hr := Option.some.inj h
      subst hr
      exact agf.rf
    · replace h := uu_neg c2 h
      by_cases c3 : (4 : Int32) ≤ x1
      · replace h := uu_pos c3 h
        have hr := Option.some.inj h
        subst hr
        exact agf.rf
      · replace h := uu_neg c3 h
        by_cases c4 : x2 < 0
        · replace h := uu_pos c4 h
          have hr := Option.some.inj h
          subst hr
          exact agf.rf
        · replace h := uu_neg c4 h
          by_cases c5 : x2 ≤ (s.I 0 9)
          · replace h := uu_pos c5 h
            obtain ⟨j6, e7, h⟩ := uu_ob h
            obtain ⟨g8, h⟩ := uu_grd h
            exact zn_X11_manage_40  _ _ _ _ _ g8 _ _ h
          · replace h := uu_neg c5 h
            have hr := Option.some.inj h
            subst hr
            exact agf.rf
set_option maxRecDepth 100000 in
set_option maxHeartbeats 4000000 in
theorem zb_X12_test_419 {R_X12_several : Int32 → uS → Option uS} {R_X12_test : uS → Option (uS × Int32)}  (hR_X12_several : ∀ (x1 : Int32) (s : uS) (r : uS), R_X12_several x1 s = some r → agf [(1079, 21), (1079, 30), (1079, 31), (1079, 32), (1079, 33), (1079, 34), (1079, 35), (1079, 37), (1079, 38), (1079, 39), (1079, 40), (1079, 41), (1079, 42), (1079, 61), (1079, 65), (1079, 66)] [1093, 1097, 1098, 1099, 1100, 1101, 1102, 1103, 1104, 1105, 1106, 1107, 1108, 1109, 1110, 1111, 1112, 1113, 1114, 1115, 1116, 1117] [] [] s r) (hR_X12_test : ∀  (s : uS) (r : (uS × Int32)), R_X12_test  s = some r → agf [(1079, 21), (1079, 30), (1079, 31), (1079, 32), (1079, 33), (1079, 34), (1079, 35), (1079, 37), (1079, 38), (1079, 39), (1079, 40), (1079, 41), (1079, 42), (1079, 61), (1079, 65), (1079, 66)] [1093, 1097, 1098, 1099, 1100, 1101, 1102, 1103, 1104, 1105, 1106, 1107, 1108, 1109, 1110, 1111, 1112, 1113, 1114, 1115, 1116, 1117] [] [] s r.1)  {x2 : Int32} {s : uS} {r : (uS × Int32)}  (h : fb_X12_test_419 R_X12_several R_X12_test  x2 s = some r) : agf [(1079, 21), (1079, 30), (1079, 31), (1079, 32), (1079, 33), (1079, 34), (1079, 35), (1079, 37), (1079, 38), (1079, 39), (1079, 40), (1079, 41), (1079, 42), (1079, 61), (1079, 65), (1079, 66)] [1093, 1097, 1098, 1099, 1100, 1101, 1102, 1103, 1104, 1105, 1106, 1107, 1108, 1109, 1110, 1111, 1112, 1113, 1114, 1115, 1116, 1117] [] [] s r.1 := by
  unfold fb_X12_test_419 at h
  refine (agf_wI (a := 1079) (f := 66) (v := (s.I 1079 66) - 1) (Or.inl (by decide))).tr ?_
  have hr := Option.some.inj h
  subst hr
  exact agf.rf
set_option maxRecDepth 100000 in
set_option maxHeartbeats 4000000 in
theorem zb_X12_test_238 {R_X12_several : Int32 → uS → Option uS} {R_X12_test : uS → Option (uS × Int32)}  (hR_X12_several : ∀ (x1 : Int32) (s : uS) (r : uS), R_X12_several x1 s = some r → agf [(1079, 21), (1079, 30), (1079, 31), (1079, 32), (1079, 33), (1079, 34), (1079, 35), (1079, 37), (1079, 38), (1079, 39), (1079, 40), (1079, 41), (1079, 42), (1079, 61), (1079, 65), (1079, 66)] [1093, 1097, 1098, 1099, 1100, 1101, 1102, 1103, 1104, 1105, 1106, 1107, 1108, 1109, 1110, 1111, 1112, 1113, 1114, 1115, 1116, 1117] [] [] s r) (hR_X12_test : ∀  (s : uS) (r : (uS × Int32)), R_X12_test  s = some r → agf [(1079, 21), (1079, 30), (1079, 31), (1079, 32), (1079, 33), (1079, 34), (1079, 35), (1079, 37), (1079, 38), (1079, 39), (1079, 40), (1079, 41), (1079, 42), (1079, 61), (1079, 65), (1079, 66)] [1093, 1097, 1098, 1099, 1100, 1101, 1102, 1103, 1104, 1105, 1106, 1107, 1108, 1109, 1110, 1111, 1112, 1113, 1114, 1115, 1116, 1117] [] [] s r.1)  {x1 : Int32} {x2 : Int32} {s : uS} {r : (uS × Int32)}  (h : fb_X12_test_238 R_X12_several R_X12_test  x1 x2 s = some r) : agf [(1079, 21), (1079, 30), (1079, 31), (1079, 32), (1079, 33), (1079, 34), (1079, 35), (1079, 37), (1079, 38), (1079, 39), (1079, 40), (1079, 41), (1079, 42), (1079, 61), (1079, 65), (1079, 66)] [1093, 1097, 1098, 1099, 1100, 1101, 1102, 1103, 1104, 1105, 1106, 1107, 1108, 1109, 1110, 1111, 1112, 1113, 1114, 1115, 1116, 1117] [] [] s r.1 := by
  unfold fb_X12_test_238 at h
  obtain ⟨s1, e2, h⟩ := uu_ob h
  refine ((zc_X12_next  e2).mo (by decide) (by decide) (by decide) (fun _ h => nomatch h)).tr ?_
  by_cases c243_0 : x1 = 20
  · replace h := uu_pos c243_0 h
    obtain ⟨s3, e4, h⟩ := uu_ob h
    refine ((zc_X12_how  e4).mo (by decide) (by decide) (by decide) (fun _ h => nomatch h)).tr ?_
    obtain ⟨s5, e6, h⟩ := uu_ob h
    refine (agf_iput e6 (Or.inl (by decide))).tr ?_
    obtain ⟨r7, e8, h⟩ := uu_ob h
    refine ((zc_X12_list  e8).mo (by decide) (by decide) (by decide) (fun _ h => nomatch h)).tr ?_
    obtain ⟨s9, e10, h⟩ := uu_ob h
    refine (agf_iput e10 (Or.inl (by decide))).tr ?_
    obtain ⟨s11, e12, h⟩ := uu_ob h
    refine (agf_iput e12 (Or.inl (by decide))).tr ?_
    obtain ⟨r13, e14, h⟩ := uu_ob h
    refine ((zc_X12_list  e14).mo (by decide) (by decide) (by decide) (fun _ h => nomatch h)).tr ?_
    obtain ⟨s15, e16, h⟩ := uu_ob h
    refine (agf_iput e16 (Or.inl (by decide))).tr ?_
    exact zb_X12_test_419 hR_X12_several hR_X12_test h
  replace h := uu_neg c243_0 h
  by_cases c243_1 : x1 = 21
  · replace h := uu_pos c243_1 h
    obtain ⟨s17, e18, h⟩ := uu_ob h
    refine ((zc_X12_how  e18).mo (by decide) (by decide) (by decide) (fun _ h => nomatch h)).tr ?_
    obtain ⟨s19, e20, h⟩ := uu_ob h
    refine (agf_iput e20 (Or.inl (by decide))).tr ?_
    obtain ⟨r21, e22, h⟩ := uu_ob h
    refine ((zc_X12_list  e22).mo (by decide) (by decide) (by decide) (fun _ h => nomatch h)).tr ?_
    obtain ⟨s23, e24, h⟩ := uu_ob h
    refine (agf_iput e24 (Or.inl (by decide))).tr ?_
    obtain ⟨s25, e26, h⟩ := uu_ob h
    refine (agf_iput e26 (Or.inl (by decide))).tr ?_
    obtain ⟨r27, e28, h⟩ := uu_ob h
    refine ((zc_X12_list  e28).mo (by decide) (by decide) (by decide) (fun _ h => nomatch h)).tr ?_
    obtain ⟨s29, e30, h⟩ := uu_ob h
    refine (agf_iput e30 (Or.inl (by decide))).tr ?_
    exact zb_X12_test_419 hR_X12_several hR_X12_test h
  replace h := uu_neg c243_1 h
  by_cases c243_2 : x1 = 22
  · replace h := uu_pos c243_2 h
    obtain ⟨s31, e32, h⟩ := uu_ob h
    refine ((zc_X12_how  e32).mo (by decide) (by decide) (by decide) (fun _ h => nomatch h)).tr ?_
    obtain ⟨s33, e34, h⟩ := uu_ob h
    refine (agf_iput e34 (Or.inl (by decide))).tr ?_
    obtain ⟨r35, e36, h⟩ := uu_ob h
    refine ((zc_X12_list  e36).mo (by decide) (by decide) (by decide) (fun _ h => nomatch h)).tr ?_
    obtain ⟨s37, e38, h⟩ := uu_ob h
    refine (agf_iput e38 (Or.inl (by decide))).tr ?_
    obtain ⟨s39, e40, h⟩ := uu_ob h
    refine (agf_iput e40 (Or.inl (by decide))).tr ?_
    obtain ⟨r41, e42, h⟩ := uu_ob h
    refine ((zc_X12_list  e42).mo (by decide) (by decide) (by decide) (fun _ h => nomatch h)).tr ?_
    obtain ⟨s43, e44, h⟩ := uu_ob h
    refine (agf_iput e44 (Or.inl (by decide))).tr ?_
    exact zb_X12_test_419 hR_X12_several hR_X12_test h
  replace h := uu_neg c243_2 h
  by_cases c243_3 : x1 = 23
  · replace h := uu_pos c243_3 h
    obtain ⟨s45, e46, h⟩ := uu_ob h
    refine ((zc_X12_how  e46).mo (by decide) (by decide) (by decide) (fun _ h => nomatch h)).tr ?_
    obtain ⟨s47, e48, h⟩ := uu_ob h
    refine (agf_iput e48 (Or.inl (by decide))).tr ?_
    obtain ⟨r49, e50, h⟩ := uu_ob h
    refine ((zc_X12_list  e50).mo (by decide) (by decide) (by decide) (fun _ h => nomatch h)).tr ?_
    obtain ⟨s51, e52, h⟩ := uu_ob h
    refine (agf_iput e52 (Or.inl (by decide))).tr ?_
    exact zb_X12_test_419 hR_X12_several hR_X12_test h
  replace h := uu_neg c243_3 h
  by_cases c243_4 : x1 = 24
  · replace h := uu_pos c243_4 h
    obtain ⟨s53, e54, h⟩ := uu_ob h
    refine (agf_iput e54 (Or.inl (by decide))).tr ?_
    obtain ⟨r55, e56, h⟩ := uu_ob h
    refine ((zc_X12_list  e56).mo (by decide) (by decide) (by decide) (fun _ h => nomatch h)).tr ?_
    obtain ⟨s57, e58, h⟩ := uu_ob h
    refine (agf_iput e58 (Or.inl (by decide))).tr ?_
    exact zb_X12_test_419 hR_X12_several hR_X12_test h
  replace h := uu_neg c243_4 h
  by_cases c243_5 : x1 = 25
  · replace h := uu_pos c243_5 h
    obtain ⟨s59, e60, h⟩ := uu_ob h
    refine ((zc_X12_size  e60).mo (by decide) (by decide) (by decide) (fun _ h => nomatch h)).tr ?_
    exact zb_X12_test_419 hR_X12_several hR_X12_test h
  replace h := uu_neg c243_5 h
  by_cases c243_6 : x1 = 26
  · replace h := uu_pos c243_6 h
    obtain ⟨s61, e62, h⟩ := uu_ob h
    refine (hR_X12_several _ _ _ e62).tr ?_
    exact zb_X12_test_419 hR_X12_several hR_X12_test h
  replace h := uu_neg c243_6 h
  by_cases c243_7 : x1 = 27
  · replace h := uu_pos c243_7 h
    obtain ⟨s63, e64, h⟩ := uu_ob h
    refine (hR_X12_several _ _ _ e64).tr ?_
    exact zb_X12_test_419 hR_X12_several hR_X12_test h
  replace h := uu_neg c243_7 h
  by_cases c243_8 : x1 = 28
  · replace h := uu_pos c243_8 h
    obtain ⟨r65, e66, h⟩ := uu_ob h
    refine (hR_X12_test  _ _ e66).tr ?_
    obtain ⟨s67, e68, h⟩ := uu_ob h
    refine ((zc_X12_put  e68).mo (by decide) (by decide) (by decide) (fun _ h => nomatch h)).tr ?_
    exact zb_X12_test_419 hR_X12_several hR_X12_test h
  replace h := uu_neg c243_8 h
  exact zb_X12_test_419 hR_X12_several hR_X12_test h
set_option maxRecDepth 100000 in
set_option maxHeartbeats 4000000 in
theorem zb_X12_test_226 {R_X12_several : Int32 → uS → Option uS} {R_X12_test : uS → Option (uS × Int32)}  (hR_X12_several : ∀ (x1 : Int32) (s : uS) (r : uS), R_X12_several x1 s = some r → agf [(1079, 21), (1079, 30), (1079, 31), (1079, 32), (1079, 33), (1079, 34), (1079, 35), (1079, 37), (1079, 38), (1079, 39), (1079, 40), (1079, 41), (1079, 42), (1079, 61), (1079, 65), (1079, 66)] [1093, 1097, 1098, 1099, 1100, 1101, 1102, 1103, 1104, 1105, 1106, 1107, 1108, 1109, 1110, 1111, 1112, 1113, 1114, 1115, 1116, 1117] [] [] s r) (hR_X12_test : ∀  (s : uS) (r : (uS × Int32)), R_X12_test  s = some r → agf [(1079, 21), (1079, 30), (1079, 31), (1079, 32), (1079, 33), (1079, 34), (1079, 35), (1079, 37), (1079, 38), (1079, 39), (1079, 40), (1079, 41), (1079, 42), (1079, 61), (1079, 65), (1079, 66)] [1093, 1097, 1098, 1099, 1100, 1101, 1102, 1103, 1104, 1105, 1106, 1107, 1108, 1109, 1110, 1111, 1112, 1113, 1114, 1115, 1116, 1117] [] [] s r.1)  {x1 : Int32} {x2 : Int32} {s : uS} {r : (uS × Int32)}  (h : fb_X12_test_226 R_X12_several R_X12_test  x1 x2 s = some r) : agf [(1079, 21), (1079, 30), (1079, 31), (1079, 32), (1079, 33), (1079, 34), (1079, 35), (1079, 37), (1079, 38), (1079, 39), (1079, 40), (1079, 41), (1079, 42), (1079, 61), (1079, 65), (1079, 66)] [1093, 1097, 1098, 1099, 1100, 1101, 1102, 1103, 1104, 1105, 1106, 1107, 1108, 1109, 1110, 1111, 1112, 1113, 1114, 1115, 1116, 1117] [] [] s r.1 := by
  unfold fb_X12_test_226 at h
  by_cases c1 : x1 = 23
  · replace h := uu_pos c1 h
    obtain ⟨s2, e3, h⟩ := uu_ob h
    refine ((zc_X12_needs  e3).mo (by decide) (by decide) (by decide) (fun _ h => nomatch h)).tr ?_
    exact zb_X12_test_238 hR_X12_several hR_X12_test h
  · replace h := uu_neg c1 h
    exact zb_X12_test_238 hR_X12_several hR_X12_test h
set_option maxRecDepth 100000 in
set_option maxHeartbeats 4000000 in
theorem zb_X12_test_209 {R_X12_several : Int32 → uS → Option uS} {R_X12_test : uS → Option (uS × Int32)}  (hR_X12_several : ∀ (x1 : Int32) (s : uS) (r : uS), R_X12_several x1 s = some r → agf [(1079, 21), (1079, 30), (1079, 31), (1079, 32), (1079, 33), (1079, 34), (1079, 35), (1079, 37), (1079, 38), (1079, 39), (1079, 40), (1079, 41), (1079, 42), (1079, 61), (1079, 65), (1079, 66)] [1093, 1097, 1098, 1099, 1100, 1101, 1102, 1103, 1104, 1105, 1106, 1107, 1108, 1109, 1110, 1111, 1112, 1113, 1114, 1115, 1116, 1117] [] [] s r) (hR_X12_test : ∀  (s : uS) (r : (uS × Int32)), R_X12_test  s = some r → agf [(1079, 21), (1079, 30), (1079, 31), (1079, 32), (1079, 33), (1079, 34), (1079, 35), (1079, 37), (1079, 38), (1079, 39), (1079, 40), (1079, 41), (1079, 42), (1079, 61), (1079, 65), (1079, 66)] [1093, 1097, 1098, 1099, 1100, 1101, 1102, 1103, 1104, 1105, 1106, 1107, 1108, 1109, 1110, 1111, 1112, 1113, 1114, 1115, 1116, 1117] [] [] s r.1)  {x1 : Int32} {s : uS} {r : (uS × Int32)}  (h : fb_X12_test_209 R_X12_several R_X12_test  x1 s = some r) : agf [(1079, 21), (1079, 30), (1079, 31), (1079, 32), (1079, 33), (1079, 34), (1079, 35), (1079, 37), (1079, 38), (1079, 39), (1079, 40), (1079, 41), (1079, 42), (1079, 61), (1079, 65), (1079, 66)] [1093, 1097, 1098, 1099, 1100, 1101, 1102, 1103, 1104, 1105, 1106, 1107, 1108, 1109, 1110, 1111, 1112, 1113, 1114, 1115, 1116, 1117] [] [] s r.1 := by
  unfold fb_X12_test_209 at h
  obtain ⟨r1, e2, h⟩ := uu_ob h
  refine ((zc_X12_counting  e2).mo (by decide) (by decide) (by decide) (fun _ h => nomatch h)).tr ?_
  by_cases c3 : x1 = 22
  · replace h := uu_pos c3 h
    obtain ⟨s4, e5, h⟩ := uu_ob h
    refine ((zc_X12_needs  e5).mo (by decide) (by decide) (by decide) (fun _ h => nomatch h)).tr ?_
    exact zb_X12_test_226 hR_X12_several hR_X12_test h
  · replace h := uu_neg c3 h
    exact zb_X12_test_226 hR_X12_several hR_X12_test h
set_option maxRecDepth 100000 in
set_option maxHeartbeats 4000000 in
theorem zb_X12_test_166 {R_X12_several : Int32 → uS → Option uS} {R_X12_test : uS → Option (uS × Int32)}  (hR_X12_several : ∀ (x1 : Int32) (s : uS) (r : uS), R_X12_several x1 s = some r → agf [(1079, 21), (1079, 30), (1079, 31), (1079, 32), (1079, 33), (1079, 34), (1079, 35), (1079, 37), (1079, 38), (1079, 39), (1079, 40), (1079, 41), (1079, 42), (1079, 61), (1079, 65), (1079, 66)] [1093, 1097, 1098, 1099, 1100, 1101, 1102, 1103, 1104, 1105, 1106, 1107, 1108, 1109, 1110, 1111, 1112, 1113, 1114, 1115, 1116, 1117] [] [] s r) (hR_X12_test : ∀  (s : uS) (r : (uS × Int32)), R_X12_test  s = some r → agf [(1079, 21), (1079, 30), (1079, 31), (1079, 32), (1079, 33), (1079, 34), (1079, 35), (1079, 37), (1079, 38), (1079, 39), (1079, 40), (1079, 41), (1079, 42), (1079, 61), (1079, 65), (1079, 66)] [1093, 1097, 1098, 1099, 1100, 1101, 1102, 1103, 1104, 1105, 1106, 1107, 1108, 1109, 1110, 1111, 1112, 1113, 1114, 1115, 1116, 1117] [] [] s r.1)  {xs0 : Int32} {s : uS} {r : (uS × Int32)}  (h : fb_X12_test_166 R_X12_several R_X12_test  xs0 s = some r) : agf [(1079, 21), (1079, 30), (1079, 31), (1079, 32), (1079, 33), (1079, 34), (1079, 35), (1079, 37), (1079, 38), (1079, 39), (1079, 40), (1079, 41), (1079, 42), (1079, 61), (1079, 65), (1079, 66)] [1093, 1097, 1098, 1099, 1100, 1101, 1102, 1103, 1104, 1105, 1106, 1107, 1108, 1109, 1110, 1111, 1112, 1113, 1114, 1115, 1116, 1117] [] [] s r.1 := by
  unfold fb_X12_test_166 at h
  by_cases c1 : xs0 = (-1)
  · replace h := uu_pos c1 h
    obtain ⟨s2, e3, h⟩ := uu_ob h
    refine ((zc_X12_fail  e3).mo (by decide) (by decide) (by decide) (fun _ h => nomatch h)).tr ?_
    have hr := Option.some.inj h
    subst hr
    exact agf.rf
  · replace h := uu_neg c1 h
    refine (agf_wI (a := 1079) (f := 66) (v := (s.I 1079 66) + 1) (Or.inl (by decide))).tr ?_
    by_cases c4 : ((wI s 1079 66 ((s.I 1079 66) + 1)).I 1079 66) ≤ 8
    · replace h := uu_pos c4 h
      exact zb_X12_test_209 hR_X12_several hR_X12_test h
    · replace h := uu_neg c4 h
      obtain ⟨s5, e6, h⟩ := uu_ob h
      refine ((zc_X12_fail  e6).mo (by decide) (by decide) (by decide) (fun _ h => nomatch h)).tr ?_
      exact zb_X12_test_209 hR_X12_several hR_X12_test h
set_option maxRecDepth 100000 in
set_option maxHeartbeats 4000000 in
theorem zc_X12_test {R_X12_several : Int32 → uS → Option uS} {R_X12_test : uS → Option (uS × Int32)} (hR_X12_several : ∀ (x1 : Int32) (s : uS) (r : uS), R_X12_several x1 s = some r → agf [(1079, 21), (1079, 30), (1079, 31), (1079, 32), (1079, 33), (1079, 34), (1079, 35), (1079, 37), (1079, 38), (1079, 39), (1079, 40), (1079, 41), (1079, 42), (1079, 61), (1079, 65), (1079, 66)] [1093, 1097, 1098, 1099, 1100, 1101, 1102, 1103, 1104, 1105, 1106, 1107, 1108, 1109, 1110, 1111, 1112, 1113, 1114, 1115, 1116, 1117] [] [] s r) (hR_X12_test : ∀  (s : uS) (r : (uS × Int32)), R_X12_test  s = some r → agf [(1079, 21), (1079, 30), (1079, 31), (1079, 32), (1079, 33), (1079, 34), (1079, 35), (1079, 37), (1079, 38), (1079, 39), (1079, 40), (1079, 41), (1079, 42), (1079, 61), (1079, 65), (1079, 66)] [1093, 1097, 1098, 1099, 1100, 1101, 1102, 1103, 1104, 1105, 1106, 1107, 1108, 1109, 1110, 1111, 1112, 1113, 1114, 1115, 1116, 1117] [] [] s r.1)  {s : uS} {r : (uS × Int32)}  (h : fn_X12_test R_X12_several R_X12_test  s = some r) : agf [(1079, 21), (1079, 30), (1079, 31), (1079, 32), (1079, 33), (1079, 34), (1079, 35), (1079, 37), (1079, 38), (1079, 39), (1079, 40), (1079, 41), (1079, 42), (1079, 61), (1079, 65), (1079, 66)] [1093, 1097, 1098, 1099, 1100, 1101, 1102, 1103, 1104, 1105, 1106, 1107, 1108, 1109, 1110, 1111, 1112, 1113, 1114, 1115, 1116, 1117] [] [] s r.1 := by
  unfold fn_X12_test at h
  obtain ⟨v2, e3, h⟩ := uu_ob h
  by_cases c4 : v2 = true
  · replace h := uu_pos c4 h
    exact zb_X12_test_166 hR_X12_several hR_X12_test h
  · replace h := uu_neg c4 h
    obtain ⟨v6, e7, h⟩ := uu_ob h
    by_cases c8 : v6 = true
    · replace h := uu_pos c8 h
      exact zb_X12_test_166 hR_X12_several hR_X12_test h
    · replace h := uu_neg c8 h
      obtain ⟨v10, e11, h⟩ := uu_ob h
      by_cases c12 : v10 = true
      · replace h := uu_pos c12 h
        exact zb_X12_test_166 hR_X12_several hR_X12_test h
      · replace h := uu_neg c12 h
        obtain ⟨v14, e15, h⟩ := uu_ob h
        by_cases c16 : v14 = true
        · replace h := uu_pos c16 h
          exact zb_X12_test_166 hR_X12_several hR_X12_test h
        · replace h := uu_neg c16 h
          obtain ⟨v18, e19, h⟩ := uu_ob h
          by_cases c20 : v18 = true
          · replace h := uu_pos c20 h
            exact zb_X12_test_166 hR_X12_several hR_X12_test h
          · replace h := uu_neg c20 h
            obtain ⟨v22, e23, h⟩ := uu_ob h
            by_cases c24 : v22 = true
            · replace h := uu_pos c24 h
              exact zb_X12_test_166 hR_X12_several hR_X12_test h
            · replace h := uu_neg c24 h
              obtain ⟨v26, e27, h⟩ := uu_ob h
              by_cases c28 : v26 = true
              · replace h := uu_pos c28 h
                exact zb_X12_test_166 hR_X12_several hR_X12_test h
              · replace h := uu_neg c28 h
                obtain ⟨v30, e31, h⟩ := uu_ob h
                by_cases c32 : v30 = true
                · replace h := uu_pos c32 h
                  exact zb_X12_test_166 hR_X12_several hR_X12_test h
                · replace h := uu_neg c32 h
                  obtain ⟨v34, e35, h⟩ := uu_ob h
                  by_cases c36 : v34 = true
                  · replace h := uu_pos c36 h
                    exact zb_X12_test_166 hR_X12_several hR_X12_test h
                  · replace h := uu_neg c36 h
                    obtain ⟨v38, e39, h⟩ := uu_ob h
                    by_cases c40 : v38 = true
                    · replace h := uu_pos c40 h
                      exact zb_X12_test_166 hR_X12_several hR_X12_test h
                    · replace h := uu_neg c40 h
                      obtain ⟨v42, e43, h⟩ := uu_ob h
                      by_cases c44 : v42 = true
                      · replace h := uu_pos c44 h
                        exact zb_X12_test_166 hR_X12_several hR_X12_test h
                      · replace h := uu_neg c44 h
                        exact zb_X12_test_166 hR_X12_several hR_X12_test h
set_option maxRecDepth 100000 in
set_option maxHeartbeats 4000000 in
theorem zb_X12_several_46 {R_X12_test : uS → Option (uS × Int32)}  (hR_X12_test : ∀  (s : uS) (r : (uS × Int32)), R_X12_test  s = some r → agf [(1079, 21), (1079, 30), (1079, 31), (1079, 32), (1079, 33), (1079, 34), (1079, 35), (1079, 37), (1079, 38), (1079, 39), (1079, 40), (1079, 41), (1079, 42), (1079, 61), (1079, 65), (1079, 66)] [1093, 1097, 1098, 1099, 1100, 1101, 1102, 1103, 1104, 1105, 1106, 1107, 1108, 1109, 1110, 1111, 1112, 1113, 1114, 1115, 1116, 1117] [] [] s r.1)   {s : uS} {r : uS}  (h : fb_X12_several_46 R_X12_test   s = some r) : agf [(1079, 21), (1079, 30), (1079, 31), (1079, 32), (1079, 33), (1079, 34), (1079, 35), (1079, 37), (1079, 38), (1079, 39), (1079, 40), (1079, 41), (1079, 42), (1079, 61), (1079, 65), (1079, 66)] [1093, 1097, 1098, 1099, 1100, 1101, 1102, 1103, 1104, 1105, 1106, 1107, 1108, 1109, 1110, 1111, 1112, 1113, 1114, 1115, 1116, 1117] [] [] s r := by
  unfold fb_X12_several_46 at h
  obtain ⟨s1, e2, h⟩ := uu_ob h
  refine ((zc_X12_take  e2).mo (by decide) (by decide) (by decide) (fun _ h => nomatch h)).tr ?_
  have hr := Option.some.inj h
  subst hr
  exact agf.rf
set_option maxRecDepth 100000 in
set_option maxHeartbeats 4000000 in
theorem zb_X12_several_8 {R_X12_test : uS → Option (uS × Int32)} {K8 : Int32 → Bool → uS → Option uS} (hR_X12_test : ∀  (s : uS) (r : (uS × Int32)), R_X12_test  s = some r → agf [(1079, 21), (1079, 30), (1079, 31), (1079, 32), (1079, 33), (1079, 34), (1079, 35), (1079, 37), (1079, 38), (1079, 39), (1079, 40), (1079, 41), (1079, 42), (1079, 61), (1079, 65), (1079, 66)] [1093, 1097, 1098, 1099, 1100, 1101, 1102, 1103, 1104, 1105, 1106, 1107, 1108, 1109, 1110, 1111, 1112, 1113, 1114, 1115, 1116, 1117] [] [] s r.1) (hK8 : ∀ (x1 : Int32) (b2 : Bool)  (s : uS) (r : uS), K8 x1 b2 s = some r → agf [(1079, 21), (1079, 30), (1079, 31), (1079, 32), (1079, 33), (1079, 34), (1079, 35), (1079, 37), (1079, 38), (1079, 39), (1079, 40), (1079, 41), (1079, 42), (1079, 61), (1079, 65), (1079, 66)] [1093, 1097, 1098, 1099, 1100, 1101, 1102, 1103, 1104, 1105, 1106, 1107, 1108, 1109, 1110, 1111, 1112, 1113, 1114, 1115, 1116, 1117] [] [] s r) {x1 : Int32} {b2 : Bool} {s : uS} {r : uS}  (h : fb_X12_several_8 R_X12_test K8 x1 b2 s = some r) : agf [(1079, 21), (1079, 30), (1079, 31), (1079, 32), (1079, 33), (1079, 34), (1079, 35), (1079, 37), (1079, 38), (1079, 39), (1079, 40), (1079, 41), (1079, 42), (1079, 61), (1079, 65), (1079, 66)] [1093, 1097, 1098, 1099, 1100, 1101, 1102, 1103, 1104, 1105, 1106, 1107, 1108, 1109, 1110, 1111, 1112, 1113, 1114, 1115, 1116, 1117] [] [] s r := by
  unfold fb_X12_several_8 at h
  by_cases c1 : b2 = true
  · replace h := uu_pos c1 h
    by_cases c2 : 0 ≤ (s.I 1079 40)
    · replace h := uu_pos c2 h
      exact zb_X12_several_46 hR_X12_test h
    · replace h := uu_neg c2 h
      obtain ⟨r3, e4, h⟩ := uu_ob h
      refine (hR_X12_test  _ _ e4).tr ?_
      obtain ⟨s5, e6, h⟩ := uu_ob h
      refine ((zc_X12_put  e6).mo (by decide) (by decide) (by decide) (fun _ h => nomatch h)).tr ?_
      obtain ⟨v7, e8, h⟩ := uu_ob h
      by_cases c9 : v7 = true
      · replace h := uu_pos c9 h
        obtain ⟨s10, e11, h⟩ := uu_ob h
        refine ((zc_X12_next  e11).mo (by decide) (by decide) (by decide) (fun _ h => nomatch h)).tr ?_
        exact hK8 x1 v7 _ _ h
      · replace h := uu_neg c9 h
        exact hK8 x1 v7 _ _ h
  · replace h := uu_neg c1 h
    exact zb_X12_several_46 hR_X12_test h
set_option maxRecDepth 100000 in
set_option maxHeartbeats 4000000 in
theorem zn_X12_several_8 {R_X12_test : uS → Option (uS × Int32)}  (hR_X12_test : ∀  (s : uS) (r : (uS × Int32)), R_X12_test  s = some r → agf [(1079, 21), (1079, 30), (1079, 31), (1079, 32), (1079, 33), (1079, 34), (1079, 35), (1079, 37), (1079, 38), (1079, 39), (1079, 40), (1079, 41), (1079, 42), (1079, 61), (1079, 65), (1079, 66)] [1093, 1097, 1098, 1099, 1100, 1101, 1102, 1103, 1104, 1105, 1106, 1107, 1108, 1109, 1110, 1111, 1112, 1113, 1114, 1115, 1116, 1117] [] [] s r.1)  : ∀ (n : Nat) (x1 : Int32) (b2 : Bool)  (s : uS) (r : uS), fn_X12_several_8 R_X12_test  n x1 b2 s = some r → agf [(1079, 21), (1079, 30), (1079, 31), (1079, 32), (1079, 33), (1079, 34), (1079, 35), (1079, 37), (1079, 38), (1079, 39), (1079, 40), (1079, 41), (1079, 42), (1079, 61), (1079, 65), (1079, 66)] [1093, 1097, 1098, 1099, 1100, 1101, 1102, 1103, 1104, 1105, 1106, 1107, 1108, 1109, 1110, 1111, 1112, 1113, 1114, 1115, 1116, 1117] [] [] s r := by
  intro n
  induction n with
  | zero => intro x1 b2  s r h
            cases h
  | succ n ih => intro x1 b2  s r h
                 exact zb_X12_several_8 hR_X12_test ih  h
set_option maxRecDepth 100000 in
set_option maxHeartbeats 4000000 in
theorem zc_X12_several {R_X12_test : uS → Option (uS × Int32)} (hR_X12_test : ∀  (s : uS) (r : (uS × Int32)), R_X12_test  s = some r → agf [(1079, 21), (1079, 30), (1079, 31), (1079, 32), (1079, 33), (1079, 34), (1079, 35), (1079, 37), (1079, 38), (1079, 39), (1079, 40), (1079, 41), (1079, 42), (1079, 61), (1079, 65), (1079, 66)] [1093, 1097, 1098, 1099, 1100, 1101, 1102, 1103, 1104, 1105, 1106, 1107, 1108, 1109, 1110, 1111, 1112, 1113, 1114, 1115, 1116, 1117] [] [] s r.1) {x1 : Int32} {s : uS} {r : uS}  (h : fn_X12_several R_X12_test x1 s = some r) : agf [(1079, 21), (1079, 30), (1079, 31), (1079, 32), (1079, 33), (1079, 34), (1079, 35), (1079, 37), (1079, 38), (1079, 39), (1079, 40), (1079, 41), (1079, 42), (1079, 61), (1079, 65), (1079, 66)] [1093, 1097, 1098, 1099, 1100, 1101, 1102, 1103, 1104, 1105, 1106, 1107, 1108, 1109, 1110, 1111, 1112, 1113, 1114, 1115, 1116, 1117] [] [] s r := by
  unfold fn_X12_several at h
  obtain ⟨s1, e2, h⟩ := uu_ob h
  refine ((zc_X12_take  e2).mo (by decide) (by decide) (by decide) (fun _ h => nomatch h)).tr ?_
  exact zn_X12_several_8 hR_X12_test _ _ _ _ _ h
set_option maxRecDepth 100000 in
set_option maxHeartbeats 4000000 in
theorem zb_X12_commands_0 {R_X12_command : uS → Option (uS × Int32)} {K0 : Int32 → uS → Option uS} (hR_X12_command : ∀  (s : uS) (r : (uS × Int32)), R_X12_command  s = some r → agf [(1079, 21), (1079, 30), (1079, 31), (1079, 32), (1079, 33), (1079, 34), (1079, 35), (1079, 37), (1079, 38), (1079, 39), (1079, 40), (1079, 41), (1079, 42), (1079, 61), (1079, 65), (1079, 66)] [1093, 1097, 1098, 1099, 1100, 1101, 1102, 1103, 1104, 1105, 1106, 1107, 1108, 1109, 1110, 1111, 1112, 1113, 1114, 1115, 1116, 1117] [] [] s r.1) (hK0 : ∀ (x1 : Int32)  (s : uS) (r : uS), K0 x1 s = some r → agf [(1079, 21), (1079, 30), (1079, 31), (1079, 32), (1079, 33), (1079, 34), (1079, 35), (1079, 37), (1079, 38), (1079, 39), (1079, 40), (1079, 41), (1079, 42), (1079, 61), (1079, 65), (1079, 66)] [1093, 1097, 1098, 1099, 1100, 1101, 1102, 1103, 1104, 1105, 1106, 1107, 1108, 1109, 1110, 1111, 1112, 1113, 1114, 1115, 1116, 1117] [] [] s r) {x1 : Int32} {s : uS} {r : uS}  (h : fb_X12_commands_0 R_X12_command K0 x1 s = some r) : agf [(1079, 21), (1079, 30), (1079, 31), (1079, 32), (1079, 33), (1079, 34), (1079, 35), (1079, 37), (1079, 38), (1079, 39), (1079, 40), (1079, 41), (1079, 42), (1079, 61), (1079, 65), (1079, 66)] [1093, 1097, 1098, 1099, 1100, 1101, 1102, 1103, 1104, 1105, 1106, 1107, 1108, 1109, 1110, 1111, 1112, 1113, 1114, 1115, 1116, 1117] [] [] s r := by
  unfold fb_X12_commands_0 at h
  obtain ⟨v1, e2, h⟩ := uu_ob h
  by_cases c3 : v1 = true
  · replace h := uu_pos c3 h
    obtain ⟨r4, e5, h⟩ := uu_ob h
    refine (hR_X12_command  _ _ e5).tr ?_
    obtain ⟨s6, e7, h⟩ := uu_ob h
    refine ((zc_X12_put  e7).mo (by decide) (by decide) (by decide) (fun _ h => nomatch h)).tr ?_
    exact hK0 x1 _ _ h
  · replace h := uu_neg c3 h
    have hr := Option.some.inj h
    subst hr
    exact agf.rf
set_option maxRecDepth 100000 in
set_option maxHeartbeats 4000000 in
theorem zn_X12_commands_0 {R_X12_command : uS → Option (uS × Int32)}  (hR_X12_command : ∀  (s : uS) (r : (uS × Int32)), R_X12_command  s = some r → agf [(1079, 21), (1079, 30), (1079, 31), (1079, 32), (1079, 33), (1079, 34), (1079, 35), (1079, 37), (1079, 38), (1079, 39), (1079, 40), (1079, 41), (1079, 42), (1079, 61), (1079, 65), (1079, 66)] [1093, 1097, 1098, 1099, 1100, 1101, 1102, 1103, 1104, 1105, 1106, 1107, 1108, 1109, 1110, 1111, 1112, 1113, 1114, 1115, 1116, 1117] [] [] s r.1)  : ∀ (n : Nat) (x1 : Int32)  (s : uS) (r : uS), fn_X12_commands_0 R_X12_command  n x1 s = some r → agf [(1079, 21), (1079, 30), (1079, 31), (1079, 32), (1079, 33), (1079, 34), (1079, 35), (1079, 37), (1079, 38), (1079, 39), (1079, 40), (1079, 41), (1079, 42), (1079, 61), (1079, 65), (1079, 66)] [1093, 1097, 1098, 1099, 1100, 1101, 1102, 1103, 1104, 1105, 1106, 1107, 1108, 1109, 1110, 1111, 1112, 1113, 1114, 1115, 1116, 1117] [] [] s r := by
  intro n
  induction n with
  | zero => intro x1  s r h
            cases h
  | succ n ih => intro x1  s r h
                 exact zb_X12_commands_0 hR_X12_command ih  h
set_option maxRecDepth 100000 in
set_option maxHeartbeats 4000000 in
theorem zc_X12_commands {R_X12_command : uS → Option (uS × Int32)} (hR_X12_command : ∀  (s : uS) (r : (uS × Int32)), R_X12_command  s = some r → agf [(1079, 21), (1079, 30), (1079, 31), (1079, 32), (1079, 33), (1079, 34), (1079, 35), (1079, 37), (1079, 38), (1079, 39), (1079, 40), (1079, 41), (1079, 42), (1079, 61), (1079, 65), (1079, 66)] [1093, 1097, 1098, 1099, 1100, 1101, 1102, 1103, 1104, 1105, 1106, 1107, 1108, 1109, 1110, 1111, 1112, 1113, 1114, 1115, 1116, 1117] [] [] s r.1) {x1 : Int32} {s : uS} {r : uS}  (h : fn_X12_commands R_X12_command x1 s = some r) : agf [(1079, 21), (1079, 30), (1079, 31), (1079, 32), (1079, 33), (1079, 34), (1079, 35), (1079, 37), (1079, 38), (1079, 39), (1079, 40), (1079, 41), (1079, 42), (1079, 61), (1079, 65), (1079, 66)] [1093, 1097, 1098, 1099, 1100, 1101, 1102, 1103, 1104, 1105, 1106, 1107, 1108, 1109, 1110, 1111, 1112, 1113, 1114, 1115, 1116, 1117] [] [] s r := by
  unfold fn_X12_commands at h
  exact zn_X12_commands_0 hR_X12_command _ _ _ _ h
set_option maxRecDepth 100000 in
set_option maxHeartbeats 4000000 in
theorem zb_X12_block_42 {R_X12_commands : Int32 → uS → Option uS}  (hR_X12_commands : ∀ (x1 : Int32) (s : uS) (r : uS), R_X12_commands x1 s = some r → agf [(1079, 21), (1079, 30), (1079, 31), (1079, 32), (1079, 33), (1079, 34), (1079, 35), (1079, 37), (1079, 38), (1079, 39), (1079, 40), (1079, 41), (1079, 42), (1079, 61), (1079, 65), (1079, 66)] [1093, 1097, 1098, 1099, 1100, 1101, 1102, 1103, 1104, 1105, 1106, 1107, 1108, 1109, 1110, 1111, 1112, 1113, 1114, 1115, 1116, 1117] [] [] s r)  {x1 : Int32} {s : uS} {r : (uS × Int32)}  (h : fb_X12_block_42 R_X12_commands  x1 s = some r) : agf [(1079, 21), (1079, 30), (1079, 31), (1079, 32), (1079, 33), (1079, 34), (1079, 35), (1079, 37), (1079, 38), (1079, 39), (1079, 40), (1079, 41), (1079, 42), (1079, 61), (1079, 65), (1079, 66)] [1093, 1097, 1098, 1099, 1100, 1101, 1102, 1103, 1104, 1105, 1106, 1107, 1108, 1109, 1110, 1111, 1112, 1113, 1114, 1115, 1116, 1117] [] [] s r.1 := by
  unfold fb_X12_block_42 at h
  obtain ⟨s1, e2, h⟩ := uu_ob h
  refine ((zc_X12_take  e2).mo (by decide) (by decide) (by decide) (fun _ h => nomatch h)).tr ?_
  obtain ⟨s3, e4, h⟩ := uu_ob h
  refine (hR_X12_commands _ _ _ e4).tr ?_
  obtain ⟨s5, e6, h⟩ := uu_ob h
  refine ((zc_X12_take  e6).mo (by decide) (by decide) (by decide) (fun _ h => nomatch h)).tr ?_
  refine (agf_wI (a := 1079) (f := 65) (v := (s5.I 1079 65) - 1) (Or.inl (by decide))).tr ?_
  have hr := Option.some.inj h
  subst hr
  exact agf.rf
set_option maxRecDepth 100000 in
set_option maxHeartbeats 4000000 in
theorem zc_X12_block {R_X12_commands : Int32 → uS → Option uS} (hR_X12_commands : ∀ (x1 : Int32) (s : uS) (r : uS), R_X12_commands x1 s = some r → agf [(1079, 21), (1079, 30), (1079, 31), (1079, 32), (1079, 33), (1079, 34), (1079, 35), (1079, 37), (1079, 38), (1079, 39), (1079, 40), (1079, 41), (1079, 42), (1079, 61), (1079, 65), (1079, 66)] [1093, 1097, 1098, 1099, 1100, 1101, 1102, 1103, 1104, 1105, 1106, 1107, 1108, 1109, 1110, 1111, 1112, 1113, 1114, 1115, 1116, 1117] [] [] s r)  {s : uS} {r : (uS × Int32)}  (h : fn_X12_block R_X12_commands  s = some r) : agf [(1079, 21), (1079, 30), (1079, 31), (1079, 32), (1079, 33), (1079, 34), (1079, 35), (1079, 37), (1079, 38), (1079, 39), (1079, 40), (1079, 41), (1079, 42), (1079, 61), (1079, 65), (1079, 66)] [1093, 1097, 1098, 1099, 1100, 1101, 1102, 1103, 1104, 1105, 1106, 1107, 1108, 1109, 1110, 1111, 1112, 1113, 1114, 1115, 1116, 1117] [] [] s r.1 := by
  unfold fn_X12_block at h
  obtain ⟨r1, e2, h⟩ := uu_ob h
  refine ((zc_X12_node  e2).mo (by decide) (by decide) (by decide) (fun _ h => nomatch h)).tr ?_
  refine (agf_wI (a := 1079) (f := 65) (v := (r1.1.I 1079 65) + 1) (Or.inl (by decide))).tr ?_
  obtain ⟨v3, e4, h⟩ := uu_ob h
  by_cases c5 : v3 = true
  · replace h := uu_pos c5 h
    by_cases c6 : ((wI r1.1 1079 65 ((r1.1.I 1079 65) + 1)).I 1079 65) ≤ 8
    · replace h := uu_pos c6 h
      exact zb_X12_block_42 hR_X12_commands h
    · replace h := uu_neg c6 h
      obtain ⟨s7, e8, h⟩ := uu_ob h
      refine ((zc_X12_fail  e8).mo (by decide) (by decide) (by decide) (fun _ h => nomatch h)).tr ?_
      exact zb_X12_block_42 hR_X12_commands h
  · replace h := uu_neg c5 h
    exact zb_X12_block_42 hR_X12_commands h
set_option maxRecDepth 100000 in
set_option maxHeartbeats 4000000 in
theorem zb_X12_command_389 {R_X12_choice : uS → Option (uS × Int32)}  (hR_X12_choice : ∀  (s : uS) (r : (uS × Int32)), R_X12_choice  s = some r → agf [(1079, 21), (1079, 30), (1079, 31), (1079, 32), (1079, 33), (1079, 34), (1079, 35), (1079, 37), (1079, 38), (1079, 39), (1079, 40), (1079, 41), (1079, 42), (1079, 61), (1079, 65), (1079, 66)] [1093, 1097, 1098, 1099, 1100, 1101, 1102, 1103, 1104, 1105, 1106, 1107, 1108, 1109, 1110, 1111, 1112, 1113, 1114, 1115, 1116, 1117] [] [] s r.1)  {x1 : Int32} {s : uS} {r : (uS × Int32)}  (h : fb_X12_command_389 R_X12_choice  x1 s = some r) : agf [(1079, 21), (1079, 30), (1079, 31), (1079, 32), (1079, 33), (1079, 34), (1079, 35), (1079, 37), (1079, 38), (1079, 39), (1079, 40), (1079, 41), (1079, 42), (1079, 61), (1079, 65), (1079, 66)] [1093, 1097, 1098, 1099, 1100, 1101, 1102, 1103, 1104, 1105, 1106, 1107, 1108, 1109, 1110, 1111, 1112, 1113, 1114, 1115, 1116, 1117] [] [] s r.1 := by
  unfold fb_X12_command_389 at h
  obtain ⟨s1, e2, h⟩ := uu_ob h
  refine ((zc_X12_take  e2).mo (by decide) (by decide) (by decide) (fun _ h => nomatch h)).tr ?_
  have hr := Option.some.inj h
  subst hr
  exact agf.rf
set_option maxRecDepth 100000 in
set_option maxHeartbeats 4000000 in
theorem zb_X12_command_378 {R_X12_choice : uS → Option (uS × Int32)}  (hR_X12_choice : ∀  (s : uS) (r : (uS × Int32)), R_X12_choice  s = some r → agf [(1079, 21), (1079, 30), (1079, 31), (1079, 32), (1079, 33), (1079, 34), (1079, 35), (1079, 37), (1079, 38), (1079, 39), (1079, 40), (1079, 41), (1079, 42), (1079, 61), (1079, 65), (1079, 66)] [1093, 1097, 1098, 1099, 1100, 1101, 1102, 1103, 1104, 1105, 1106, 1107, 1108, 1109, 1110, 1111, 1112, 1113, 1114, 1115, 1116, 1117] [] [] s r.1)  {x1 : Int32} {xs0 : Int32} {s : uS} {r : (uS × Int32)}  (h : fb_X12_command_378 R_X12_choice  x1 xs0 s = some r) : agf [(1079, 21), (1079, 30), (1079, 31), (1079, 32), (1079, 33), (1079, 34), (1079, 35), (1079, 37), (1079, 38), (1079, 39), (1079, 40), (1079, 41), (1079, 42), (1079, 61), (1079, 65), (1079, 66)] [1093, 1097, 1098, 1099, 1100, 1101, 1102, 1103, 1104, 1105, 1106, 1107, 1108, 1109, 1110, 1111, 1112, 1113, 1114, 1115, 1116, 1117] [] [] s r.1 := by
  unfold fb_X12_command_378 at h
  refine (agf_wI (a := 1079) (f := 40) (v := xs0) (Or.inl (by decide))).tr ?_
  obtain ⟨s1, e2, h⟩ := uu_ob h
  refine ((zc_X12_fail  e2).mo (by decide) (by decide) (by decide) (fun _ h => nomatch h)).tr ?_
  exact zb_X12_command_389 hR_X12_choice h
set_option maxRecDepth 100000 in
set_option maxHeartbeats 4000000 in
theorem zb_X12_command_163 {R_X12_choice : uS → Option (uS × Int32)}  (hR_X12_choice : ∀  (s : uS) (r : (uS × Int32)), R_X12_choice  s = some r → agf [(1079, 21), (1079, 30), (1079, 31), (1079, 32), (1079, 33), (1079, 34), (1079, 35), (1079, 37), (1079, 38), (1079, 39), (1079, 40), (1079, 41), (1079, 42), (1079, 61), (1079, 65), (1079, 66)] [1093, 1097, 1098, 1099, 1100, 1101, 1102, 1103, 1104, 1105, 1106, 1107, 1108, 1109, 1110, 1111, 1112, 1113, 1114, 1115, 1116, 1117] [] [] s r.1)  {xs0 : Int32} {s : uS} {r : (uS × Int32)}  (h : fb_X12_command_163 R_X12_choice  xs0 s = some r) : agf [(1079, 21), (1079, 30), (1079, 31), (1079, 32), (1079, 33), (1079, 34), (1079, 35), (1079, 37), (1079, 38), (1079, 39), (1079, 40), (1079, 41), (1079, 42), (1079, 61), (1079, 65), (1079, 66)] [1093, 1097, 1098, 1099, 1100, 1101, 1102, 1103, 1104, 1105, 1106, 1107, 1108, 1109, 1110, 1111, 1112, 1113, 1114, 1115, 1116, 1117] [] [] s r.1 := by
  unfold fb_X12_command_163 at h
  obtain ⟨r1, e2, h⟩ := uu_ob h
  refine ((zc_X12_counting  e2).mo (by decide) (by decide) (by decide) (fun _ h => nomatch h)).tr ?_
  obtain ⟨v3, e4, h⟩ := uu_ob h
  by_cases c173_0 : v3 = 2
  · replace h := uu_pos c173_0 h
    obtain ⟨s5, e6, h⟩ := uu_ob h
    refine ((zc_X12_next  e6).mo (by decide) (by decide) (by decide) (fun _ h => nomatch h)).tr ?_
    exact zb_X12_command_389 hR_X12_choice h
  replace h := uu_neg c173_0 h
  by_cases c173_1 : v3 = 3
  · replace h := uu_pos c173_1 h
    obtain ⟨s7, e8, h⟩ := uu_ob h
    refine ((zc_X12_next  e8).mo (by decide) (by decide) (by decide) (fun _ h => nomatch h)).tr ?_
    exact zb_X12_command_389 hR_X12_choice h
  replace h := uu_neg c173_1 h
  by_cases c173_2 : v3 = 4
  · replace h := uu_pos c173_2 h
    obtain ⟨s9, e10, h⟩ := uu_ob h
    refine ((zc_X12_next  e10).mo (by decide) (by decide) (by decide) (fun _ h => nomatch h)).tr ?_
    obtain ⟨s11, e12, h⟩ := uu_ob h
    refine ((zc_X12_tags  e12).mo (by decide) (by decide) (by decide) (fun _ h => nomatch h)).tr ?_
    exact zb_X12_command_389 hR_X12_choice h
  replace h := uu_neg c173_2 h
  by_cases c173_3 : v3 = 5
  · replace h := uu_pos c173_3 h
    obtain ⟨s13, e14, h⟩ := uu_ob h
    refine ((zc_X12_needs  e14).mo (by decide) (by decide) (by decide) (fun _ h => nomatch h)).tr ?_
    obtain ⟨s15, e16, h⟩ := uu_ob h
    refine ((zc_X12_next  e16).mo (by decide) (by decide) (by decide) (fun _ h => nomatch h)).tr ?_
    obtain ⟨s17, e18, h⟩ := uu_ob h
    refine ((zc_X12_tags  e18).mo (by decide) (by decide) (by decide) (fun _ h => nomatch h)).tr ?_
    obtain ⟨s19, e20, h⟩ := uu_ob h
    refine ((zc_X12_file  e20).mo (by decide) (by decide) (by decide) (fun _ h => nomatch h)).tr ?_
    exact zb_X12_command_389 hR_X12_choice h
  replace h := uu_neg c173_3 h
  by_cases c173_4 : v3 = 6
  · replace h := uu_pos c173_4 h
    obtain ⟨s21, e22, h⟩ := uu_ob h
    refine ((zc_X12_next  e22).mo (by decide) (by decide) (by decide) (fun _ h => nomatch h)).tr ?_
    obtain ⟨s23, e24, h⟩ := uu_ob h
    refine ((zc_X12_tags  e24).mo (by decide) (by decide) (by decide) (fun _ h => nomatch h)).tr ?_
    obtain ⟨s25, e26, h⟩ := uu_ob h
    refine ((zc_X12_redirect  e26).mo (by decide) (by decide) (by decide) (fun _ h => nomatch h)).tr ?_
    exact zb_X12_command_389 hR_X12_choice h
  replace h := uu_neg c173_4 h
  by_cases c173_5 : v3 = 7
  · replace h := uu_pos c173_5 h
    obtain ⟨s27, e28, h⟩ := uu_ob h
    refine ((zc_X12_needs  e28).mo (by decide) (by decide) (by decide) (fun _ h => nomatch h)).tr ?_
    obtain ⟨s29, e30, h⟩ := uu_ob h
    refine ((zc_X12_next  e30).mo (by decide) (by decide) (by decide) (fun _ h => nomatch h)).tr ?_
    obtain ⟨r31, e32, h⟩ := uu_ob h
    refine ((zc_X12_taken  e32).mo (by decide) (by decide) (by decide) (fun _ h => nomatch h)).tr ?_
    obtain ⟨s33, e34, h⟩ := uu_ob h
    refine (agf_iput e34 (Or.inl (by decide))).tr ?_
    exact zb_X12_command_389 hR_X12_choice h
  replace h := uu_neg c173_5 h
  by_cases c173_6 : v3 = 8
  · replace h := uu_pos c173_6 h
    obtain ⟨s35, e36, h⟩ := uu_ob h
    refine ((zc_X12_needs  e36).mo (by decide) (by decide) (by decide) (fun _ h => nomatch h)).tr ?_
    obtain ⟨s37, e38, h⟩ := uu_ob h
    refine ((zc_X12_next  e38).mo (by decide) (by decide) (by decide) (fun _ h => nomatch h)).tr ?_
    obtain ⟨s39, e40, h⟩ := uu_ob h
    refine (agf_iput e40 (Or.inl (by decide))).tr ?_
    obtain ⟨r41, e42, h⟩ := uu_ob h
    refine ((zc_X12_list  e42).mo (by decide) (by decide) (by decide) (fun _ h => nomatch h)).tr ?_
    obtain ⟨s43, e44, h⟩ := uu_ob h
    refine (agf_iput e44 (Or.inl (by decide))).tr ?_
    exact zb_X12_command_389 hR_X12_choice h
  replace h := uu_neg c173_6 h
  by_cases c173_7 : v3 = 9
  · replace h := uu_pos c173_7 h
    obtain ⟨s45, e46, h⟩ := uu_ob h
    refine ((zc_X12_needs  e46).mo (by decide) (by decide) (by decide) (fun _ h => nomatch h)).tr ?_
    obtain ⟨s47, e48, h⟩ := uu_ob h
    refine ((zc_X12_next  e48).mo (by decide) (by decide) (by decide) (fun _ h => nomatch h)).tr ?_
    obtain ⟨s49, e50, h⟩ := uu_ob h
    refine (agf_iput e50 (Or.inl (by decide))).tr ?_
    obtain ⟨r51, e52, h⟩ := uu_ob h
    refine ((zc_X12_list  e52).mo (by decide) (by decide) (by decide) (fun _ h => nomatch h)).tr ?_
    obtain ⟨s53, e54, h⟩ := uu_ob h
    refine (agf_iput e54 (Or.inl (by decide))).tr ?_
    exact zb_X12_command_389 hR_X12_choice h
  replace h := uu_neg c173_7 h
  by_cases c173_8 : v3 = 10
  · replace h := uu_pos c173_8 h
    obtain ⟨s55, e56, h⟩ := uu_ob h
    refine ((zc_X12_needs  e56).mo (by decide) (by decide) (by decide) (fun _ h => nomatch h)).tr ?_
    obtain ⟨s57, e58, h⟩ := uu_ob h
    refine ((zc_X12_next  e58).mo (by decide) (by decide) (by decide) (fun _ h => nomatch h)).tr ?_
    obtain ⟨s59, e60, h⟩ := uu_ob h
    refine (agf_iput e60 (Or.inl (by decide))).tr ?_
    obtain ⟨r61, e62, h⟩ := uu_ob h
    refine ((zc_X12_list  e62).mo (by decide) (by decide) (by decide) (fun _ h => nomatch h)).tr ?_
    obtain ⟨s63, e64, h⟩ := uu_ob h
    refine (agf_iput e64 (Or.inl (by decide))).tr ?_
    exact zb_X12_command_389 hR_X12_choice h
  replace h := uu_neg c173_8 h
  by_cases c173_9 : v3 = 11
  · replace h := uu_pos c173_9 h
    obtain ⟨s65, e66, h⟩ := uu_ob h
    refine ((zc_X12_needs  e66).mo (by decide) (by decide) (by decide) (fun _ h => nomatch h)).tr ?_
    obtain ⟨s67, e68, h⟩ := uu_ob h
    refine ((zc_X12_next  e68).mo (by decide) (by decide) (by decide) (fun _ h => nomatch h)).tr ?_
    obtain ⟨s69, e70, h⟩ := uu_ob h
    refine ((zc_X12_absence  e70).mo (by decide) (by decide) (by decide) (fun _ h => nomatch h)).tr ?_
    exact zb_X12_command_389 hR_X12_choice h
  replace h := uu_neg c173_9 h
  by_cases c71 : 0 ≤ (r1.1.I 1079 40)
  · replace h := uu_pos c71 h
    exact zb_X12_command_378 hR_X12_choice h
  · replace h := uu_neg c71 h
    exact zb_X12_command_378 hR_X12_choice h
set_option maxRecDepth 100000 in
set_option maxHeartbeats 4000000 in
theorem zc_X12_command {R_X12_choice : uS → Option (uS × Int32)} (hR_X12_choice : ∀  (s : uS) (r : (uS × Int32)), R_X12_choice  s = some r → agf [(1079, 21), (1079, 30), (1079, 31), (1079, 32), (1079, 33), (1079, 34), (1079, 35), (1079, 37), (1079, 38), (1079, 39), (1079, 40), (1079, 41), (1079, 42), (1079, 61), (1079, 65), (1079, 66)] [1093, 1097, 1098, 1099, 1100, 1101, 1102, 1103, 1104, 1105, 1106, 1107, 1108, 1109, 1110, 1111, 1112, 1113, 1114, 1115, 1116, 1117] [] [] s r.1)  {s : uS} {r : (uS × Int32)}  (h : fn_X12_command R_X12_choice  s = some r) : agf [(1079, 21), (1079, 30), (1079, 31), (1079, 32), (1079, 33), (1079, 34), (1079, 35), (1079, 37), (1079, 38), (1079, 39), (1079, 40), (1079, 41), (1079, 42), (1079, 61), (1079, 65), (1079, 66)] [1093, 1097, 1098, 1099, 1100, 1101, 1102, 1103, 1104, 1105, 1106, 1107, 1108, 1109, 1110, 1111, 1112, 1113, 1114, 1115, 1116, 1117] [] [] s r.1 := by
  unfold fn_X12_command at h
  obtain ⟨v2, e3, h⟩ := uu_ob h
  by_cases c4 : v2 = true
  · replace h := uu_pos c4 h
    obtain ⟨r5, e6, h⟩ := uu_ob h
    refine (hR_X12_choice  _ _ e6).tr ?_
    have hr := Option.some.inj h
    subst hr
    exact agf.rf
  · replace h := uu_neg c4 h
    obtain ⟨v8, e9, h⟩ := uu_ob h
    by_cases c10 : v8 = true
    · replace h := uu_pos c10 h
      exact zb_X12_command_163 hR_X12_choice h
    · replace h := uu_neg c10 h
      obtain ⟨v12, e13, h⟩ := uu_ob h
      by_cases c14 : v12 = true
      · replace h := uu_pos c14 h
        exact zb_X12_command_163 hR_X12_choice h
      · replace h := uu_neg c14 h
        obtain ⟨v16, e17, h⟩ := uu_ob h
        by_cases c18 : v16 = true
        · replace h := uu_pos c18 h
          exact zb_X12_command_163 hR_X12_choice h
        · replace h := uu_neg c18 h
          obtain ⟨v20, e21, h⟩ := uu_ob h
          by_cases c22 : v20 = true
          · replace h := uu_pos c22 h
            exact zb_X12_command_163 hR_X12_choice h
          · replace h := uu_neg c22 h
            obtain ⟨v24, e25, h⟩ := uu_ob h
            by_cases c26 : v24 = true
            · replace h := uu_pos c26 h
              exact zb_X12_command_163 hR_X12_choice h
            · replace h := uu_neg c26 h
              obtain ⟨v28, e29, h⟩ := uu_ob h
              by_cases c30 : v28 = true
              · replace h := uu_pos c30 h
                exact zb_X12_command_163 hR_X12_choice h
              · replace h := uu_neg c30 h
                obtain ⟨v32, e33, h⟩ := uu_ob h
                by_cases c34 : v32 = true
                · replace h := uu_pos c34 h
                  exact zb_X12_command_163 hR_X12_choice h
                · replace h := uu_neg c34 h
                  obtain ⟨v36, e37, h⟩ := uu_ob h
                  by_cases c38 : v36 = true
                  · replace h := uu_pos c38 h
                    exact zb_X12_command_163 hR_X12_choice h
                  · replace h := uu_neg c38 h
                    obtain ⟨v40, e41, h⟩ := uu_ob h
                    by_cases c42 : v40 = true
                    · replace h := uu_pos c42 h
                      exact zb_X12_command_163 hR_X12_choice h
                    · replace h := uu_neg c42 h
                      obtain ⟨v44, e45, h⟩ := uu_ob h
                      by_cases c46 : v44 = true
                      · replace h := uu_pos c46 h
                        exact zb_X12_command_163 hR_X12_choice h
                      · replace h := uu_neg c46 h
                        exact zb_X12_command_163 hR_X12_choice h
set_option maxRecDepth 100000 in
set_option maxHeartbeats 4000000 in
theorem zb_X12_choice_76 {R_X12_test : uS → Option (uS × Int32)} {R_X12_block : uS → Option (uS × Int32)}  (hR_X12_test : ∀  (s : uS) (r : (uS × Int32)), R_X12_test  s = some r → agf [(1079, 21), (1079, 30), (1079, 31), (1079, 32), (1079, 33), (1079, 34), (1079, 35), (1079, 37), (1079, 38), (1079, 39), (1079, 40), (1079, 41), (1079, 42), (1079, 61), (1079, 65), (1079, 66)] [1093, 1097, 1098, 1099, 1100, 1101, 1102, 1103, 1104, 1105, 1106, 1107, 1108, 1109, 1110, 1111, 1112, 1113, 1114, 1115, 1116, 1117] [] [] s r.1) (hR_X12_block : ∀  (s : uS) (r : (uS × Int32)), R_X12_block  s = some r → agf [(1079, 21), (1079, 30), (1079, 31), (1079, 32), (1079, 33), (1079, 34), (1079, 35), (1079, 37), (1079, 38), (1079, 39), (1079, 40), (1079, 41), (1079, 42), (1079, 61), (1079, 65), (1079, 66)] [1093, 1097, 1098, 1099, 1100, 1101, 1102, 1103, 1104, 1105, 1106, 1107, 1108, 1109, 1110, 1111, 1112, 1113, 1114, 1115, 1116, 1117] [] [] s r.1)  {x1 : Int32} {s : uS} {r : (uS × Int32)}  (h : fb_X12_choice_76 R_X12_test R_X12_block  x1 s = some r) : agf [(1079, 21), (1079, 30), (1079, 31), (1079, 32), (1079, 33), (1079, 34), (1079, 35), (1079, 37), (1079, 38), (1079, 39), (1079, 40), (1079, 41), (1079, 42), (1079, 61), (1079, 65), (1079, 66)] [1093, 1097, 1098, 1099, 1100, 1101, 1102, 1103, 1104, 1105, 1106, 1107, 1108, 1109, 1110, 1111, 1112, 1113, 1114, 1115, 1116, 1117] [] [] s r.1 := by
  unfold fb_X12_choice_76 at h
  obtain ⟨v2, e3, h⟩ := uu_ob h
  by_cases c4 : v2 = true
  · replace h := uu_pos c4 h
    obtain ⟨s5, e6, h⟩ := uu_ob h
    refine ((zc_X12_next  e6).mo (by decide) (by decide) (by decide) (fun _ h => nomatch h)).tr ?_
    obtain ⟨r7, e8, h⟩ := uu_ob h
    refine (hR_X12_block  _ _ e8).tr ?_
    obtain ⟨r9, e10, h⟩ := uu_ob h
    refine ((zc_X12_node  e10).mo (by decide) (by decide) (by decide) (fun _ h => nomatch h)).tr ?_
    obtain ⟨s11, e12, h⟩ := uu_ob h
    refine (agf_iput e12 (Or.inl (by decide))).tr ?_
    obtain ⟨s13, e14, h⟩ := uu_ob h
    refine (agf_iput e14 (Or.inl (by decide))).tr ?_
    obtain ⟨s15, e16, h⟩ := uu_ob h
    refine ((zc_X12_put  e16).mo (by decide) (by decide) (by decide) (fun _ h => nomatch h)).tr ?_
    have hr := Option.some.inj h
    subst hr
    exact agf.rf
  · replace h := uu_neg c4 h
    have hr := Option.some.inj h
    subst hr
    exact agf.rf
set_option maxRecDepth 100000 in
set_option maxHeartbeats 4000000 in
theorem zb_X12_choice_8 {R_X12_test : uS → Option (uS × Int32)} {R_X12_block : uS → Option (uS × Int32)} {K8 : Int32 → Bool → uS → Option (uS × Int32)} (hR_X12_test : ∀  (s : uS) (r : (uS × Int32)), R_X12_test  s = some r → agf [(1079, 21), (1079, 30), (1079, 31), (1079, 32), (1079, 33), (1079, 34), (1079, 35), (1079, 37), (1079, 38), (1079, 39), (1079, 40), (1079, 41), (1079, 42), (1079, 61), (1079, 65), (1079, 66)] [1093, 1097, 1098, 1099, 1100, 1101, 1102, 1103, 1104, 1105, 1106, 1107, 1108, 1109, 1110, 1111, 1112, 1113, 1114, 1115, 1116, 1117] [] [] s r.1) (hR_X12_block : ∀  (s : uS) (r : (uS × Int32)), R_X12_block  s = some r → agf [(1079, 21), (1079, 30), (1079, 31), (1079, 32), (1079, 33), (1079, 34), (1079, 35), (1079, 37), (1079, 38), (1079, 39), (1079, 40), (1079, 41), (1079, 42), (1079, 61), (1079, 65), (1079, 66)] [1093, 1097, 1098, 1099, 1100, 1101, 1102, 1103, 1104, 1105, 1106, 1107, 1108, 1109, 1110, 1111, 1112, 1113, 1114, 1115, 1116, 1117] [] [] s r.1) (hK8 : ∀ (x1 : Int32) (b2 : Bool)  (s : uS) (r : (uS × Int32)), K8 x1 b2 s = some r → agf [(1079, 21), (1079, 30), (1079, 31), (1079, 32), (1079, 33), (1079, 34), (1079, 35), (1079, 37), (1079, 38), (1079, 39), (1079, 40), (1079, 41), (1079, 42), (1079, 61), (1079, 65), (1079, 66)] [1093, 1097, 1098, 1099, 1100, 1101, 1102, 1103, 1104, 1105, 1106, 1107, 1108, 1109, 1110, 1111, 1112, 1113, 1114, 1115, 1116, 1117] [] [] s r.1) {x1 : Int32} {b2 : Bool} {s : uS} {r : (uS × Int32)}  (h : fb_X12_choice_8 R_X12_test R_X12_block K8 x1 b2 s = some r) : agf [(1079, 21), (1079, 30), (1079, 31), (1079, 32), (1079, 33), (1079, 34), (1079, 35), (1079, 37), (1079, 38), (1079, 39), (1079, 40), (1079, 41), (1079, 42), (1079, 61), (1079, 65), (1079, 66)] [1093, 1097, 1098, 1099, 1100, 1101, 1102, 1103, 1104, 1105, 1106, 1107, 1108, 1109, 1110, 1111, 1112, 1113, 1114, 1115, 1116, 1117] [] [] s r.1 := by
  unfold fb_X12_choice_8 at h
  by_cases c1 : b2 = true
  · replace h := uu_pos c1 h
    by_cases c2 : 0 ≤ (s.I 1079 40)
    · replace h := uu_pos c2 h
      exact zb_X12_choice_76 hR_X12_test hR_X12_block h
    · replace h := uu_neg c2 h
      obtain ⟨s3, e4, h⟩ := uu_ob h
      refine ((zc_X12_next  e4).mo (by decide) (by decide) (by decide) (fun _ h => nomatch h)).tr ?_
      obtain ⟨r5, e6, h⟩ := uu_ob h
      refine (hR_X12_test  _ _ e6).tr ?_
      obtain ⟨r7, e8, h⟩ := uu_ob h
      refine (hR_X12_block  _ _ e8).tr ?_
      obtain ⟨r9, e10, h⟩ := uu_ob h
      refine ((zc_X12_node  e10).mo (by decide) (by decide) (by decide) (fun _ h => nomatch h)).tr ?_
      obtain ⟨s11, e12, h⟩ := uu_ob h
      refine (agf_iput e12 (Or.inl (by decide))).tr ?_
      obtain ⟨s13, e14, h⟩ := uu_ob h
      refine (agf_iput e14 (Or.inl (by decide))).tr ?_
      obtain ⟨s15, e16, h⟩ := uu_ob h
      refine ((zc_X12_put  e16).mo (by decide) (by decide) (by decide) (fun _ h => nomatch h)).tr ?_
      obtain ⟨v18, e19, h⟩ := uu_ob h
      exact hK8 x1 v18 _ _ h
  · replace h := uu_neg c1 h
    exact zb_X12_choice_76 hR_X12_test hR_X12_block h
set_option maxRecDepth 100000 in
set_option maxHeartbeats 4000000 in
theorem zn_X12_choice_8 {R_X12_test : uS → Option (uS × Int32)} {R_X12_block : uS → Option (uS × Int32)}  (hR_X12_test : ∀  (s : uS) (r : (uS × Int32)), R_X12_test  s = some r → agf [(1079, 21), (1079, 30), (1079, 31), (1079, 32), (1079, 33), (1079, 34), (1079, 35), (1079, 37), (1079, 38), (1079, 39), (1079, 40), (1079, 41), (1079, 42), (1079, 61), (1079, 65), (1079, 66)] [1093, 1097, 1098, 1099, 1100, 1101, 1102, 1103, 1104, 1105, 1106, 1107, 1108, 1109, 1110, 1111, 1112, 1113, 1114, 1115, 1116, 1117] [] [] s r.1) (hR_X12_block : ∀  (s : uS) (r : (uS × Int32)), R_X12_block  s = some r → agf [(1079, 21), (1079, 30), (1079, 31), (1079, 32), (1079, 33), (1079, 34), (1079, 35), (1079, 37), (1079, 38), (1079, 39), (1079, 40), (1079, 41), (1079, 42), (1079, 61), (1079, 65), (1079, 66)] [1093, 1097, 1098, 1099, 1100, 1101, 1102, 1103, 1104, 1105, 1106, 1107, 1108, 1109, 1110, 1111, 1112, 1113, 1114, 1115, 1116, 1117] [] [] s r.1)  : ∀ (n : Nat) (x1 : Int32) (b2 : Bool)  (s : uS) (r : (uS × Int32)), fn_X12_choice_8 R_X12_test R_X12_block  n x1 b2 s = some r → agf [(1079, 21), (1079, 30), (1079, 31), (1079, 32), (1079, 33), (1079, 34), (1079, 35), (1079, 37), (1079, 38), (1079, 39), (1079, 40), (1079, 41), (1079, 42), (1079, 61), (1079, 65), (1079, 66)] [1093, 1097, 1098, 1099, 1100, 1101, 1102, 1103, 1104, 1105, 1106, 1107, 1108, 1109, 1110, 1111, 1112, 1113, 1114, 1115, 1116, 1117] [] [] s r.1 := by
  intro n
  induction n with
  | zero => intro x1 b2  s r h
            cases h
  | succ n ih => intro x1 b2  s r h
                 exact zb_X12_choice_8 hR_X12_test hR_X12_block ih  h
set_option maxRecDepth 100000 in
set_option maxHeartbeats 4000000 in
theorem zc_X12_choice {R_X12_test : uS → Option (uS × Int32)} {R_X12_block : uS → Option (uS × Int32)} (hR_X12_test : ∀  (s : uS) (r : (uS × Int32)), R_X12_test  s = some r → agf [(1079, 21), (1079, 30), (1079, 31), (1079, 32), (1079, 33), (1079, 34), (1079, 35), (1079, 37), (1079, 38), (1079, 39), (1079, 40), (1079, 41), (1079, 42), (1079, 61), (1079, 65), (1079, 66)] [1093, 1097, 1098, 1099, 1100, 1101, 1102, 1103, 1104, 1105, 1106, 1107, 1108, 1109, 1110, 1111, 1112, 1113, 1114, 1115, 1116, 1117] [] [] s r.1) (hR_X12_block : ∀  (s : uS) (r : (uS × Int32)), R_X12_block  s = some r → agf [(1079, 21), (1079, 30), (1079, 31), (1079, 32), (1079, 33), (1079, 34), (1079, 35), (1079, 37), (1079, 38), (1079, 39), (1079, 40), (1079, 41), (1079, 42), (1079, 61), (1079, 65), (1079, 66)] [1093, 1097, 1098, 1099, 1100, 1101, 1102, 1103, 1104, 1105, 1106, 1107, 1108, 1109, 1110, 1111, 1112, 1113, 1114, 1115, 1116, 1117] [] [] s r.1)  {s : uS} {r : (uS × Int32)}  (h : fn_X12_choice R_X12_test R_X12_block  s = some r) : agf [(1079, 21), (1079, 30), (1079, 31), (1079, 32), (1079, 33), (1079, 34), (1079, 35), (1079, 37), (1079, 38), (1079, 39), (1079, 40), (1079, 41), (1079, 42), (1079, 61), (1079, 65), (1079, 66)] [1093, 1097, 1098, 1099, 1100, 1101, 1102, 1103, 1104, 1105, 1106, 1107, 1108, 1109, 1110, 1111, 1112, 1113, 1114, 1115, 1116, 1117] [] [] s r.1 := by
  unfold fn_X12_choice at h
  obtain ⟨r1, e2, h⟩ := uu_ob h
  refine ((zc_X12_counting  e2).mo (by decide) (by decide) (by decide) (fun _ h => nomatch h)).tr ?_
  exact zn_X12_choice_8 hR_X12_test hR_X12_block _ _ _ _ _ h
set_option maxRecDepth 100000 in
set_option maxHeartbeats 4000000 in
theorem zg_0 : ∀ n : Nat, (∀  (s : uS) (r : (uS × Int32)), (fg_0 n).1  s = some r → agf [(1079, 21), (1079, 30), (1079, 31), (1079, 32), (1079, 33), (1079, 34), (1079, 35), (1079, 37), (1079, 38), (1079, 39), (1079, 40), (1079, 41), (1079, 42), (1079, 61), (1079, 65), (1079, 66)] [1093, 1097, 1098, 1099, 1100, 1101, 1102, 1103, 1104, 1105, 1106, 1107, 1108, 1109, 1110, 1111, 1112, 1113, 1114, 1115, 1116, 1117] [] [] s r.1) ∧ (∀ (x1 : Int32) (s : uS) (r : uS), (fg_0 n).2.1 x1 s = some r → agf [(1079, 21), (1079, 30), (1079, 31), (1079, 32), (1079, 33), (1079, 34), (1079, 35), (1079, 37), (1079, 38), (1079, 39), (1079, 40), (1079, 41), (1079, 42), (1079, 61), (1079, 65), (1079, 66)] [1093, 1097, 1098, 1099, 1100, 1101, 1102, 1103, 1104, 1105, 1106, 1107, 1108, 1109, 1110, 1111, 1112, 1113, 1114, 1115, 1116, 1117] [] [] s r) ∧ (∀ (x1 : Int32) (s : uS) (r : uS), (fg_0 n).2.2.1 x1 s = some r → agf [(1079, 21), (1079, 30), (1079, 31), (1079, 32), (1079, 33), (1079, 34), (1079, 35), (1079, 37), (1079, 38), (1079, 39), (1079, 40), (1079, 41), (1079, 42), (1079, 61), (1079, 65), (1079, 66)] [1093, 1097, 1098, 1099, 1100, 1101, 1102, 1103, 1104, 1105, 1106, 1107, 1108, 1109, 1110, 1111, 1112, 1113, 1114, 1115, 1116, 1117] [] [] s r) ∧ (∀  (s : uS) (r : (uS × Int32)), (fg_0 n).2.2.2.1  s = some r → agf [(1079, 21), (1079, 30), (1079, 31), (1079, 32), (1079, 33), (1079, 34), (1079, 35), (1079, 37), (1079, 38), (1079, 39), (1079, 40), (1079, 41), (1079, 42), (1079, 61), (1079, 65), (1079, 66)] [1093, 1097, 1098, 1099, 1100, 1101, 1102, 1103, 1104, 1105, 1106, 1107, 1108, 1109, 1110, 1111, 1112, 1113, 1114, 1115, 1116, 1117] [] [] s r.1) ∧ (∀  (s : uS) (r : (uS × Int32)), (fg_0 n).2.2.2.2.1  s = some r → agf [(1079, 21), (1079, 30), (1079, 31), (1079, 32), (1079, 33), (1079, 34), (1079, 35), (1079, 37), (1079, 38), (1079, 39), (1079, 40), (1079, 41), (1079, 42), (1079, 61), (1079, 65), (1079, 66)] [1093, 1097, 1098, 1099, 1100, 1101, 1102, 1103, 1104, 1105, 1106, 1107, 1108, 1109, 1110, 1111, 1112, 1113, 1114, 1115, 1116, 1117] [] [] s r.1) ∧ (∀  (s : uS) (r : (uS × Int32)), (fg_0 n).2.2.2.2.2  s = some r → agf [(1079, 21), (1079, 30), (1079, 31), (1079, 32), (1079, 33), (1079, 34), (1079, 35), (1079, 37), (1079, 38), (1079, 39), (1079, 40), (1079, 41), (1079, 42), (1079, 61), (1079, 65), (1079, 66)] [1093, 1097, 1098, 1099, 1100, 1101, 1102, 1103, 1104, 1105, 1106, 1107, 1108, 1109, 1110, 1111, 1112, 1113, 1114, 1115, 1116, 1117] [] [] s r.1) := by
  intro n
  induction n with
  | zero => exact ⟨fun s r h => (by cases h), fun x1 s r h => (by cases h), fun x1 s r h => (by cases h), fun s r h => (by cases h), fun s r h => (by cases h), fun s r h => (by cases h)⟩
  | succ n ih => exact ⟨fun s r h => zc_X12_test ih.2.1 ih.1 h, fun x1 s r h => zc_X12_several ih.1 h, fun x1 s r h => zc_X12_commands ih.2.2.2.2.1 h, fun s r h => zc_X12_block ih.2.2.1 h, fun s r h => zc_X12_command ih.2.2.2.2.2 h, fun s r h => zc_X12_choice ih.1 ih.2.2.2.1 h⟩
set_option maxRecDepth 100000 in
set_option maxHeartbeats 4000000 in
theorem zb_X12_read_49  {K49 : uS → Option (uS × Int32)}  (hK49 : ∀   (s : uS) (r : (uS × Int32)), K49  s = some r → agf [(1079, 21), (1079, 30), (1079, 31), (1079, 32), (1079, 33), (1079, 34), (1079, 35), (1079, 37), (1079, 38), (1079, 39), (1079, 40), (1079, 41), (1079, 42), (1079, 61), (1079, 64), (1079, 65), (1079, 66), (1079, 67)] [1093, 1097, 1098, 1099, 1100, 1101, 1102, 1103, 1104, 1105, 1106, 1107, 1108, 1109, 1110, 1111, 1112, 1113, 1114, 1115, 1116, 1117] [] [] s r.1)  {s : uS} {r : (uS × Int32)}  (h : fb_X12_read_49  K49  s = some r) : agf [(1079, 21), (1079, 30), (1079, 31), (1079, 32), (1079, 33), (1079, 34), (1079, 35), (1079, 37), (1079, 38), (1079, 39), (1079, 40), (1079, 41), (1079, 42), (1079, 61), (1079, 64), (1079, 65), (1079, 66), (1079, 67)] [1093, 1097, 1098, 1099, 1100, 1101, 1102, 1103, 1104, 1105, 1106, 1107, 1108, 1109, 1110, 1111, 1112, 1113, 1114, 1115, 1116, 1117] [] [] s r.1 := by
  unfold fb_X12_read_49 at h
  obtain ⟨v2, e3, h⟩ := uu_ob h
  by_cases c4 : v2 = true
  · replace h := uu_pos c4 h
    obtain ⟨s5, e6, h⟩ := uu_ob h
    refine ((zc_X12_next  e6).mo (by decide) (by decide) (by decide) (fun _ h => nomatch h)).tr ?_
    obtain ⟨s7, e8, h⟩ := uu_ob h
    refine ((zc_X12_requires  e8).mo (by decide) (by decide) (by decide) (fun _ h => nomatch h)).tr ?_
    obtain ⟨s9, e10, h⟩ := uu_ob h
    refine ((zc_X12_take  e10).mo (by decide) (by decide) (by decide) (fun _ h => nomatch h)).tr ?_
    exact hK49  _ _ h
  · replace h := uu_neg c4 h
    obtain ⟨r11, e12, h⟩ := uu_ob h
    refine ((zc_X12_node  e12).mo (by decide) (by decide) (by decide) (fun _ h => nomatch h)).tr ?_
    refine (agf_wI (a := 1079) (f := 67) (v := r11.2) (Or.inl (by decide))).tr ?_
    obtain ⟨s13, e14, h⟩ := uu_ob h
    refine (((zg_0 100).2.2.1 _ _ _ e14).mo (by decide) (by decide) (by decide) (fun _ h => nomatch h)).tr ?_
    by_cases c15 : 0 ≤ (s13.I 1079 40)
    · replace h := uu_pos c15 h
      have hr := Option.some.inj h
      subst hr
      exact agf.rf
    · replace h := uu_neg c15 h
      by_cases c16 : (s13.I 1079 31) = 0
      · replace h := uu_pos c16 h
        have hr := Option.some.inj h
        subst hr
        exact agf.rf
      · replace h := uu_neg c16 h
        obtain ⟨s17, e18, h⟩ := uu_ob h
        refine ((zc_X12_fail  e18).mo (by decide) (by decide) (by decide) (fun _ h => nomatch h)).tr ?_
        have hr := Option.some.inj h
        subst hr
        exact agf.rf
set_option maxRecDepth 100000 in
set_option maxHeartbeats 4000000 in
theorem zn_X12_read_49     : ∀ (n : Nat)   (s : uS) (r : (uS × Int32)), fn_X12_read_49   n  s = some r → agf [(1079, 21), (1079, 30), (1079, 31), (1079, 32), (1079, 33), (1079, 34), (1079, 35), (1079, 37), (1079, 38), (1079, 39), (1079, 40), (1079, 41), (1079, 42), (1079, 61), (1079, 64), (1079, 65), (1079, 66), (1079, 67)] [1093, 1097, 1098, 1099, 1100, 1101, 1102, 1103, 1104, 1105, 1106, 1107, 1108, 1109, 1110, 1111, 1112, 1113, 1114, 1115, 1116, 1117] [] [] s r.1 := by
  intro n
  induction n with
  | zero => intro   s r h
            cases h
  | succ n ih => intro   s r h
                 exact zb_X12_read_49  ih  h
set_option maxRecDepth 100000 in
set_option maxHeartbeats 4000000 in
theorem zc_X12_read    {s : uS} {r : (uS × Int32)}  (h : fn_X12_read   s = some r) : agf [(1079, 21), (1079, 30), (1079, 31), (1079, 32), (1079, 33), (1079, 34), (1079, 35), (1079, 37), (1079, 38), (1079, 39), (1079, 40), (1079, 41), (1079, 42), (1079, 61), (1079, 64), (1079, 65), (1079, 66), (1079, 67)] [1093, 1097, 1098, 1099, 1100, 1101, 1102, 1103, 1104, 1105, 1106, 1107, 1108, 1109, 1110, 1111, 1112, 1113, 1114, 1115, 1116, 1117] [] [] s r.1 := by
  unfold fn_X12_read at h
  refine (agf_wI (a := 1079) (f := 40) (v := -1) (Or.inl (by decide))).tr ?_
  refine (agf_wI (a := 1079) (f := 30) (v := 0) (Or.inl (by decide))).tr ?_
  refine (agf_wI (a := 1079) (f := 37) (v := 0) (Or.inl (by decide))).tr ?_
  refine (agf_wI (a := 1079) (f := 41) (v := 0) (Or.inl (by decide))).tr ?_
  refine (agf_wI (a := 1079) (f := 42) (v := 0) (Or.inl (by decide))).tr ?_
  refine (agf_wI (a := 1079) (f := 61) (v := 0) (Or.inl (by decide))).tr ?_
  refine (agf_wI (a := 1079) (f := 64) (v := 0) (Or.inl (by decide))).tr ?_
  refine (agf_wI (a := 1079) (f := 65) (v := 0) (Or.inl (by decide))).tr ?_
  refine (agf_wI (a := 1079) (f := 66) (v := 0) (Or.inl (by decide))).tr ?_
  obtain ⟨s1, e2, h⟩ := uu_ob h
  refine ((zc_X12_next  e2).mo (by decide) (by decide) (by decide) (fun _ h => nomatch h)).tr ?_
  exact zn_X12_read_49  _ _ _ h
set_option maxRecDepth 100000 in
set_option maxHeartbeats 4000000 in
theorem zb_X12_holds_181 {R_X12_holds : Int32 → uS → Option (uS × Bool)} {K181 : Bool → Int32 → uS → Option (uS × Bool)} (hR_X12_holds : ∀ (x1 : Int32) (s : uS) (r : (uS × Bool)), R_X12_holds x1 s = some r → agf [(1079, 21), (1079, 23), (1079, 24), (1079, 25), (1079, 27), (1079, 109), (1079, 110)] [1093, 1094, 1095, 1141, 1142] [] [1141] s r.1) (hK181 : ∀ (b2 : Bool) (x3 : Int32)  (s : uS) (r : (uS × Bool)), K181 b2 x3 s = some r → agf [(1079, 21), (1079, 23), (1079, 24), (1079, 25), (1079, 27), (1079, 109), (1079, 110)] [1093, 1094, 1095, 1141, 1142] [] [1141] s r.1) {b2 : Bool} {x3 : Int32} {s : uS} {r : (uS × Bool)}  (h : fb_X12_holds_181 R_X12_holds K181 b2 x3 s = some r) : agf [(1079, 21), (1079, 23), (1079, 24), (1079, 25), (1079, 27), (1079, 109), (1079, 110)] [1093, 1094, 1095, 1141, 1142] [] [1141] s r.1 := by
  unfold fb_X12_holds_181 at h
  by_cases c1 : x3 < 0
  · replace h := uu_pos c1 h
    have hr := Option.some.inj h
    subst hr
    exact agf.rf
  · replace h := uu_neg c1 h
    obtain ⟨r2, e3, h⟩ := uu_ob h
    refine (hR_X12_holds _ _ _ e3).tr ?_
    by_cases c4 : (bI r2.2) = (bI b2)
    · replace h := uu_pos c4 h
      obtain ⟨v5, e6, h⟩ := uu_ob h
      exact hK181 b2 v5 _ _ h
    · replace h := uu_neg c4 h
      by_cases c7 : b2 = true
      · replace h := uu_pos c7 h
        have hr := Option.some.inj h
        subst hr
        exact agf.rf
      · replace h := uu_neg c7 h
        have hr := Option.some.inj h
        subst hr
        exact agf.rf
set_option maxRecDepth 100000 in
set_option maxHeartbeats 4000000 in
theorem zn_X12_holds_181 {R_X12_holds : Int32 → uS → Option (uS × Bool)}  (hR_X12_holds : ∀ (x1 : Int32) (s : uS) (r : (uS × Bool)), R_X12_holds x1 s = some r → agf [(1079, 21), (1079, 23), (1079, 24), (1079, 25), (1079, 27), (1079, 109), (1079, 110)] [1093, 1094, 1095, 1141, 1142] [] [1141] s r.1)  : ∀ (n : Nat) (b2 : Bool) (x3 : Int32)  (s : uS) (r : (uS × Bool)), fn_X12_holds_181 R_X12_holds  n b2 x3 s = some r → agf [(1079, 21), (1079, 23), (1079, 24), (1079, 25), (1079, 27), (1079, 109), (1079, 110)] [1093, 1094, 1095, 1141, 1142] [] [1141] s r.1 := by
  intro n
  induction n with
  | zero => intro b2 x3  s r h
            cases h
  | succ n ih => intro b2 x3  s r h
                 exact zb_X12_holds_181 hR_X12_holds ih  h
set_option maxRecDepth 100000 in
set_option maxHeartbeats 4000000 in
theorem zc_X12_holds {R_X12_holds : Int32 → uS → Option (uS × Bool)} (hR_X12_holds : ∀ (x1 : Int32) (s : uS) (r : (uS × Bool)), R_X12_holds x1 s = some r → agf [(1079, 21), (1079, 23), (1079, 24), (1079, 25), (1079, 27), (1079, 109), (1079, 110)] [1093, 1094, 1095, 1141, 1142] [] [1141] s r.1) {x1 : Int32} {s : uS} {r : (uS × Bool)}  (h : fn_X12_holds R_X12_holds x1 s = some r) : agf [(1079, 21), (1079, 23), (1079, 24), (1079, 25), (1079, 27), (1079, 109), (1079, 110)] [1093, 1094, 1095, 1141, 1142] [] [1141] s r.1 := by
  unfold fn_X12_holds at h
  refine (agf_wI (a := 1079) (f := 109) (v := 0) (Or.inl (by decide))).tr ?_
  refine (agf_wI (a := 1079) (f := 110) (v := 0) (Or.inl (by decide))).tr ?_
  obtain ⟨v1, e2, h⟩ := uu_ob h
  by_cases c16_0 : v1 = 20
  · replace h := uu_pos c16_0 h
    obtain ⟨s3, e4, h⟩ := uu_ob h
    refine ((zc_X12_headers  e4).mo (by decide) (by decide) (by decide) (List.forall_mem_cons.mpr ⟨(Or.inr (List.mem_of_getElem? (i := 0) rfl)), fun _ h => nomatch h⟩)).tr ?_
    obtain ⟨r5, e6, h⟩ := uu_ob h
    refine ((zc_X12_tested  e6).mo (by decide) (by decide) (by decide) (fun _ h => nomatch h)).tr ?_
    have hr := Option.some.inj h
    subst hr
    exact agf.rf
  replace h := uu_neg c16_0 h
  by_cases c16_1 : v1 = 21
  · replace h := uu_pos c16_1 h
    obtain ⟨s7, e8, h⟩ := uu_ob h
    refine ((zc_X12_headers  e8).mo (by decide) (by decide) (by decide) (List.forall_mem_cons.mpr ⟨(Or.inr (List.mem_of_getElem? (i := 0) rfl)), fun _ h => nomatch h⟩)).tr ?_
    obtain ⟨r9, e10, h⟩ := uu_ob h
    refine ((zc_X12_tested  e10).mo (by decide) (by decide) (by decide) (fun _ h => nomatch h)).tr ?_
    have hr := Option.some.inj h
    subst hr
    exact agf.rf
  replace h := uu_neg c16_1 h
  by_cases c16_2 : v1 = 22
  · replace h := uu_pos c16_2 h
    obtain ⟨s11, e12, h⟩ := uu_ob h
    refine ((zc_X12_envelope  e12).mo (by decide) (by decide) (by decide) (List.forall_mem_cons.mpr ⟨(Or.inr (List.mem_of_getElem? (i := 0) rfl)), fun _ h => nomatch h⟩)).tr ?_
    obtain ⟨r13, e14, h⟩ := uu_ob h
    refine ((zc_X12_tested  e14).mo (by decide) (by decide) (by decide) (fun _ h => nomatch h)).tr ?_
    have hr := Option.some.inj h
    subst hr
    exact agf.rf
  replace h := uu_neg c16_2 h
  by_cases c16_3 : v1 = 23
  · replace h := uu_pos c16_3 h
    obtain ⟨s15, e16, h⟩ := uu_ob h
    refine ((zc_X12_flagsSet  e16).mo (by decide) (by decide) (by decide) (List.forall_mem_cons.mpr ⟨(Or.inr (List.mem_of_getElem? (i := 0) rfl)), fun _ h => nomatch h⟩)).tr ?_
    obtain ⟨r17, e18, h⟩ := uu_ob h
    refine ((zc_X12_tested  e18).mo (by decide) (by decide) (by decide) (fun _ h => nomatch h)).tr ?_
    have hr := Option.some.inj h
    subst hr
    exact agf.rf
  replace h := uu_neg c16_3 h
  by_cases c16_4 : v1 = 24
  · replace h := uu_pos c16_4 h
    obtain ⟨v19, e20, h⟩ := uu_ob h
    have hr := Option.some.inj h
    subst hr
    exact agf.rf
  replace h := uu_neg c16_4 h
  by_cases c16_5 : v1 = 25
  · replace h := uu_pos c16_5 h
    obtain ⟨v21, e22, h⟩ := uu_ob h
    by_cases c23 : v21 = 1
    · replace h := uu_pos c23 h
      obtain ⟨v24, e25, h⟩ := uu_ob h
      by_cases c26 : ((wI (wI s 1079 109 0) 1079 110 0).I 1079 13) ≤ v24
      · replace h := uu_pos c26 h
        have hr := Option.some.inj h
        subst hr
        exact agf.rf
      · replace h := uu_neg c26 h
        have hr := Option.some.inj h
        subst hr
        exact agf.rf
    · replace h := uu_neg c23 h
      obtain ⟨v27, e28, h⟩ := uu_ob h
      by_cases c29 : v27 ≤ ((wI (wI s 1079 109 0) 1079 110 0).I 1079 13)
      · replace h := uu_pos c29 h
        have hr := Option.some.inj h
        subst hr
        exact agf.rf
      · replace h := uu_neg c29 h
        have hr := Option.some.inj h
        subst hr
        exact agf.rf
  replace h := uu_neg c16_5 h
  by_cases c16_6 : v1 = 26
  · replace h := uu_pos c16_6 h
    obtain ⟨v30, e31, h⟩ := uu_ob h
    by_cases c32 : v30 = 26
    · replace h := uu_pos c32 h
      obtain ⟨v33, e34, h⟩ := uu_ob h
      exact zn_X12_holds_181 hR_X12_holds _ _ _ _ _ h
    · replace h := uu_neg c32 h
      obtain ⟨v35, e36, h⟩ := uu_ob h
      exact zn_X12_holds_181 hR_X12_holds _ _ _ _ _ h
  replace h := uu_neg c16_6 h
  by_cases c16_7 : v1 = 27
  · replace h := uu_pos c16_7 h
    obtain ⟨v37, e38, h⟩ := uu_ob h
    by_cases c39 : v37 = 26
    · replace h := uu_pos c39 h
      obtain ⟨v40, e41, h⟩ := uu_ob h
      exact zn_X12_holds_181 hR_X12_holds _ _ _ _ _ h
    · replace h := uu_neg c39 h
      obtain ⟨v42, e43, h⟩ := uu_ob h
      exact zn_X12_holds_181 hR_X12_holds _ _ _ _ _ h
  replace h := uu_neg c16_7 h
  by_cases c16_8 : v1 = 28
  · replace h := uu_pos c16_8 h
    obtain ⟨v44, e45, h⟩ := uu_ob h
    obtain ⟨r46, e47, h⟩ := uu_ob h
    refine (hR_X12_holds _ _ _ e47).tr ?_
    by_cases c48 : r46.2 = true
    · replace h := uu_pos c48 h
      have hr := Option.some.inj h
      subst hr
      exact agf.rf
    · replace h := uu_neg c48 h
      have hr := Option.some.inj h
      subst hr
      exact agf.rf
  replace h := uu_neg c16_8 h
  obtain ⟨v49, e50, h⟩ := uu_ob h
  by_cases c51 : v49 = 29
  · replace h := uu_pos c51 h
    have hr := Option.some.inj h
    subst hr
    exact agf.rf
  · replace h := uu_neg c51 h
    have hr := Option.some.inj h
    subst hr
    exact agf.rf
set_option maxRecDepth 100000 in
set_option maxHeartbeats 4000000 in
theorem zg_1 : ∀ n : Nat, (∀ (x1 : Int32) (s : uS) (r : (uS × Bool)), (fg_1 n) x1 s = some r → agf [(1079, 21), (1079, 23), (1079, 24), (1079, 25), (1079, 27), (1079, 109), (1079, 110)] [1093, 1094, 1095, 1141, 1142] [] [1141] s r.1) := by
  intro n
  induction n with
  | zero => exact fun x1 s r h => (by cases h)
  | succ n ih => exact fun x1 s r h => zc_X12_holds ih h
set_option maxRecDepth 100000 in
set_option maxHeartbeats 4000000 in
theorem zb_X12_run_7 {R_X12_command1 : Int32 → uS → Option uS} {K7 : Int32 → uS → Option uS} (hR_X12_command1 : ∀ (x1 : Int32) (s : uS) (r : uS), R_X12_command1 x1 s = some r → agf [(1079, 21), (1079, 23), (1079, 24), (1079, 25), (1079, 27), (1079, 94), (1079, 95), (1079, 96), (1079, 97), (1079, 100), (1079, 102), (1079, 103), (1079, 104), (1079, 105), (1079, 106), (1079, 109), (1079, 110)] [1093, 1094, 1095, 1138, 1139, 1140, 1141, 1142] [] [1141] s r) (hK7 : ∀ (x2 : Int32)  (s : uS) (r : uS), K7 x2 s = some r → agf [(1079, 21), (1079, 23), (1079, 24), (1079, 25), (1079, 27), (1079, 94), (1079, 95), (1079, 96), (1079, 97), (1079, 100), (1079, 102), (1079, 103), (1079, 104), (1079, 105), (1079, 106), (1079, 109), (1079, 110)] [1093, 1094, 1095, 1138, 1139, 1140, 1141, 1142] [] [1141] s r) {x2 : Int32} {s : uS} {r : uS}  (h : fb_X12_run_7 R_X12_command1 K7 x2 s = some r) : agf [(1079, 21), (1079, 23), (1079, 24), (1079, 25), (1079, 27), (1079, 94), (1079, 95), (1079, 96), (1079, 97), (1079, 100), (1079, 102), (1079, 103), (1079, 104), (1079, 105), (1079, 106), (1079, 109), (1079, 110)] [1093, 1094, 1095, 1138, 1139, 1140, 1141, 1142] [] [1141] s r := by
  unfold fb_X12_run_7 at h
  by_cases c1 : x2 < 0
  · replace h := uu_pos c1 h
    have hr := Option.some.inj h
    subst hr
    exact agf.rf
  · replace h := uu_neg c1 h
    by_cases c2 : (s.I 1079 96) = 0
    · replace h := uu_pos c2 h
      obtain ⟨s3, e4, h⟩ := uu_ob h
      refine (hR_X12_command1 _ _ _ e4).tr ?_
      obtain ⟨v5, e6, h⟩ := uu_ob h
      exact hK7 v5 _ _ h
    · replace h := uu_neg c2 h
      have hr := Option.some.inj h
      subst hr
      exact agf.rf
set_option maxRecDepth 100000 in
set_option maxHeartbeats 4000000 in
theorem zn_X12_run_7 {R_X12_command1 : Int32 → uS → Option uS}  (hR_X12_command1 : ∀ (x1 : Int32) (s : uS) (r : uS), R_X12_command1 x1 s = some r → agf [(1079, 21), (1079, 23), (1079, 24), (1079, 25), (1079, 27), (1079, 94), (1079, 95), (1079, 96), (1079, 97), (1079, 100), (1079, 102), (1079, 103), (1079, 104), (1079, 105), (1079, 106), (1079, 109), (1079, 110)] [1093, 1094, 1095, 1138, 1139, 1140, 1141, 1142] [] [1141] s r)  : ∀ (n : Nat) (x2 : Int32)  (s : uS) (r : uS), fn_X12_run_7 R_X12_command1  n x2 s = some r → agf [(1079, 21), (1079, 23), (1079, 24), (1079, 25), (1079, 27), (1079, 94), (1079, 95), (1079, 96), (1079, 97), (1079, 100), (1079, 102), (1079, 103), (1079, 104), (1079, 105), (1079, 106), (1079, 109), (1079, 110)] [1093, 1094, 1095, 1138, 1139, 1140, 1141, 1142] [] [1141] s r := by
  intro n
  induction n with
  | zero => intro x2  s r h
            cases h
  | succ n ih => intro x2  s r h
                 exact zb_X12_run_7 hR_X12_command1 ih  h
set_option maxRecDepth 100000 in
set_option maxHeartbeats 4000000 in
theorem zc_X12_run {R_X12_command1 : Int32 → uS → Option uS} (hR_X12_command1 : ∀ (x1 : Int32) (s : uS) (r : uS), R_X12_command1 x1 s = some r → agf [(1079, 21), (1079, 23), (1079, 24), (1079, 25), (1079, 27), (1079, 94), (1079, 95), (1079, 96), (1079, 97), (1079, 100), (1079, 102), (1079, 103), (1079, 104), (1079, 105), (1079, 106), (1079, 109), (1079, 110)] [1093, 1094, 1095, 1138, 1139, 1140, 1141, 1142] [] [1141] s r) {x1 : Int32} {s : uS} {r : uS}  (h : fn_X12_run R_X12_command1 x1 s = some r) : agf [(1079, 21), (1079, 23), (1079, 24), (1079, 25), (1079, 27), (1079, 94), (1079, 95), (1079, 96), (1079, 97), (1079, 100), (1079, 102), (1079, 103), (1079, 104), (1079, 105), (1079, 106), (1079, 109), (1079, 110)] [1093, 1094, 1095, 1138, 1139, 1140, 1141, 1142] [] [1141] s r := by
  unfold fn_X12_run at h
  obtain ⟨v1, e2, h⟩ := uu_ob h
  exact zn_X12_run_7 hR_X12_command1 _ _ _ _ h
set_option maxRecDepth 100000 in
set_option maxHeartbeats 4000000 in
theorem zb_X12_command1_142 {R_X12_choose : Int32 → uS → Option uS}  (hR_X12_choose : ∀ (x1 : Int32) (s : uS) (r : uS), R_X12_choose x1 s = some r → agf [(1079, 21), (1079, 23), (1079, 24), (1079, 25), (1079, 27), (1079, 94), (1079, 95), (1079, 96), (1079, 97), (1079, 100), (1079, 102), (1079, 103), (1079, 104), (1079, 105), (1079, 106), (1079, 109), (1079, 110)] [1093, 1094, 1095, 1138, 1139, 1140, 1141, 1142] [] [1141] s r)  {x1 : Int32} {xs0 : Int32} {xs1 : Int32} {s : uS} {r : uS}  (h : fb_X12_command1_142 R_X12_choose  x1 xs0 xs1 s = some r) : agf [(1079, 21), (1079, 23), (1079, 24), (1079, 25), (1079, 27), (1079, 94), (1079, 95), (1079, 96), (1079, 97), (1079, 100), (1079, 102), (1079, 103), (1079, 104), (1079, 105), (1079, 106), (1079, 109), (1079, 110)] [1093, 1094, 1095, 1138, 1139, 1140, 1141, 1142] [] [1141] s r := by
  unfold fb_X12_command1_142 at h
  obtain ⟨s1, e2, h⟩ := uu_ob h
  refine ((zc_X12_file1  e2).mo (by decide) (by decide) (by decide) (fun _ h => nomatch h)).tr ?_
  by_cases c3 : (s1.I 1079 95) = 0
  · replace h := uu_pos c3 h
    refine (agf_wI (a := 1079) (f := 95) (v := 0) (Or.inl (by decide))).tr ?_
    refine (agf_wI (a := 1079) (f := 106) (v := 1) (Or.inl (by decide))).tr ?_
    have hr := Option.some.inj h
    subst hr
    exact agf.rf
  · replace h := uu_neg c3 h
    obtain ⟨v4, e5, h⟩ := uu_ob h
    by_cases c6 : v4 = 0
    · replace h := uu_pos c6 h
      refine (agf_wI (a := 1079) (f := 95) (v := 0) (Or.inl (by decide))).tr ?_
      refine (agf_wI (a := 1079) (f := 106) (v := 1) (Or.inl (by decide))).tr ?_
      have hr := Option.some.inj h
      subst hr
      exact agf.rf
    · replace h := uu_neg c6 h
      refine (agf_wI (a := 1079) (f := 95) (v := 1) (Or.inl (by decide))).tr ?_
      refine (agf_wI (a := 1079) (f := 106) (v := 1) (Or.inl (by decide))).tr ?_
      have hr := Option.some.inj h
      subst hr
      exact agf.rf
set_option maxRecDepth 100000 in
set_option maxHeartbeats 4000000 in
theorem zb_X12_command1_106 {R_X12_choose : Int32 → uS → Option uS}  (hR_X12_choose : ∀ (x1 : Int32) (s : uS) (r : uS), R_X12_choose x1 s = some r → agf [(1079, 21), (1079, 23), (1079, 24), (1079, 25), (1079, 27), (1079, 94), (1079, 95), (1079, 96), (1079, 97), (1079, 100), (1079, 102), (1079, 103), (1079, 104), (1079, 105), (1079, 106), (1079, 109), (1079, 110)] [1093, 1094, 1095, 1138, 1139, 1140, 1141, 1142] [] [1141] s r)  {x1 : Int32} {xs0 : Int32} {s : uS} {r : uS}  (h : fb_X12_command1_106 R_X12_choose  x1 xs0 s = some r) : agf [(1079, 21), (1079, 23), (1079, 24), (1079, 25), (1079, 27), (1079, 94), (1079, 95), (1079, 96), (1079, 97), (1079, 100), (1079, 102), (1079, 103), (1079, 104), (1079, 105), (1079, 106), (1079, 109), (1079, 110)] [1093, 1094, 1095, 1138, 1139, 1140, 1141, 1142] [] [1141] s r := by
  unfold fb_X12_command1_106 at h
  obtain ⟨v1, e2, h⟩ := uu_ob h
  by_cases c3 : v1 = (-1)
  · replace h := uu_pos c3 h
    exact zb_X12_command1_142 hR_X12_choose h
  · replace h := uu_neg c3 h
    obtain ⟨v4, e5, h⟩ := uu_ob h
    obtain ⟨v6, e7, h⟩ := uu_ob h
    obtain ⟨r8, e9, h⟩ := uu_ob h
    refine ((zc_X12_flagsOf  e9).mo (by decide) (by decide) (by decide) (fun _ h => nomatch h)).tr ?_
    exact zb_X12_command1_142 hR_X12_choose h
set_option maxRecDepth 100000 in
set_option maxHeartbeats 4000000 in
theorem zc_X12_command1 {R_X12_choose : Int32 → uS → Option uS} (hR_X12_choose : ∀ (x1 : Int32) (s : uS) (r : uS), R_X12_choose x1 s = some r → agf [(1079, 21), (1079, 23), (1079, 24), (1079, 25), (1079, 27), (1079, 94), (1079, 95), (1079, 96), (1079, 97), (1079, 100), (1079, 102), (1079, 103), (1079, 104), (1079, 105), (1079, 106), (1079, 109), (1079, 110)] [1093, 1094, 1095, 1138, 1139, 1140, 1141, 1142] [] [1141] s r) {x1 : Int32} {s : uS} {r : uS}  (h : fn_X12_command1 R_X12_choose x1 s = some r) : agf [(1079, 21), (1079, 23), (1079, 24), (1079, 25), (1079, 27), (1079, 94), (1079, 95), (1079, 96), (1079, 97), (1079, 100), (1079, 102), (1079, 103), (1079, 104), (1079, 105), (1079, 106), (1079, 109), (1079, 110)] [1093, 1094, 1095, 1138, 1139, 1140, 1141, 1142] [] [1141] s r := by
  unfold fn_X12_command1 at h
  obtain ⟨v1, e2, h⟩ := uu_ob h
  by_cases c6_0 : v1 = 0
  · replace h := uu_pos c6_0 h
    obtain ⟨s3, e4, h⟩ := uu_ob h
    refine (hR_X12_choose _ _ _ e4).tr ?_
    have hr := Option.some.inj h
    subst hr
    exact agf.rf
  replace h := uu_neg c6_0 h
  by_cases c6_1 : v1 = 1
  · replace h := uu_pos c6_1 h
    obtain ⟨v5, e6, h⟩ := uu_ob h
    obtain ⟨v7, e8, h⟩ := uu_ob h
    obtain ⟨r9, e10, h⟩ := uu_ob h
    refine ((zc_X12_flagsOf  e10).mo (by decide) (by decide) (by decide) (fun _ h => nomatch h)).tr ?_
    obtain ⟨v11, e12, h⟩ := uu_ob h
    by_cases c13 : v11 = 8
    · replace h := uu_pos c13 h
      refine (agf_wI (a := 1079) (f := 94) (v := r9.2) (Or.inl (by decide))).tr ?_
      have hr := Option.some.inj h
      subst hr
      exact agf.rf
    · replace h := uu_neg c13 h
      obtain ⟨v14, e15, h⟩ := uu_ob h
      by_cases c16 : v14 = 9
      · replace h := uu_pos c16 h
        refine (agf_wI (a := 1079) (f := 94) (v := (r9.1.I 1079 94) ||| r9.2) (Or.inl (by decide))).tr ?_
        have hr := Option.some.inj h
        subst hr
        exact agf.rf
      · replace h := uu_neg c16 h
        refine (agf_wI (a := 1079) (f := 94) (v := (r9.1.I 1079 94) &&& (r9.2 ^^^ (-1))) (Or.inl (by decide))).tr ?_
        have hr := Option.some.inj h
        subst hr
        exact agf.rf
  replace h := uu_neg c6_1 h
  by_cases c6_2 : v1 = 2
  · replace h := uu_pos c6_2 h
    refine (agf_wI (a := 1079) (f := 96) (v := 1) (Or.inl (by decide))).tr ?_
    have hr := Option.some.inj h
    subst hr
    exact agf.rf
  replace h := uu_neg c6_2 h
  by_cases c6_3 : v1 = 3
  · replace h := uu_pos c6_3 h
    refine (agf_wI (a := 1079) (f := 95) (v := 0) (Or.inl (by decide))).tr ?_
    have hr := Option.some.inj h
    subst hr
    exact agf.rf
  replace h := uu_neg c6_3 h
  by_cases c6_4 : v1 = 4
  · replace h := uu_pos c6_4 h
    obtain ⟨v17, e18, h⟩ := uu_ob h
    by_cases c19 : v17 = 4
    · replace h := uu_pos c19 h
      exact zb_X12_command1_106 hR_X12_choose h
    · replace h := uu_neg c19 h
      obtain ⟨v20, e21, h⟩ := uu_ob h
      exact zb_X12_command1_106 hR_X12_choose h
  replace h := uu_neg c6_4 h
  by_cases c6_5 : v1 = 5
  · replace h := uu_pos c6_5 h
    obtain ⟨v22, e23, h⟩ := uu_ob h
    by_cases c24 : v22 = 4
    · replace h := uu_pos c24 h
      exact zb_X12_command1_106 hR_X12_choose h
    · replace h := uu_neg c24 h
      obtain ⟨v25, e26, h⟩ := uu_ob h
      exact zb_X12_command1_106 hR_X12_choose h
  replace h := uu_neg c6_5 h
  by_cases c6_6 : v1 = 6
  · replace h := uu_pos c6_6 h
    obtain ⟨v27, e28, h⟩ := uu_ob h
    obtain ⟨s29, e30, h⟩ := uu_ob h
    refine ((zc_X12_redirect1  e30).mo (by decide) (by decide) (by decide) (fun _ h => nomatch h)).tr ?_
    by_cases c31 : (s29.I 1079 95) = 0
    · replace h := uu_pos c31 h
      refine (agf_wI (a := 1079) (f := 95) (v := 0) (Or.inl (by decide))).tr ?_
      refine (agf_wI (a := 1079) (f := 106) (v := 1) (Or.inl (by decide))).tr ?_
      have hr := Option.some.inj h
      subst hr
      exact agf.rf
    · replace h := uu_neg c31 h
      obtain ⟨v32, e33, h⟩ := uu_ob h
      by_cases c34 : v32 = 0
      · replace h := uu_pos c34 h
        refine (agf_wI (a := 1079) (f := 95) (v := 0) (Or.inl (by decide))).tr ?_
        refine (agf_wI (a := 1079) (f := 106) (v := 1) (Or.inl (by decide))).tr ?_
        have hr := Option.some.inj h
        subst hr
        exact agf.rf
      · replace h := uu_neg c34 h
        refine (agf_wI (a := 1079) (f := 95) (v := 1) (Or.inl (by decide))).tr ?_
        refine (agf_wI (a := 1079) (f := 106) (v := 1) (Or.inl (by decide))).tr ?_
        have hr := Option.some.inj h
        subst hr
        exact agf.rf
  replace h := uu_neg c6_6 h
  by_cases c6_7 : v1 = 7
  · replace h := uu_pos c6_7 h
    refine (agf_wI (a := 1079) (f := 102) (v := (s.I 1079 102) + 1) (Or.inl (by decide))).tr ?_
    refine (agf_wI (a := 1079) (f := 103) (v := x1) (Or.inl (by decide))).tr ?_
    refine (agf_wI (a := 1079) (f := 95) (v := 0) (Or.inl (by decide))).tr ?_
    have hr := Option.some.inj h
    subst hr
    exact agf.rf
  replace h := uu_neg c6_7 h
  by_cases c6_8 : v1 = 8
  · replace h := uu_pos c6_8 h
    obtain ⟨v35, e36, h⟩ := uu_ob h
    obtain ⟨v37, e38, h⟩ := uu_ob h
    obtain ⟨r39, e40, h⟩ := uu_ob h
    refine ((zc_X12_flagsOf  e40).mo (by decide) (by decide) (by decide) (fun _ h => nomatch h)).tr ?_
    obtain ⟨v41, e42, h⟩ := uu_ob h
    by_cases c43 : v41 = 8
    · replace h := uu_pos c43 h
      refine (agf_wI (a := 1079) (f := 94) (v := r39.2) (Or.inl (by decide))).tr ?_
      have hr := Option.some.inj h
      subst hr
      exact agf.rf
    · replace h := uu_neg c43 h
      obtain ⟨v44, e45, h⟩ := uu_ob h
      by_cases c46 : v44 = 9
      · replace h := uu_pos c46 h
        refine (agf_wI (a := 1079) (f := 94) (v := (r39.1.I 1079 94) ||| r39.2) (Or.inl (by decide))).tr ?_
        have hr := Option.some.inj h
        subst hr
        exact agf.rf
      · replace h := uu_neg c46 h
        refine (agf_wI (a := 1079) (f := 94) (v := (r39.1.I 1079 94) &&& (r39.2 ^^^ (-1))) (Or.inl (by decide))).tr ?_
        have hr := Option.some.inj h
        subst hr
        exact agf.rf
  replace h := uu_neg c6_8 h
  by_cases c6_9 : v1 = 9
  · replace h := uu_pos c6_9 h
    obtain ⟨v47, e48, h⟩ := uu_ob h
    obtain ⟨v49, e50, h⟩ := uu_ob h
    obtain ⟨r51, e52, h⟩ := uu_ob h
    refine ((zc_X12_flagsOf  e52).mo (by decide) (by decide) (by decide) (fun _ h => nomatch h)).tr ?_
    obtain ⟨v53, e54, h⟩ := uu_ob h
    by_cases c55 : v53 = 8
    · replace h := uu_pos c55 h
      refine (agf_wI (a := 1079) (f := 94) (v := r51.2) (Or.inl (by decide))).tr ?_
      have hr := Option.some.inj h
      subst hr
      exact agf.rf
    · replace h := uu_neg c55 h
      obtain ⟨v56, e57, h⟩ := uu_ob h
      by_cases c58 : v56 = 9
      · replace h := uu_pos c58 h
        refine (agf_wI (a := 1079) (f := 94) (v := (r51.1.I 1079 94) ||| r51.2) (Or.inl (by decide))).tr ?_
        have hr := Option.some.inj h
        subst hr
        exact agf.rf
      · replace h := uu_neg c58 h
        refine (agf_wI (a := 1079) (f := 94) (v := (r51.1.I 1079 94) &&& (r51.2 ^^^ (-1))) (Or.inl (by decide))).tr ?_
        have hr := Option.some.inj h
        subst hr
        exact agf.rf
  replace h := uu_neg c6_9 h
  by_cases c6_10 : v1 = 10
  · replace h := uu_pos c6_10 h
    obtain ⟨v59, e60, h⟩ := uu_ob h
    obtain ⟨v61, e62, h⟩ := uu_ob h
    obtain ⟨r63, e64, h⟩ := uu_ob h
    refine ((zc_X12_flagsOf  e64).mo (by decide) (by decide) (by decide) (fun _ h => nomatch h)).tr ?_
    obtain ⟨v65, e66, h⟩ := uu_ob h
    by_cases c67 : v65 = 8
    · replace h := uu_pos c67 h
      refine (agf_wI (a := 1079) (f := 94) (v := r63.2) (Or.inl (by decide))).tr ?_
      have hr := Option.some.inj h
      subst hr
      exact agf.rf
    · replace h := uu_neg c67 h
      obtain ⟨v68, e69, h⟩ := uu_ob h
      by_cases c70 : v68 = 9
      · replace h := uu_pos c70 h
        refine (agf_wI (a := 1079) (f := 94) (v := (r63.1.I 1079 94) ||| r63.2) (Or.inl (by decide))).tr ?_
        have hr := Option.some.inj h
        subst hr
        exact agf.rf
      · replace h := uu_neg c70 h
        refine (agf_wI (a := 1079) (f := 94) (v := (r63.1.I 1079 94) &&& (r63.2 ^^^ (-1))) (Or.inl (by decide))).tr ?_
        have hr := Option.some.inj h
        subst hr
        exact agf.rf
  replace h := uu_neg c6_10 h
  by_cases c6_11 : v1 = 11
  · replace h := uu_pos c6_11 h
    refine (agf_wI (a := 1079) (f := 104) (v := (s.I 1079 104) + 1) (Or.inl (by decide))).tr ?_
    refine (agf_wI (a := 1079) (f := 105) (v := x1) (Or.inl (by decide))).tr ?_
    have hr := Option.some.inj h
    subst hr
    exact agf.rf
  replace h := uu_neg c6_11 h
  obtain ⟨v71, e72, h⟩ := uu_ob h
  obtain ⟨v73, e74, h⟩ := uu_ob h
  obtain ⟨r75, e76, h⟩ := uu_ob h
  refine ((zc_X12_flagsOf  e76).mo (by decide) (by decide) (by decide) (fun _ h => nomatch h)).tr ?_
  obtain ⟨v77, e78, h⟩ := uu_ob h
  by_cases c79 : v77 = 8
  · replace h := uu_pos c79 h
    refine (agf_wI (a := 1079) (f := 94) (v := r75.2) (Or.inl (by decide))).tr ?_
    have hr := Option.some.inj h
    subst hr
    exact agf.rf
  · replace h := uu_neg c79 h
    obtain ⟨v80, e81, h⟩ := uu_ob h
    by_cases c82 : v80 = 9
    · replace h := uu_pos c82 h
      refine (agf_wI (a := 1079) (f := 94) (v := (r75.1.I 1079 94) ||| r75.2) (Or.inl (by decide))).tr ?_
      have hr := Option.some.inj h
      subst hr
      exact agf.rf
    · replace h := uu_neg c82 h
      refine (agf_wI (a := 1079) (f := 94) (v := (r75.1.I 1079 94) &&& (r75.2 ^^^ (-1))) (Or.inl (by decide))).tr ?_
      have hr := Option.some.inj h
      subst hr
      exact agf.rf
set_option maxRecDepth 100000 in
set_option maxHeartbeats 4000000 in
theorem zb_X12_choose_45 {R_X12_run : Int32 → uS → Option uS} {K9 : Bool → Int32 → uS → Option uS} (hR_X12_run : ∀ (x1 : Int32) (s : uS) (r : uS), R_X12_run x1 s = some r → agf [(1079, 21), (1079, 23), (1079, 24), (1079, 25), (1079, 27), (1079, 94), (1079, 95), (1079, 96), (1079, 97), (1079, 100), (1079, 102), (1079, 103), (1079, 104), (1079, 105), (1079, 106), (1079, 109), (1079, 110)] [1093, 1094, 1095, 1138, 1139, 1140, 1141, 1142] [] [1141] s r) (hK9 : ∀ (b2 : Bool) (x3 : Int32)  (s : uS) (r : uS), K9 b2 x3 s = some r → agf [(1079, 21), (1079, 23), (1079, 24), (1079, 25), (1079, 27), (1079, 94), (1079, 95), (1079, 96), (1079, 97), (1079, 100), (1079, 102), (1079, 103), (1079, 104), (1079, 105), (1079, 106), (1079, 109), (1079, 110)] [1093, 1094, 1095, 1138, 1139, 1140, 1141, 1142] [] [1141] s r) {x3 : Int32} {bs0 : Bool} {s : uS} {r : uS}  (h : fb_X12_choose_45 R_X12_run K9 x3 bs0 s = some r) : agf [(1079, 21), (1079, 23), (1079, 24), (1079, 25), (1079, 27), (1079, 94), (1079, 95), (1079, 96), (1079, 97), (1079, 100), (1079, 102), (1079, 103), (1079, 104), (1079, 105), (1079, 106), (1079, 109), (1079, 110)] [1093, 1094, 1095, 1138, 1139, 1140, 1141, 1142] [] [1141] s r := by
  unfold fb_X12_choose_45 at h
  by_cases c1 : bs0 = true
  · replace h := uu_pos c1 h
    obtain ⟨v2, e3, h⟩ := uu_ob h
    obtain ⟨s4, e5, h⟩ := uu_ob h
    refine (hR_X12_run _ _ _ e5).tr ?_
    obtain ⟨v6, e7, h⟩ := uu_ob h
    exact hK9 bs0 v6 _ _ h
  · replace h := uu_neg c1 h
    obtain ⟨v8, e9, h⟩ := uu_ob h
    exact hK9 bs0 v8 _ _ h
set_option maxRecDepth 100000 in
set_option maxHeartbeats 4000000 in
theorem zb_X12_choose_9 {R_X12_run : Int32 → uS → Option uS} {K9 : Bool → Int32 → uS → Option uS} (hR_X12_run : ∀ (x1 : Int32) (s : uS) (r : uS), R_X12_run x1 s = some r → agf [(1079, 21), (1079, 23), (1079, 24), (1079, 25), (1079, 27), (1079, 94), (1079, 95), (1079, 96), (1079, 97), (1079, 100), (1079, 102), (1079, 103), (1079, 104), (1079, 105), (1079, 106), (1079, 109), (1079, 110)] [1093, 1094, 1095, 1138, 1139, 1140, 1141, 1142] [] [1141] s r) (hK9 : ∀ (b2 : Bool) (x3 : Int32)  (s : uS) (r : uS), K9 b2 x3 s = some r → agf [(1079, 21), (1079, 23), (1079, 24), (1079, 25), (1079, 27), (1079, 94), (1079, 95), (1079, 96), (1079, 97), (1079, 100), (1079, 102), (1079, 103), (1079, 104), (1079, 105), (1079, 106), (1079, 109), (1079, 110)] [1093, 1094, 1095, 1138, 1139, 1140, 1141, 1142] [] [1141] s r) {b2 : Bool} {x3 : Int32} {s : uS} {r : uS}  (h : fb_X12_choose_9 R_X12_run K9 b2 x3 s = some r) : agf [(1079, 21), (1079, 23), (1079, 24), (1079, 25), (1079, 27), (1079, 94), (1079, 95), (1079, 96), (1079, 97), (1079, 100), (1079, 102), (1079, 103), (1079, 104), (1079, 105), (1079, 106), (1079, 109), (1079, 110)] [1093, 1094, 1095, 1138, 1139, 1140, 1141, 1142] [] [1141] s r := by
  unfold fb_X12_choose_9 at h
  by_cases c1 : x3 < 0
  · replace h := uu_pos c1 h
    have hr := Option.some.inj h
    subst hr
    exact agf.rf
  · replace h := uu_neg c1 h
    by_cases c2 : b2 = true
    · replace h := uu_pos c2 h
      have hr := Option.some.inj h
      subst hr
      exact agf.rf
    · replace h := uu_neg c2 h
      obtain ⟨v3, e4, h⟩ := uu_ob h
      by_cases c5 : v3 = (-1)
      · replace h := uu_pos c5 h
        exact zb_X12_choose_45 hR_X12_run hK9 h
      · replace h := uu_neg c5 h
        obtain ⟨v6, e7, h⟩ := uu_ob h
        obtain ⟨r8, e9, h⟩ := uu_ob h
        refine (((zg_1 40) _ _ _ e9).mo (by decide) (by decide) (by decide) (List.forall_mem_cons.mpr ⟨(Or.inr (List.mem_of_getElem? (i := 0) rfl)), fun _ h => nomatch h⟩)).tr ?_
        by_cases c10 : r8.2 = true
        · replace h := uu_pos c10 h
          exact zb_X12_choose_45 hR_X12_run hK9 h
        · replace h := uu_neg c10 h
          exact zb_X12_choose_45 hR_X12_run hK9 h
set_option maxRecDepth 100000 in
set_option maxHeartbeats 4000000 in
theorem zn_X12_choose_9 {R_X12_run : Int32 → uS → Option uS}  (hR_X12_run : ∀ (x1 : Int32) (s : uS) (r : uS), R_X12_run x1 s = some r → agf [(1079, 21), (1079, 23), (1079, 24), (1079, 25), (1079, 27), (1079, 94), (1079, 95), (1079, 96), (1079, 97), (1079, 100), (1079, 102), (1079, 103), (1079, 104), (1079, 105), (1079, 106), (1079, 109), (1079, 110)] [1093, 1094, 1095, 1138, 1139, 1140, 1141, 1142] [] [1141] s r)  : ∀ (n : Nat) (b2 : Bool) (x3 : Int32)  (s : uS) (r : uS), fn_X12_choose_9 R_X12_run  n b2 x3 s = some r → agf [(1079, 21), (1079, 23), (1079, 24), (1079, 25), (1079, 27), (1079, 94), (1079, 95), (1079, 96), (1079, 97), (1079, 100), (1079, 102), (1079, 103), (1079, 104), (1079, 105), (1079, 106), (1079, 109), (1079, 110)] [1093, 1094, 1095, 1138, 1139, 1140, 1141, 1142] [] [1141] s r := by
  intro n
  induction n with
  | zero => intro b2 x3  s r h
            cases h
  | succ n ih => intro b2 x3  s r h
                 exact zb_X12_choose_9 hR_X12_run ih  h
set_option maxRecDepth 100000 in
set_option maxHeartbeats 4000000 in
theorem zc_X12_choose {R_X12_run : Int32 → uS → Option uS} (hR_X12_run : ∀ (x1 : Int32) (s : uS) (r : uS), R_X12_run x1 s = some r → agf [(1079, 21), (1079, 23), (1079, 24), (1079, 25), (1079, 27), (1079, 94), (1079, 95), (1079, 96), (1079, 97), (1079, 100), (1079, 102), (1079, 103), (1079, 104), (1079, 105), (1079, 106), (1079, 109), (1079, 110)] [1093, 1094, 1095, 1138, 1139, 1140, 1141, 1142] [] [1141] s r) {x1 : Int32} {s : uS} {r : uS}  (h : fn_X12_choose R_X12_run x1 s = some r) : agf [(1079, 21), (1079, 23), (1079, 24), (1079, 25), (1079, 27), (1079, 94), (1079, 95), (1079, 96), (1079, 97), (1079, 100), (1079, 102), (1079, 103), (1079, 104), (1079, 105), (1079, 106), (1079, 109), (1079, 110)] [1093, 1094, 1095, 1138, 1139, 1140, 1141, 1142] [] [1141] s r := by
  unfold fn_X12_choose at h
  obtain ⟨v1, e2, h⟩ := uu_ob h
  exact zn_X12_choose_9 hR_X12_run _ _ _ _ _ h
set_option maxRecDepth 100000 in
set_option maxHeartbeats 4000000 in
theorem zg_2 : ∀ n : Nat, (∀ (x1 : Int32) (s : uS) (r : uS), (fg_2 n).1 x1 s = some r → agf [(1079, 21), (1079, 23), (1079, 24), (1079, 25), (1079, 27), (1079, 94), (1079, 95), (1079, 96), (1079, 97), (1079, 100), (1079, 102), (1079, 103), (1079, 104), (1079, 105), (1079, 106), (1079, 109), (1079, 110)] [1093, 1094, 1095, 1138, 1139, 1140, 1141, 1142] [] [1141] s r) ∧ (∀ (x1 : Int32) (s : uS) (r : uS), (fg_2 n).2.1 x1 s = some r → agf [(1079, 21), (1079, 23), (1079, 24), (1079, 25), (1079, 27), (1079, 94), (1079, 95), (1079, 96), (1079, 97), (1079, 100), (1079, 102), (1079, 103), (1079, 104), (1079, 105), (1079, 106), (1079, 109), (1079, 110)] [1093, 1094, 1095, 1138, 1139, 1140, 1141, 1142] [] [1141] s r) ∧ (∀ (x1 : Int32) (s : uS) (r : uS), (fg_2 n).2.2 x1 s = some r → agf [(1079, 21), (1079, 23), (1079, 24), (1079, 25), (1079, 27), (1079, 94), (1079, 95), (1079, 96), (1079, 97), (1079, 100), (1079, 102), (1079, 103), (1079, 104), (1079, 105), (1079, 106), (1079, 109), (1079, 110)] [1093, 1094, 1095, 1138, 1139, 1140, 1141, 1142] [] [1141] s r) := by
  intro n
  induction n with
  | zero => exact ⟨fun x1 s r h => (by cases h), fun x1 s r h => (by cases h), fun x1 s r h => (by cases h)⟩
  | succ n ih => exact ⟨fun x1 s r h => zc_X12_run ih.2.1 h, fun x1 s r h => zc_X12_command1 ih.2.2 h, fun x1 s r h => zc_X12_choose ih.1 h⟩
set_option maxRecDepth 100000 in
set_option maxHeartbeats 4000000 in
theorem zb_X12_sortIt_46      {s : uS} {r : uS}  (h : fb_X12_sortIt_46    s = some r) : agf [(1079, 21), (1079, 23), (1079, 24), (1079, 25), (1079, 27), (1079, 29), (1079, 30), (1079, 31), (1079, 32), (1079, 33), (1079, 34), (1079, 35), (1079, 37), (1079, 38), (1079, 39), (1079, 40), (1079, 41), (1079, 42), (1079, 61), (1079, 64), (1079, 65), (1079, 66), (1079, 67), (1079, 94), (1079, 95), (1079, 96), (1079, 97), (1079, 100), (1079, 102), (1079, 103), (1079, 104), (1079, 105), (1079, 106), (1079, 109), (1079, 110)] [1093, 1094, 1095, 1096, 1097, 1098, 1099, 1100, 1101, 1102, 1103, 1104, 1105, 1106, 1107, 1108, 1109, 1110, 1111, 1112, 1113, 1114, 1115, 1116, 1117, 1138, 1139, 1140, 1141, 1142] [] [1141] s r := by
  unfold fb_X12_sortIt_46 at h
  by_cases c1 : (s.I 1079 95) = 0
  · replace h := uu_pos c1 h
    have hr := Option.some.inj h
    subst hr
    exact agf.rf
  · replace h := uu_neg c1 h
    obtain ⟨s2, e3, h⟩ := uu_ob h
    refine ((zc_X12_file1  e3).mo (by decide) (by decide) (by decide) (fun _ h => nomatch h)).tr ?_
    have hr := Option.some.inj h
    subst hr
    exact agf.rf
set_option maxRecDepth 100000 in
set_option maxHeartbeats 4000000 in
theorem zc_X12_sortIt    {s : uS} {r : uS}  (h : fn_X12_sortIt   s = some r) : agf [(1079, 21), (1079, 23), (1079, 24), (1079, 25), (1079, 27), (1079, 29), (1079, 30), (1079, 31), (1079, 32), (1079, 33), (1079, 34), (1079, 35), (1079, 37), (1079, 38), (1079, 39), (1079, 40), (1079, 41), (1079, 42), (1079, 61), (1079, 64), (1079, 65), (1079, 66), (1079, 67), (1079, 94), (1079, 95), (1079, 96), (1079, 97), (1079, 100), (1079, 102), (1079, 103), (1079, 104), (1079, 105), (1079, 106), (1079, 109), (1079, 110)] [1093, 1094, 1095, 1096, 1097, 1098, 1099, 1100, 1101, 1102, 1103, 1104, 1105, 1106, 1107, 1108, 1109, 1110, 1111, 1112, 1113, 1114, 1115, 1116, 1117, 1138, 1139, 1140, 1141, 1142] [] [1141] s r := by
  unfold fn_X12_sortIt at h
  obtain ⟨s1, e2, h⟩ := uu_ob h
  refine ((zc_X12_begin  e2).mo (by decide) (by decide) (by decide) (fun _ h => nomatch h)).tr ?_
  obtain ⟨v3, e4, h⟩ := uu_ob h
  by_cases c5 : v3 < 0
  · replace h := uu_pos c5 h
    exact zb_X12_sortIt_46  h
  · replace h := uu_neg c5 h
    obtain ⟨s6, e7, h⟩ := uu_ob h
    refine ((zc_X12_loadScript  e7).mo (by decide) (by decide) (by decide) (fun _ h => nomatch h)).tr ?_
    obtain ⟨r8, e9, h⟩ := uu_ob h
    refine ((zc_X12_read  e9).mo (by decide) (by decide) (by decide) (fun _ h => nomatch h)).tr ?_
    obtain ⟨s10, e11, h⟩ := uu_ob h
    refine (((zg_2 60).1 _ _ _ e11).mo (by decide) (by decide) (by decide) (List.forall_mem_cons.mpr ⟨(Or.inr (List.mem_of_getElem? (i := 0) rfl)), fun _ h => nomatch h⟩)).tr ?_
    obtain ⟨r12, e13, h⟩ := uu_ob h
    refine ((zc_X12_fails  e13).mo (by decide) (by decide) (by decide) (fun _ h => nomatch h)).tr ?_
    by_cases c14 : r12.2 = true
    · replace h := uu_pos c14 h
      obtain ⟨s15, e16, h⟩ := uu_ob h
      refine ((zc_X12_begin  e16).mo (by decide) (by decide) (by decide) (fun _ h => nomatch h)).tr ?_
      exact zb_X12_sortIt_46  h
    · replace h := uu_neg c14 h
      exact zb_X12_sortIt_46  h
set_option maxRecDepth 100000 in
set_option maxHeartbeats 4000000 in
theorem zb_X12_deliver_233      {s : uS} {r : (uS × Bool)}  (h : fb_X12_deliver_233    s = some r) : agf [(1079, 0), (1079, 2), (1079, 3), (1079, 14), (1079, 21), (1079, 23), (1079, 24), (1079, 25), (1079, 27), (1079, 29), (1079, 30), (1079, 31), (1079, 32), (1079, 33), (1079, 34), (1079, 35), (1079, 37), (1079, 38), (1079, 39), (1079, 40), (1079, 41), (1079, 42), (1079, 61), (1079, 64), (1079, 65), (1079, 66), (1079, 67), (1079, 69), (1079, 70), (1079, 71), (1079, 89), (1079, 91), (1079, 94), (1079, 95), (1079, 96), (1079, 97), (1079, 100), (1079, 102), (1079, 103), (1079, 104), (1079, 105), (1079, 106), (1079, 109), (1079, 110), (1079, 112), (1079, 113)] [1081, 1082, 1083, 1084, 1085, 1086, 1088, 1089, 1090, 1091, 1092, 1093, 1094, 1095, 1096, 1097, 1098, 1099, 1100, 1101, 1102, 1103, 1104, 1105, 1106, 1107, 1108, 1109, 1110, 1111, 1112, 1113, 1114, 1115, 1116, 1117, 1118, 1119, 1120, 1121, 1122, 1123, 1124, 1125, 1126, 1127, 1128, 1129, 1130, 1131, 1132, 1133, 1134, 1135, 1136, 1138, 1139, 1140, 1141, 1142, 1143, 1156, 1157, 1160, 1166] [] [1141] s r.1 := by
  unfold fb_X12_deliver_233 at h
  obtain ⟨s2, e3, h⟩ := uu_ob h
  refine ((zc_X12_line  e3).mo (by decide) (by decide) (by decide) (fun _ h => nomatch h)).tr ?_
  have hr := Option.some.inj h
  subst hr
  exact agf.rf
set_option maxRecDepth 100000 in
set_option maxHeartbeats 4000000 in
theorem zb_X12_deliver_357  {K357 : Int32 → uS → Option (uS × Bool)}  (hK357 : ∀ (x7 : Int32)  (s : uS) (r : (uS × Bool)), K357 x7 s = some r → agf [(1079, 0), (1079, 2), (1079, 3), (1079, 14), (1079, 21), (1079, 23), (1079, 24), (1079, 25), (1079, 27), (1079, 29), (1079, 30), (1079, 31), (1079, 32), (1079, 33), (1079, 34), (1079, 35), (1079, 37), (1079, 38), (1079, 39), (1079, 40), (1079, 41), (1079, 42), (1079, 61), (1079, 64), (1079, 65), (1079, 66), (1079, 67), (1079, 69), (1079, 70), (1079, 71), (1079, 89), (1079, 91), (1079, 94), (1079, 95), (1079, 96), (1079, 97), (1079, 100), (1079, 102), (1079, 103), (1079, 104), (1079, 105), (1079, 106), (1079, 109), (1079, 110), (1079, 112), (1079, 113)] [1081, 1082, 1083, 1084, 1085, 1086, 1088, 1089, 1090, 1091, 1092, 1093, 1094, 1095, 1096, 1097, 1098, 1099, 1100, 1101, 1102, 1103, 1104, 1105, 1106, 1107, 1108, 1109, 1110, 1111, 1112, 1113, 1114, 1115, 1116, 1117, 1118, 1119, 1120, 1121, 1122, 1123, 1124, 1125, 1126, 1127, 1128, 1129, 1130, 1131, 1132, 1133, 1134, 1135, 1136, 1138, 1139, 1140, 1141, 1142, 1143, 1156, 1157, 1160, 1166] [] [1141] s r.1) {x7 : Int32} {s : uS} {r : (uS × Bool)}  (h : fb_X12_deliver_357  K357 x7 s = some r) : agf [(1079, 0), (1079, 2), (1079, 3), (1079, 14), (1079, 21), (1079, 23), (1079, 24), (1079, 25), (1079, 27), (1079, 29), (1079, 30), (1079, 31), (1079, 32), (1079, 33), (1079, 34), (1079, 35), (1079, 37), (1079, 38), (1079, 39), (1079, 40), (1079, 41), (1079, 42), (1079, 61), (1079, 64), (1079, 65), (1079, 66), (1079, 67), (1079, 69), (1079, 70), (1079, 71), (1079, 89), (1079, 91), (1079, 94), (1079, 95), (1079, 96), (1079, 97), (1079, 100), (1079, 102), (1079, 103), (1079, 104), (1079, 105), (1079, 106), (1079, 109), (1079, 110), (1079, 112), (1079, 113)] [1081, 1082, 1083, 1084, 1085, 1086, 1088, 1089, 1090, 1091, 1092, 1093, 1094, 1095, 1096, 1097, 1098, 1099, 1100, 1101, 1102, 1103, 1104, 1105, 1106, 1107, 1108, 1109, 1110, 1111, 1112, 1113, 1114, 1115, 1116, 1117, 1118, 1119, 1120, 1121, 1122, 1123, 1124, 1125, 1126, 1127, 1128, 1129, 1130, 1131, 1132, 1133, 1134, 1135, 1136, 1138, 1139, 1140, 1141, 1142, 1143, 1156, 1157, 1160, 1166] [] [1141] s r.1 := by
  unfold fb_X12_deliver_357 at h
  by_cases c1 : (s.I 1079 91) ≤ x7
  · replace h := uu_pos c1 h
    obtain ⟨s3, e4, h⟩ := uu_ob h
    refine ((zc_X12_line  e4).mo (by decide) (by decide) (by decide) (fun _ h => nomatch h)).tr ?_
    have hr := Option.some.inj h
    subst hr
    exact agf.rf
  · replace h := uu_neg c1 h
    obtain ⟨v5, e6, h⟩ := uu_ob h
    obtain ⟨s7, e8, h⟩ := uu_ob h
    refine ((zc_X12_say  e8).mo (by decide) (by decide) (by decide) (fun _ h => nomatch h)).tr ?_
    exact hK357 (x7 + 1) _ _ h
set_option maxRecDepth 100000 in
set_option maxHeartbeats 4000000 in
theorem zn_X12_deliver_357     : ∀ (n : Nat) (x7 : Int32)  (s : uS) (r : (uS × Bool)), fn_X12_deliver_357   n x7 s = some r → agf [(1079, 0), (1079, 2), (1079, 3), (1079, 14), (1079, 21), (1079, 23), (1079, 24), (1079, 25), (1079, 27), (1079, 29), (1079, 30), (1079, 31), (1079, 32), (1079, 33), (1079, 34), (1079, 35), (1079, 37), (1079, 38), (1079, 39), (1079, 40), (1079, 41), (1079, 42), (1079, 61), (1079, 64), (1079, 65), (1079, 66), (1079, 67), (1079, 69), (1079, 70), (1079, 71), (1079, 89), (1079, 91), (1079, 94), (1079, 95), (1079, 96), (1079, 97), (1079, 100), (1079, 102), (1079, 103), (1079, 104), (1079, 105), (1079, 106), (1079, 109), (1079, 110), (1079, 112), (1079, 113)] [1081, 1082, 1083, 1084, 1085, 1086, 1088, 1089, 1090, 1091, 1092, 1093, 1094, 1095, 1096, 1097, 1098, 1099, 1100, 1101, 1102, 1103, 1104, 1105, 1106, 1107, 1108, 1109, 1110, 1111, 1112, 1113, 1114, 1115, 1116, 1117, 1118, 1119, 1120, 1121, 1122, 1123, 1124, 1125, 1126, 1127, 1128, 1129, 1130, 1131, 1132, 1133, 1134, 1135, 1136, 1138, 1139, 1140, 1141, 1142, 1143, 1156, 1157, 1160, 1166] [] [1141] s r.1 := by
  intro n
  induction n with
  | zero => intro x7  s r h
            cases h
  | succ n ih => intro x7  s r h
                 exact zb_X12_deliver_357  ih  h
set_option maxRecDepth 100000 in
set_option maxHeartbeats 4000000 in
theorem zb_X12_deliver_346      {s : uS} {r : (uS × Bool)}  (h : fb_X12_deliver_346    s = some r) : agf [(1079, 0), (1079, 2), (1079, 3), (1079, 14), (1079, 21), (1079, 23), (1079, 24), (1079, 25), (1079, 27), (1079, 29), (1079, 30), (1079, 31), (1079, 32), (1079, 33), (1079, 34), (1079, 35), (1079, 37), (1079, 38), (1079, 39), (1079, 40), (1079, 41), (1079, 42), (1079, 61), (1079, 64), (1079, 65), (1079, 66), (1079, 67), (1079, 69), (1079, 70), (1079, 71), (1079, 89), (1079, 91), (1079, 94), (1079, 95), (1079, 96), (1079, 97), (1079, 100), (1079, 102), (1079, 103), (1079, 104), (1079, 105), (1079, 106), (1079, 109), (1079, 110), (1079, 112), (1079, 113)] [1081, 1082, 1083, 1084, 1085, 1086, 1088, 1089, 1090, 1091, 1092, 1093, 1094, 1095, 1096, 1097, 1098, 1099, 1100, 1101, 1102, 1103, 1104, 1105, 1106, 1107, 1108, 1109, 1110, 1111, 1112, 1113, 1114, 1115, 1116, 1117, 1118, 1119, 1120, 1121, 1122, 1123, 1124, 1125, 1126, 1127, 1128, 1129, 1130, 1131, 1132, 1133, 1134, 1135, 1136, 1138, 1139, 1140, 1141, 1142, 1143, 1156, 1157, 1160, 1166] [] [1141] s r.1 := by
  unfold fb_X12_deliver_346 at h
  obtain ⟨s2, e3, h⟩ := uu_ob h
  refine ((zc_X12_tell  e3).mo (by decide) (by decide) (by decide) (fun _ h => nomatch h)).tr ?_
  exact zn_X12_deliver_357  _ _ _ _ h
set_option maxRecDepth 100000 in
set_option maxHeartbeats 4000000 in
theorem zb_X12_deliver_338     {b3 : Bool} {s : uS} {r : (uS × Bool)}  (h : fb_X12_deliver_338   b3 s = some r) : agf [(1079, 0), (1079, 2), (1079, 3), (1079, 14), (1079, 21), (1079, 23), (1079, 24), (1079, 25), (1079, 27), (1079, 29), (1079, 30), (1079, 31), (1079, 32), (1079, 33), (1079, 34), (1079, 35), (1079, 37), (1079, 38), (1079, 39), (1079, 40), (1079, 41), (1079, 42), (1079, 61), (1079, 64), (1079, 65), (1079, 66), (1079, 67), (1079, 69), (1079, 70), (1079, 71), (1079, 89), (1079, 91), (1079, 94), (1079, 95), (1079, 96), (1079, 97), (1079, 100), (1079, 102), (1079, 103), (1079, 104), (1079, 105), (1079, 106), (1079, 109), (1079, 110), (1079, 112), (1079, 113)] [1081, 1082, 1083, 1084, 1085, 1086, 1088, 1089, 1090, 1091, 1092, 1093, 1094, 1095, 1096, 1097, 1098, 1099, 1100, 1101, 1102, 1103, 1104, 1105, 1106, 1107, 1108, 1109, 1110, 1111, 1112, 1113, 1114, 1115, 1116, 1117, 1118, 1119, 1120, 1121, 1122, 1123, 1124, 1125, 1126, 1127, 1128, 1129, 1130, 1131, 1132, 1133, 1134, 1135, 1136, 1138, 1139, 1140, 1141, 1142, 1143, 1156, 1157, 1160, 1166] [] [1141] s r.1 := by
  unfold fb_X12_deliver_338 at h
  by_cases c1 : b3 = true
  · replace h := uu_pos c1 h
    obtain ⟨s2, e3, h⟩ := uu_ob h
    refine ((zc_X12_addNote  e3).mo (by decide) (by decide) (by decide) (fun _ h => nomatch h)).tr ?_
    exact zb_X12_deliver_346  h
  · replace h := uu_neg c1 h
    exact zb_X12_deliver_346  h
set_option maxRecDepth 100000 in
set_option maxHeartbeats 4000000 in
theorem zb_X12_deliver_303  {K303 : Bool → Bool → Int32 → uS → Option (uS × Bool)}  (hK303 : ∀ (b3 : Bool) (b4 : Bool) (x7 : Int32)  (s : uS) (r : (uS × Bool)), K303 b3 b4 x7 s = some r → agf [(1079, 0), (1079, 2), (1079, 3), (1079, 14), (1079, 21), (1079, 23), (1079, 24), (1079, 25), (1079, 27), (1079, 29), (1079, 30), (1079, 31), (1079, 32), (1079, 33), (1079, 34), (1079, 35), (1079, 37), (1079, 38), (1079, 39), (1079, 40), (1079, 41), (1079, 42), (1079, 61), (1079, 64), (1079, 65), (1079, 66), (1079, 67), (1079, 69), (1079, 70), (1079, 71), (1079, 89), (1079, 91), (1079, 94), (1079, 95), (1079, 96), (1079, 97), (1079, 100), (1079, 102), (1079, 103), (1079, 104), (1079, 105), (1079, 106), (1079, 109), (1079, 110), (1079, 112), (1079, 113)] [1081, 1082, 1083, 1084, 1085, 1086, 1088, 1089, 1090, 1091, 1092, 1093, 1094, 1095, 1096, 1097, 1098, 1099, 1100, 1101, 1102, 1103, 1104, 1105, 1106, 1107, 1108, 1109, 1110, 1111, 1112, 1113, 1114, 1115, 1116, 1117, 1118, 1119, 1120, 1121, 1122, 1123, 1124, 1125, 1126, 1127, 1128, 1129, 1130, 1131, 1132, 1133, 1134, 1135, 1136, 1138, 1139, 1140, 1141, 1142, 1143, 1156, 1157, 1160, 1166] [] [1141] s r.1) {b3 : Bool} {b4 : Bool} {x7 : Int32} {s : uS} {r : (uS × Bool)}  (h : fb_X12_deliver_303  K303 b3 b4 x7 s = some r) : agf [(1079, 0), (1079, 2), (1079, 3), (1079, 14), (1079, 21), (1079, 23), (1079, 24), (1079, 25), (1079, 27), (1079, 29), (1079, 30), (1079, 31), (1079, 32), (1079, 33), (1079, 34), (1079, 35), (1079, 37), (1079, 38), (1079, 39), (1079, 40), (1079, 41), (1079, 42), (1079, 61), (1079, 64), (1079, 65), (1079, 66), (1079, 67), (1079, 69), (1079, 70), (1079, 71), (1079, 89), (1079, 91), (1079, 94), (1079, 95), (1079, 96), (1079, 97), (1079, 100), (1079, 102), (1079, 103), (1079, 104), (1079, 105), (1079, 106), (1079, 109), (1079, 110), (1079, 112), (1079, 113)] [1081, 1082, 1083, 1084, 1085, 1086, 1088, 1089, 1090, 1091, 1092, 1093, 1094, 1095, 1096, 1097, 1098, 1099, 1100, 1101, 1102, 1103, 1104, 1105, 1106, 1107, 1108, 1109, 1110, 1111, 1112, 1113, 1114, 1115, 1116, 1117, 1118, 1119, 1120, 1121, 1122, 1123, 1124, 1125, 1126, 1127, 1128, 1129, 1130, 1131, 1132, 1133, 1134, 1135, 1136, 1138, 1139, 1140, 1141, 1142, 1143, 1156, 1157, 1160, 1166] [] [1141] s r.1 := by
  unfold fb_X12_deliver_303 at h
  by_cases c1 : (s.I 1079 100) ≤ x7
  · replace h := uu_pos c1 h
    by_cases c2 : b4 = true
    · replace h := uu_pos c2 h
      obtain ⟨s3, e4, h⟩ := uu_ob h
      refine ((zc_X12_sendLetter  e4).mo (by decide) (by decide) (by decide) (fun _ h => nomatch h)).tr ?_
      exact zb_X12_deliver_338  h
    · replace h := uu_neg c2 h
      exact zb_X12_deliver_338  h
  · replace h := uu_neg c1 h
    obtain ⟨v5, e6, h⟩ := uu_ob h
    obtain ⟨s7, e8, h⟩ := uu_ob h
    refine ((zc_X12_sendTo  e8).mo (by decide) (by decide) (by decide) (fun _ h => nomatch h)).tr ?_
    exact hK303 b3 b4 (x7 + 1) _ _ h
set_option maxRecDepth 100000 in
set_option maxHeartbeats 4000000 in
theorem zn_X12_deliver_303     : ∀ (n : Nat) (b3 : Bool) (b4 : Bool) (x7 : Int32)  (s : uS) (r : (uS × Bool)), fn_X12_deliver_303   n b3 b4 x7 s = some r → agf [(1079, 0), (1079, 2), (1079, 3), (1079, 14), (1079, 21), (1079, 23), (1079, 24), (1079, 25), (1079, 27), (1079, 29), (1079, 30), (1079, 31), (1079, 32), (1079, 33), (1079, 34), (1079, 35), (1079, 37), (1079, 38), (1079, 39), (1079, 40), (1079, 41), (1079, 42), (1079, 61), (1079, 64), (1079, 65), (1079, 66), (1079, 67), (1079, 69), (1079, 70), (1079, 71), (1079, 89), (1079, 91), (1079, 94), (1079, 95), (1079, 96), (1079, 97), (1079, 100), (1079, 102), (1079, 103), (1079, 104), (1079, 105), (1079, 106), (1079, 109), (1079, 110), (1079, 112), (1079, 113)] [1081, 1082, 1083, 1084, 1085, 1086, 1088, 1089, 1090, 1091, 1092, 1093, 1094, 1095, 1096, 1097, 1098, 1099, 1100, 1101, 1102, 1103, 1104, 1105, 1106, 1107, 1108, 1109, 1110, 1111, 1112, 1113, 1114, 1115, 1116, 1117, 1118, 1119, 1120, 1121, 1122, 1123, 1124, 1125, 1126, 1127, 1128, 1129, 1130, 1131, 1132, 1133, 1134, 1135, 1136, 1138, 1139, 1140, 1141, 1142, 1143, 1156, 1157, 1160, 1166] [] [1141] s r.1 := by
  intro n
  induction n with
  | zero => intro b3 b4 x7  s r h
            cases h
  | succ n ih => intro b3 b4 x7  s r h
                 exact zb_X12_deliver_303  ih  h
set_option maxRecDepth 100000 in
set_option maxHeartbeats 4000000 in
theorem zb_X12_deliver_255  {K255 : Bool → Bool → Int32 → uS → Option (uS × Bool)}  (hK255 : ∀ (b3 : Bool) (b4 : Bool) (x7 : Int32)  (s : uS) (r : (uS × Bool)), K255 b3 b4 x7 s = some r → agf [(1079, 0), (1079, 2), (1079, 3), (1079, 14), (1079, 21), (1079, 23), (1079, 24), (1079, 25), (1079, 27), (1079, 29), (1079, 30), (1079, 31), (1079, 32), (1079, 33), (1079, 34), (1079, 35), (1079, 37), (1079, 38), (1079, 39), (1079, 40), (1079, 41), (1079, 42), (1079, 61), (1079, 64), (1079, 65), (1079, 66), (1079, 67), (1079, 69), (1079, 70), (1079, 71), (1079, 89), (1079, 91), (1079, 94), (1079, 95), (1079, 96), (1079, 97), (1079, 100), (1079, 102), (1079, 103), (1079, 104), (1079, 105), (1079, 106), (1079, 109), (1079, 110), (1079, 112), (1079, 113)] [1081, 1082, 1083, 1084, 1085, 1086, 1088, 1089, 1090, 1091, 1092, 1093, 1094, 1095, 1096, 1097, 1098, 1099, 1100, 1101, 1102, 1103, 1104, 1105, 1106, 1107, 1108, 1109, 1110, 1111, 1112, 1113, 1114, 1115, 1116, 1117, 1118, 1119, 1120, 1121, 1122, 1123, 1124, 1125, 1126, 1127, 1128, 1129, 1130, 1131, 1132, 1133, 1134, 1135, 1136, 1138, 1139, 1140, 1141, 1142, 1143, 1156, 1157, 1160, 1166] [] [1141] s r.1) {b3 : Bool} {b4 : Bool} {x7 : Int32} {s : uS} {r : (uS × Bool)}  (h : fb_X12_deliver_255  K255 b3 b4 x7 s = some r) : agf [(1079, 0), (1079, 2), (1079, 3), (1079, 14), (1079, 21), (1079, 23), (1079, 24), (1079, 25), (1079, 27), (1079, 29), (1079, 30), (1079, 31), (1079, 32), (1079, 33), (1079, 34), (1079, 35), (1079, 37), (1079, 38), (1079, 39), (1079, 40), (1079, 41), (1079, 42), (1079, 61), (1079, 64), (1079, 65), (1079, 66), (1079, 67), (1079, 69), (1079, 70), (1079, 71), (1079, 89), (1079, 91), (1079, 94), (1079, 95), (1079, 96), (1079, 97), (1079, 100), (1079, 102), (1079, 103), (1079, 104), (1079, 105), (1079, 106), (1079, 109), (1079, 110), (1079, 112), (1079, 113)] [1081, 1082, 1083, 1084, 1085, 1086, 1088, 1089, 1090, 1091, 1092, 1093, 1094, 1095, 1096, 1097, 1098, 1099, 1100, 1101, 1102, 1103, 1104, 1105, 1106, 1107, 1108, 1109, 1110, 1111, 1112, 1113, 1114, 1115, 1116, 1117, 1118, 1119, 1120, 1121, 1122, 1123, 1124, 1125, 1126, 1127, 1128, 1129, 1130, 1131, 1132, 1133, 1134, 1135, 1136, 1138, 1139, 1140, 1141, 1142, 1143, 1156, 1157, 1160, 1166] [] [1141] s r.1 := by
  unfold fb_X12_deliver_255 at h
  by_cases c1 : (s.I 1079 97) ≤ x7
  · replace h := uu_pos c1 h
    exact zn_X12_deliver_303  _ _ _ _ _ _ h
  · replace h := uu_neg c1 h
    obtain ⟨v2, e3, h⟩ := uu_ob h
    obtain ⟨r4, e5, h⟩ := uu_ob h
    refine ((zc_X12_boxMade  e5).mo (by decide) (by decide) (by decide) (fun _ h => nomatch h)).tr ?_
    obtain ⟨v6, e7, h⟩ := uu_ob h
    obtain ⟨r8, e9, h⟩ := uu_ob h
    refine ((zc_X12_beginMail  e9).mo (by decide) (by decide) (by decide) (fun _ h => nomatch h)).tr ?_
    obtain ⟨s10, e11, h⟩ := uu_ob h
    refine ((zc_X12_copyMail  e11).mo (by decide) (by decide) (by decide) (fun _ h => nomatch h)).tr ?_
    exact hK255 b3 b4 (x7 + 1) _ _ h
set_option maxRecDepth 100000 in
set_option maxHeartbeats 4000000 in
theorem zn_X12_deliver_255     : ∀ (n : Nat) (b3 : Bool) (b4 : Bool) (x7 : Int32)  (s : uS) (r : (uS × Bool)), fn_X12_deliver_255   n b3 b4 x7 s = some r → agf [(1079, 0), (1079, 2), (1079, 3), (1079, 14), (1079, 21), (1079, 23), (1079, 24), (1079, 25), (1079, 27), (1079, 29), (1079, 30), (1079, 31), (1079, 32), (1079, 33), (1079, 34), (1079, 35), (1079, 37), (1079, 38), (1079, 39), (1079, 40), (1079, 41), (1079, 42), (1079, 61), (1079, 64), (1079, 65), (1079, 66), (1079, 67), (1079, 69), (1079, 70), (1079, 71), (1079, 89), (1079, 91), (1079, 94), (1079, 95), (1079, 96), (1079, 97), (1079, 100), (1079, 102), (1079, 103), (1079, 104), (1079, 105), (1079, 106), (1079, 109), (1079, 110), (1079, 112), (1079, 113)] [1081, 1082, 1083, 1084, 1085, 1086, 1088, 1089, 1090, 1091, 1092, 1093, 1094, 1095, 1096, 1097, 1098, 1099, 1100, 1101, 1102, 1103, 1104, 1105, 1106, 1107, 1108, 1109, 1110, 1111, 1112, 1113, 1114, 1115, 1116, 1117, 1118, 1119, 1120, 1121, 1122, 1123, 1124, 1125, 1126, 1127, 1128, 1129, 1130, 1131, 1132, 1133, 1134, 1135, 1136, 1138, 1139, 1140, 1141, 1142, 1143, 1156, 1157, 1160, 1166] [] [1141] s r.1 := by
  intro n
  induction n with
  | zero => intro b3 b4 x7  s r h
            cases h
  | succ n ih => intro b3 b4 x7  s r h
                 exact zb_X12_deliver_255  ih  h
set_option maxRecDepth 100000 in
set_option maxHeartbeats 4000000 in
theorem zb_X12_deliver_190     {b3 : Bool} {b4 : Bool} {x5 : Int32} {xs0 : Int32} {xs1 : Int32} {s : uS} {r : (uS × Bool)}  (h : fb_X12_deliver_190   b3 b4 x5 xs0 xs1 s = some r) : agf [(1079, 0), (1079, 2), (1079, 3), (1079, 14), (1079, 21), (1079, 23), (1079, 24), (1079, 25), (1079, 27), (1079, 29), (1079, 30), (1079, 31), (1079, 32), (1079, 33), (1079, 34), (1079, 35), (1079, 37), (1079, 38), (1079, 39), (1079, 40), (1079, 41), (1079, 42), (1079, 61), (1079, 64), (1079, 65), (1079, 66), (1079, 67), (1079, 69), (1079, 70), (1079, 71), (1079, 89), (1079, 91), (1079, 94), (1079, 95), (1079, 96), (1079, 97), (1079, 100), (1079, 102), (1079, 103), (1079, 104), (1079, 105), (1079, 106), (1079, 109), (1079, 110), (1079, 112), (1079, 113)] [1081, 1082, 1083, 1084, 1085, 1086, 1088, 1089, 1090, 1091, 1092, 1093, 1094, 1095, 1096, 1097, 1098, 1099, 1100, 1101, 1102, 1103, 1104, 1105, 1106, 1107, 1108, 1109, 1110, 1111, 1112, 1113, 1114, 1115, 1116, 1117, 1118, 1119, 1120, 1121, 1122, 1123, 1124, 1125, 1126, 1127, 1128, 1129, 1130, 1131, 1132, 1133, 1134, 1135, 1136, 1138, 1139, 1140, 1141, 1142, 1143, 1156, 1157, 1160, 1166] [] [1141] s r.1 := by
  unfold fb_X12_deliver_190 at h
  by_cases c1 : (300 : Int32) < ((s.I 1079 70) + (s.I 1079 97))
  · replace h := uu_pos c1 h
    exact zb_X12_deliver_233  h
  · replace h := uu_neg c1 h
    by_cases c2 : (100 : Int32) < ((s.I 1079 71) + x5)
    · replace h := uu_pos c2 h
      exact zb_X12_deliver_233  h
    · replace h := uu_neg c2 h
      by_cases c3 : ((s.I 1079 69) + (xs1 + xs0)) ≤ 150000
      · replace h := uu_pos c3 h
        obtain ⟨r4, e5, h⟩ := uu_ob h
        refine ((zc_X12_commit  e5).mo (by decide) (by decide) (by decide) (fun _ h => nomatch h)).tr ?_
        by_cases c6 : r4.2 = true
        · replace h := uu_pos c6 h
          exact zn_X12_deliver_255  _ _ _ _ _ _ h
        · replace h := uu_neg c6 h
          have hr := Option.some.inj h
          subst hr
          exact agf.rf
      · replace h := uu_neg c3 h
        exact zb_X12_deliver_233  h
set_option maxRecDepth 100000 in
set_option maxHeartbeats 4000000 in
theorem zb_X12_deliver_160     {b3 : Bool} {b4 : Bool} {bs0 : Bool} {xs1 : Int32} {s : uS} {r : (uS × Bool)}  (h : fb_X12_deliver_160   b3 b4 bs0 xs1 s = some r) : agf [(1079, 0), (1079, 2), (1079, 3), (1079, 14), (1079, 21), (1079, 23), (1079, 24), (1079, 25), (1079, 27), (1079, 29), (1079, 30), (1079, 31), (1079, 32), (1079, 33), (1079, 34), (1079, 35), (1079, 37), (1079, 38), (1079, 39), (1079, 40), (1079, 41), (1079, 42), (1079, 61), (1079, 64), (1079, 65), (1079, 66), (1079, 67), (1079, 69), (1079, 70), (1079, 71), (1079, 89), (1079, 91), (1079, 94), (1079, 95), (1079, 96), (1079, 97), (1079, 100), (1079, 102), (1079, 103), (1079, 104), (1079, 105), (1079, 106), (1079, 109), (1079, 110), (1079, 112), (1079, 113)] [1081, 1082, 1083, 1084, 1085, 1086, 1088, 1089, 1090, 1091, 1092, 1093, 1094, 1095, 1096, 1097, 1098, 1099, 1100, 1101, 1102, 1103, 1104, 1105, 1106, 1107, 1108, 1109, 1110, 1111, 1112, 1113, 1114, 1115, 1116, 1117, 1118, 1119, 1120, 1121, 1122, 1123, 1124, 1125, 1126, 1127, 1128, 1129, 1130, 1131, 1132, 1133, 1134, 1135, 1136, 1138, 1139, 1140, 1141, 1142, 1143, 1156, 1157, 1160, 1166] [] [1141] s r.1 := by
  unfold fb_X12_deliver_160 at h
  by_cases c1 : b4 = true
  · replace h := uu_pos c1 h
    exact zb_X12_deliver_190  h
  · replace h := uu_neg c1 h
    exact zb_X12_deliver_190  h
set_option maxRecDepth 100000 in
set_option maxHeartbeats 4000000 in
theorem zb_X12_deliver_146     {b3 : Bool} {b4 : Bool} {s : uS} {r : (uS × Bool)}  (h : fb_X12_deliver_146   b3 b4 s = some r) : agf [(1079, 0), (1079, 2), (1079, 3), (1079, 14), (1079, 21), (1079, 23), (1079, 24), (1079, 25), (1079, 27), (1079, 29), (1079, 30), (1079, 31), (1079, 32), (1079, 33), (1079, 34), (1079, 35), (1079, 37), (1079, 38), (1079, 39), (1079, 40), (1079, 41), (1079, 42), (1079, 61), (1079, 64), (1079, 65), (1079, 66), (1079, 67), (1079, 69), (1079, 70), (1079, 71), (1079, 89), (1079, 91), (1079, 94), (1079, 95), (1079, 96), (1079, 97), (1079, 100), (1079, 102), (1079, 103), (1079, 104), (1079, 105), (1079, 106), (1079, 109), (1079, 110), (1079, 112), (1079, 113)] [1081, 1082, 1083, 1084, 1085, 1086, 1088, 1089, 1090, 1091, 1092, 1093, 1094, 1095, 1096, 1097, 1098, 1099, 1100, 1101, 1102, 1103, 1104, 1105, 1106, 1107, 1108, 1109, 1110, 1111, 1112, 1113, 1114, 1115, 1116, 1117, 1118, 1119, 1120, 1121, 1122, 1123, 1124, 1125, 1126, 1127, 1128, 1129, 1130, 1131, 1132, 1133, 1134, 1135, 1136, 1138, 1139, 1140, 1141, 1142, 1143, 1156, 1157, 1160, 1166] [] [1141] s r.1 := by
  unfold fb_X12_deliver_146 at h
  by_cases c1 : b4 = true
  · replace h := uu_pos c1 h
    exact zb_X12_deliver_160  h
  · replace h := uu_neg c1 h
    exact zb_X12_deliver_160  h
set_option maxRecDepth 100000 in
set_option maxHeartbeats 4000000 in
theorem zb_X12_deliver_134     {b2 : Bool} {b3 : Bool} {bs0 : Bool} {s : uS} {r : (uS × Bool)}  (h : fb_X12_deliver_134   b2 b3 bs0 s = some r) : agf [(1079, 0), (1079, 2), (1079, 3), (1079, 14), (1079, 21), (1079, 23), (1079, 24), (1079, 25), (1079, 27), (1079, 29), (1079, 30), (1079, 31), (1079, 32), (1079, 33), (1079, 34), (1079, 35), (1079, 37), (1079, 38), (1079, 39), (1079, 40), (1079, 41), (1079, 42), (1079, 61), (1079, 64), (1079, 65), (1079, 66), (1079, 67), (1079, 69), (1079, 70), (1079, 71), (1079, 89), (1079, 91), (1079, 94), (1079, 95), (1079, 96), (1079, 97), (1079, 100), (1079, 102), (1079, 103), (1079, 104), (1079, 105), (1079, 106), (1079, 109), (1079, 110), (1079, 112), (1079, 113)] [1081, 1082, 1083, 1084, 1085, 1086, 1088, 1089, 1090, 1091, 1092, 1093, 1094, 1095, 1096, 1097, 1098, 1099, 1100, 1101, 1102, 1103, 1104, 1105, 1106, 1107, 1108, 1109, 1110, 1111, 1112, 1113, 1114, 1115, 1116, 1117, 1118, 1119, 1120, 1121, 1122, 1123, 1124, 1125, 1126, 1127, 1128, 1129, 1130, 1131, 1132, 1133, 1134, 1135, 1136, 1138, 1139, 1140, 1141, 1142, 1143, 1156, 1157, 1160, 1166] [] [1141] s r.1 := by
  unfold fb_X12_deliver_134 at h
  by_cases c1 : bs0 = true
  · replace h := uu_pos c1 h
    obtain ⟨s2, e3, h⟩ := uu_ob h
    refine ((zc_X12_writeLetter  e3).mo (by decide) (by decide) (by decide) (fun _ h => nomatch h)).tr ?_
    exact zb_X12_deliver_146  h
  · replace h := uu_neg c1 h
    exact zb_X12_deliver_146  h
set_option maxRecDepth 100000 in
set_option maxHeartbeats 4000000 in
theorem zb_X12_deliver_120     {b2 : Bool} {bs0 : Bool} {s : uS} {r : (uS × Bool)}  (h : fb_X12_deliver_120   b2 bs0 s = some r) : agf [(1079, 0), (1079, 2), (1079, 3), (1079, 14), (1079, 21), (1079, 23), (1079, 24), (1079, 25), (1079, 27), (1079, 29), (1079, 30), (1079, 31), (1079, 32), (1079, 33), (1079, 34), (1079, 35), (1079, 37), (1079, 38), (1079, 39), (1079, 40), (1079, 41), (1079, 42), (1079, 61), (1079, 64), (1079, 65), (1079, 66), (1079, 67), (1079, 69), (1079, 70), (1079, 71), (1079, 89), (1079, 91), (1079, 94), (1079, 95), (1079, 96), (1079, 97), (1079, 100), (1079, 102), (1079, 103), (1079, 104), (1079, 105), (1079, 106), (1079, 109), (1079, 110), (1079, 112), (1079, 113)] [1081, 1082, 1083, 1084, 1085, 1086, 1088, 1089, 1090, 1091, 1092, 1093, 1094, 1095, 1096, 1097, 1098, 1099, 1100, 1101, 1102, 1103, 1104, 1105, 1106, 1107, 1108, 1109, 1110, 1111, 1112, 1113, 1114, 1115, 1116, 1117, 1118, 1119, 1120, 1121, 1122, 1123, 1124, 1125, 1126, 1127, 1128, 1129, 1130, 1131, 1132, 1133, 1134, 1135, 1136, 1138, 1139, 1140, 1141, 1142, 1143, 1156, 1157, 1160, 1166] [] [1141] s r.1 := by
  unfold fb_X12_deliver_120 at h
  by_cases c1 : b2 = true
  · replace h := uu_pos c1 h
    exact zb_X12_deliver_134  h
  · replace h := uu_neg c1 h
    by_cases c2 : bs0 = true
    · replace h := uu_pos c2 h
      exact zb_X12_deliver_134  h
    · replace h := uu_neg c2 h
      exact zb_X12_deliver_134  h
set_option maxRecDepth 100000 in
set_option maxHeartbeats 4000000 in
theorem zb_X12_deliver_100     {bs0 : Bool} {s : uS} {r : (uS × Bool)}  (h : fb_X12_deliver_100   bs0 s = some r) : agf [(1079, 0), (1079, 2), (1079, 3), (1079, 14), (1079, 21), (1079, 23), (1079, 24), (1079, 25), (1079, 27), (1079, 29), (1079, 30), (1079, 31), (1079, 32), (1079, 33), (1079, 34), (1079, 35), (1079, 37), (1079, 38), (1079, 39), (1079, 40), (1079, 41), (1079, 42), (1079, 61), (1079, 64), (1079, 65), (1079, 66), (1079, 67), (1079, 69), (1079, 70), (1079, 71), (1079, 89), (1079, 91), (1079, 94), (1079, 95), (1079, 96), (1079, 97), (1079, 100), (1079, 102), (1079, 103), (1079, 104), (1079, 105), (1079, 106), (1079, 109), (1079, 110), (1079, 112), (1079, 113)] [1081, 1082, 1083, 1084, 1085, 1086, 1088, 1089, 1090, 1091, 1092, 1093, 1094, 1095, 1096, 1097, 1098, 1099, 1100, 1101, 1102, 1103, 1104, 1105, 1106, 1107, 1108, 1109, 1110, 1111, 1112, 1113, 1114, 1115, 1116, 1117, 1118, 1119, 1120, 1121, 1122, 1123, 1124, 1125, 1126, 1127, 1128, 1129, 1130, 1131, 1132, 1133, 1134, 1135, 1136, 1138, 1139, 1140, 1141, 1142, 1143, 1156, 1157, 1160, 1166] [] [1141] s r.1 := by
  unfold fb_X12_deliver_100 at h
  by_cases c1 : (s.I 1079 102) = 0
  · replace h := uu_pos c1 h
    obtain ⟨r2, e3, h⟩ := uu_ob h
    refine ((zc_X12_answers  e3).mo (by decide) (by decide) (by decide) (fun _ h => nomatch h)).tr ?_
    by_cases c4 : r2.2 = true
    · replace h := uu_pos c4 h
      exact zb_X12_deliver_120  h
    · replace h := uu_neg c4 h
      exact zb_X12_deliver_120  h
  · replace h := uu_neg c1 h
    exact zb_X12_deliver_120  h
set_option maxRecDepth 100000 in
set_option maxHeartbeats 4000000 in
theorem zb_X12_deliver_22  {K22 : Int32 → Int32 → uS → Option (uS × Bool)}  (hK22 : ∀ (x1 : Int32) (x2 : Int32)  (s : uS) (r : (uS × Bool)), K22 x1 x2 s = some r → agf [(1079, 0), (1079, 2), (1079, 3), (1079, 14), (1079, 21), (1079, 23), (1079, 24), (1079, 25), (1079, 27), (1079, 29), (1079, 30), (1079, 31), (1079, 32), (1079, 33), (1079, 34), (1079, 35), (1079, 37), (1079, 38), (1079, 39), (1079, 40), (1079, 41), (1079, 42), (1079, 61), (1079, 64), (1079, 65), (1079, 66), (1079, 67), (1079, 69), (1079, 70), (1079, 71), (1079, 89), (1079, 91), (1079, 94), (1079, 95), (1079, 96), (1079, 97), (1079, 100), (1079, 102), (1079, 103), (1079, 104), (1079, 105), (1079, 106), (1079, 109), (1079, 110), (1079, 112), (1079, 113)] [1081, 1082, 1083, 1084, 1085, 1086, 1088, 1089, 1090, 1091, 1092, 1093, 1094, 1095, 1096, 1097, 1098, 1099, 1100, 1101, 1102, 1103, 1104, 1105, 1106, 1107, 1108, 1109, 1110, 1111, 1112, 1113, 1114, 1115, 1116, 1117, 1118, 1119, 1120, 1121, 1122, 1123, 1124, 1125, 1126, 1127, 1128, 1129, 1130, 1131, 1132, 1133, 1134, 1135, 1136, 1138, 1139, 1140, 1141, 1142, 1143, 1156, 1157, 1160, 1166] [] [1141] s r.1) {x1 : Int32} {x2 : Int32} {s : uS} {r : (uS × Bool)}  (h : fb_X12_deliver_22  K22 x1 x2 s = some r) : agf [(1079, 0), (1079, 2), (1079, 3), (1079, 14), (1079, 21), (1079, 23), (1079, 24), (1079, 25), (1079, 27), (1079, 29), (1079, 30), (1079, 31), (1079, 32), (1079, 33), (1079, 34), (1079, 35), (1079, 37), (1079, 38), (1079, 39), (1079, 40), (1079, 41), (1079, 42), (1079, 61), (1079, 64), (1079, 65), (1079, 66), (1079, 67), (1079, 69), (1079, 70), (1079, 71), (1079, 89), (1079, 91), (1079, 94), (1079, 95), (1079, 96), (1079, 97), (1079, 100), (1079, 102), (1079, 103), (1079, 104), (1079, 105), (1079, 106), (1079, 109), (1079, 110), (1079, 112), (1079, 113)] [1081, 1082, 1083, 1084, 1085, 1086, 1088, 1089, 1090, 1091, 1092, 1093, 1094, 1095, 1096, 1097, 1098, 1099, 1100, 1101, 1102, 1103, 1104, 1105, 1106, 1107, 1108, 1109, 1110, 1111, 1112, 1113, 1114, 1115, 1116, 1117, 1118, 1119, 1120, 1121, 1122, 1123, 1124, 1125, 1126, 1127, 1128, 1129, 1130, 1131, 1132, 1133, 1134, 1135, 1136, 1138, 1139, 1140, 1141, 1142, 1143, 1156, 1157, 1160, 1166] [] [1141] s r.1 := by
  unfold fb_X12_deliver_22 at h
  by_cases c1 : (s.I 1079 91) ≤ x2
  · replace h := uu_pos c1 h
    by_cases c2 : (s.I 1079 13) ≤ 4000
    · replace h := uu_pos c2 h
      obtain ⟨s3, e4, h⟩ := uu_ob h
      refine ((zc_X12_readHeader  e4).mo (by decide) (by decide) (by decide) (fun _ h => nomatch h)).tr ?_
      obtain ⟨s5, e6, h⟩ := uu_ob h
      refine ((zc_X12_sortIt  e6).mo (by decide) (by decide) (by decide) (List.forall_mem_cons.mpr ⟨(Or.inr (List.mem_of_getElem? (i := 0) rfl)), fun _ h => nomatch h⟩)).tr ?_
      by_cases c7 : (s5.I 1079 102) ≤ 0
      · replace h := uu_pos c7 h
        exact zb_X12_deliver_100  h
      · replace h := uu_neg c7 h
        by_cases c8 : (s5.I 1079 93) ≤ 0
        · replace h := uu_pos c8 h
          exact zb_X12_deliver_100  h
        · replace h := uu_neg c8 h
          exact zb_X12_deliver_100  h
    · replace h := uu_neg c2 h
      obtain ⟨s10, e11, h⟩ := uu_ob h
      refine ((zc_X12_line  e11).mo (by decide) (by decide) (by decide) (fun _ h => nomatch h)).tr ?_
      have hr := Option.some.inj h
      subst hr
      exact agf.rf
  · replace h := uu_neg c1 h
    obtain ⟨v12, e13, h⟩ := uu_ob h
    obtain ⟨s14, e15, h⟩ := uu_ob h
    refine (agf_iput e15 (Or.inl (by decide))).tr ?_
    exact hK22 x1 (x2 + 1) _ _ h
set_option maxRecDepth 100000 in
set_option maxHeartbeats 4000000 in
theorem zn_X12_deliver_22     : ∀ (n : Nat) (x1 : Int32) (x2 : Int32)  (s : uS) (r : (uS × Bool)), fn_X12_deliver_22   n x1 x2 s = some r → agf [(1079, 0), (1079, 2), (1079, 3), (1079, 14), (1079, 21), (1079, 23), (1079, 24), (1079, 25), (1079, 27), (1079, 29), (1079, 30), (1079, 31), (1079, 32), (1079, 33), (1079, 34), (1079, 35), (1079, 37), (1079, 38), (1079, 39), (1079, 40), (1079, 41), (1079, 42), (1079, 61), (1079, 64), (1079, 65), (1079, 66), (1079, 67), (1079, 69), (1079, 70), (1079, 71), (1079, 89), (1079, 91), (1079, 94), (1079, 95), (1079, 96), (1079, 97), (1079, 100), (1079, 102), (1079, 103), (1079, 104), (1079, 105), (1079, 106), (1079, 109), (1079, 110), (1079, 112), (1079, 113)] [1081, 1082, 1083, 1084, 1085, 1086, 1088, 1089, 1090, 1091, 1092, 1093, 1094, 1095, 1096, 1097, 1098, 1099, 1100, 1101, 1102, 1103, 1104, 1105, 1106, 1107, 1108, 1109, 1110, 1111, 1112, 1113, 1114, 1115, 1116, 1117, 1118, 1119, 1120, 1121, 1122, 1123, 1124, 1125, 1126, 1127, 1128, 1129, 1130, 1131, 1132, 1133, 1134, 1135, 1136, 1138, 1139, 1140, 1141, 1142, 1143, 1156, 1157, 1160, 1166] [] [1141] s r.1 := by
  intro n
  induction n with
  | zero => intro x1 x2  s r h
            cases h
  | succ n ih => intro x1 x2  s r h
                 exact zb_X12_deliver_22  ih  h
set_option maxRecDepth 100000 in
set_option maxHeartbeats 4000000 in
theorem zc_X12_deliver   {x1 : Int32} {s : uS} {r : (uS × Bool)}  (h : fn_X12_deliver  x1 s = some r) : agf [(1079, 0), (1079, 2), (1079, 3), (1079, 14), (1079, 21), (1079, 23), (1079, 24), (1079, 25), (1079, 27), (1079, 29), (1079, 30), (1079, 31), (1079, 32), (1079, 33), (1079, 34), (1079, 35), (1079, 37), (1079, 38), (1079, 39), (1079, 40), (1079, 41), (1079, 42), (1079, 61), (1079, 64), (1079, 65), (1079, 66), (1079, 67), (1079, 69), (1079, 70), (1079, 71), (1079, 89), (1079, 91), (1079, 94), (1079, 95), (1079, 96), (1079, 97), (1079, 100), (1079, 102), (1079, 103), (1079, 104), (1079, 105), (1079, 106), (1079, 109), (1079, 110), (1079, 112), (1079, 113)] [1081, 1082, 1083, 1084, 1085, 1086, 1088, 1089, 1090, 1091, 1092, 1093, 1094, 1095, 1096, 1097, 1098, 1099, 1100, 1101, 1102, 1103, 1104, 1105, 1106, 1107, 1108, 1109, 1110, 1111, 1112, 1113, 1114, 1115, 1116, 1117, 1118, 1119, 1120, 1121, 1122, 1123, 1124, 1125, 1126, 1127, 1128, 1129, 1130, 1131, 1132, 1133, 1134, 1135, 1136, 1138, 1139, 1140, 1141, 1142, 1143, 1156, 1157, 1160, 1166] [] [1141] s r.1 := by
  unfold fn_X12_deliver at h
  obtain ⟨v1, e2, h⟩ := uu_ob h
  refine (agf_wI (a := 1079) (f := 89) (v := v1) (Or.inl (by decide))).tr ?_
  obtain ⟨v3, e4, h⟩ := uu_ob h
  refine (agf_wI (a := 1079) (f := 91) (v := v3) (Or.inl (by decide))).tr ?_
  exact zn_X12_deliver_22  _ _ _ _ _ h
