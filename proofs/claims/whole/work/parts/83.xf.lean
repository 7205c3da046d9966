set_option maxRecDepth 100000 in
set_option maxHeartbeats 4000000 in
theorem yb_X12_ordered_209     {x1 : Int32} {s : uS} {r : (uS × Bool)}  (h : fb_X12_ordered_209   x1 s = some r) : agr [11] [] s r.1 := by
  unfold fb_X12_ordered_209 at h
  obtain ⟨s2, e3, h⟩ := uu_ob h
  refine ((yc_X12_no  e3).mo (by decide) (fun _ h => nomatch h)).tr ?_
  have hr := Option.some.inj h
  subst hr
  exact agr.rf
set_option maxRecDepth 100000 in
set_option maxHeartbeats 4000000 in
theorem yb_X12_ordered_220     {x1 : Int32} {s : uS} {r : (uS × Bool)}  (h : fb_X12_ordered_220   x1 s = some r) : agr [11] [] s r.1 := by
  unfold fb_X12_ordered_220 at h
  obtain ⟨s2, e3, h⟩ := uu_ob h
  refine ((yc_X12_line  e3).mo (by decide) (fun _ h => nomatch h)).tr ?_
  have hr := Option.some.inj h
  subst hr
  exact agr.rf
set_option maxRecDepth 100000 in
set_option maxHeartbeats 4000000 in
theorem yb_X12_ordered_83     {x1 : Int32} {x2 : Int32} {bs0 : Bool} {s : uS} {r : (uS × Bool)}  (h : fb_X12_ordered_83   x1 x2 bs0 s = some r) : agr [11] [] s r.1 := by
  unfold fb_X12_ordered_83 at h
  by_cases c1 : bs0 = true
  · replace h := uu_pos c1 h
    by_cases c101_0 : x2 = 0
    · replace h := uu_pos c101_0 h
      obtain ⟨r2, e3, h⟩ := uu_ob h
      refine ((yc_X12_putScript  e3).mo (by decide) (fun _ h => nomatch h)).tr ?_
      have hr := Option.some.inj h
      subst hr
      exact agr.rf
    replace h := uu_neg c101_0 h
    by_cases c101_1 : x2 = 1
    · replace h := uu_pos c101_1 h
      obtain ⟨s4, e5, h⟩ := uu_ob h
      refine ((yc_X12_source  e5).mo (by decide) (fun _ h => nomatch h)).tr ?_
      obtain ⟨r6, e7, h⟩ := uu_ob h
      refine ((yc_X12_isScript  e7).mo (by decide) (fun _ h => nomatch h)).tr ?_
      by_cases c8 : r6.2 = true
      · replace h := uu_pos c8 h
        obtain ⟨s10, e11, h⟩ := uu_ob h
        refine ((yc_X12_line  e11).mo (by decide) (fun _ h => nomatch h)).tr ?_
        have hr := Option.some.inj h
        subst hr
        exact agr.rf
      · replace h := uu_neg c8 h
        have hr := Option.some.inj h
        subst hr
        exact agr.rf
    replace h := uu_neg c101_1 h
    by_cases c101_2 : x2 = 2
    · replace h := uu_pos c101_2 h
      obtain ⟨v12, e13, h⟩ := uu_ob h
      by_cases c14 : (2000 : Int32) < v12
      · replace h := uu_pos c14 h
        exact yb_X12_ordered_209  h
      · replace h := uu_neg c14 h
        obtain ⟨v15, e16, h⟩ := uu_ob h
        by_cases c17 : 0 ≤ v15
        · replace h := uu_pos c17 h
          exact yb_X12_ordered_220  h
        · replace h := uu_neg c17 h
          obtain ⟨v18, e19, h⟩ := uu_ob h
          by_cases c20 : v18 = 4
          · replace h := uu_pos c20 h
            exact yb_X12_ordered_209  h
          · replace h := uu_neg c20 h
            exact yb_X12_ordered_220  h
    replace h := uu_neg c101_2 h
    by_cases c101_3 : x2 = 3
    · replace h := uu_pos c101_3 h
      obtain ⟨r21, e22, h⟩ := uu_ob h
      refine ((yc_X12_setActive  e22).mo (by decide) (fun _ h => nomatch h)).tr ?_
      have hr := Option.some.inj h
      subst hr
      exact agr.rf
    replace h := uu_neg c101_3 h
    by_cases c101_4 : x2 = 4
    · replace h := uu_pos c101_4 h
      obtain ⟨r23, e24, h⟩ := uu_ob h
      refine ((yc_X12_getScript  e24).mo (by decide) (fun _ h => nomatch h)).tr ?_
      have hr := Option.some.inj h
      subst hr
      exact agr.rf
    replace h := uu_neg c101_4 h
    by_cases c101_5 : x2 = 5
    · replace h := uu_pos c101_5 h
      obtain ⟨r25, e26, h⟩ := uu_ob h
      refine ((yc_X12_listScripts  e26).mo (by decide) (fun _ h => nomatch h)).tr ?_
      have hr := Option.some.inj h
      subst hr
      exact agr.rf
    replace h := uu_neg c101_5 h
    by_cases c101_6 : x2 = 6
    · replace h := uu_pos c101_6 h
      obtain ⟨r27, e28, h⟩ := uu_ob h
      refine ((yc_X12_deleteScript  e28).mo (by decide) (fun _ h => nomatch h)).tr ?_
      have hr := Option.some.inj h
      subst hr
      exact agr.rf
    replace h := uu_neg c101_6 h
    by_cases c101_7 : x2 = 7
    · replace h := uu_pos c101_7 h
      obtain ⟨r29, e30, h⟩ := uu_ob h
      refine ((yc_X12_renameScript  e30).mo (by decide) (fun _ h => nomatch h)).tr ?_
      have hr := Option.some.inj h
      subst hr
      exact agr.rf
    replace h := uu_neg c101_7 h
    obtain ⟨s32, e33, h⟩ := uu_ob h
    refine ((yc_X12_line  e33).mo (by decide) (fun _ h => nomatch h)).tr ?_
    have hr := Option.some.inj h
    subst hr
    exact agr.rf
  · replace h := uu_neg c1 h
    obtain ⟨s35, e36, h⟩ := uu_ob h
    refine ((yc_X12_no  e36).mo (by decide) (fun _ h => nomatch h)).tr ?_
    have hr := Option.some.inj h
    subst hr
    exact agr.rf
set_option maxRecDepth 100000 in
set_option maxHeartbeats 4000000 in
theorem yb_X12_ordered_54     {x1 : Int32} {x2 : Int32} {s : uS} {r : (uS × Bool)}  (h : fb_X12_ordered_54   x1 x2 s = some r) : agr [11] [] s r.1 := by
  unfold fb_X12_ordered_54 at h
  obtain ⟨v1, e2, h⟩ := uu_ob h
  by_cases c3 : v1 = true
  · replace h := uu_pos c3 h
    by_cases c4 : x2 = 7
    · replace h := uu_pos c4 h
      obtain ⟨v5, e6, h⟩ := uu_ob h
      by_cases c7 : v5 = true
      · replace h := uu_pos c7 h
        exact yb_X12_ordered_83  h
      · replace h := uu_neg c7 h
        exact yb_X12_ordered_83  h
    · replace h := uu_neg c4 h
      exact yb_X12_ordered_83  h
  · replace h := uu_neg c3 h
    exact yb_X12_ordered_83  h
set_option maxRecDepth 100000 in
set_option maxHeartbeats 4000000 in
theorem yc_X12_ordered   {x1 : Int32} {s : uS} {r : (uS × Bool)}  (h : fn_X12_ordered  x1 s = some r) : agr [11] [] s r.1 := by
  unfold fn_X12_ordered at h
  obtain ⟨v1, e2, h⟩ := uu_ob h
  obtain ⟨v3, e4, h⟩ := uu_ob h
  obtain ⟨s5, e6, h⟩ := uu_ob h
  refine ((yc_X12_fresh  e6).mo (by decide) (fun _ h => nomatch h)).tr ?_
  by_cases c7 : v3 = true
  · replace h := uu_pos c7 h
    by_cases c8 : v1 = 1
    · replace h := uu_pos c8 h
      exact yb_X12_ordered_83  h
    · replace h := uu_neg c8 h
      by_cases c9 : v1 = 5
      · replace h := uu_pos c9 h
        exact yb_X12_ordered_83  h
      · replace h := uu_neg c9 h
        by_cases c10 : v1 = 8
        · replace h := uu_pos c10 h
          exact yb_X12_ordered_83  h
        · replace h := uu_neg c10 h
          by_cases c11 : v1 = 3
          · replace h := uu_pos c11 h
            obtain ⟨v12, e13, h⟩ := uu_ob h
            by_cases c14 : v12 = 0
            · replace h := uu_pos c14 h
              exact yb_X12_ordered_83  h
            · replace h := uu_neg c14 h
              exact yb_X12_ordered_54  h
          · replace h := uu_neg c11 h
            exact yb_X12_ordered_54  h
  · replace h := uu_neg c7 h
    exact yb_X12_ordered_83  h
set_option maxRecDepth 100000 in
set_option maxHeartbeats 4000000 in
theorem yb_X12_manageIn_277     {x1 : Int32} {x2 : Int32} {s : uS} {r : (uS × Bool)}  (h : fb_X12_manageIn_277   x1 x2 s = some r) : agr [11] [] s r.1 := by
  unfold fb_X12_manageIn_277 at h
  by_cases c1 : x2 = 13
  · replace h := uu_pos c1 h
    obtain ⟨s2, e3, h⟩ := uu_ob h
    refine (agr_iput e3 (Or.inl (by decide))).tr ?_
    have hr := Option.some.inj h
    subst hr
    exact agr.rf
  · replace h := uu_neg c1 h
    obtain ⟨s4, e5, h⟩ := uu_ob h
    refine (agr_iput e5 (Or.inl (by decide))).tr ?_
    have hr := Option.some.inj h
    subst hr
    exact agr.rf
set_option maxRecDepth 100000 in
set_option maxHeartbeats 4000000 in
theorem yc_X12_manageIn   {x1 : Int32} {x2 : Int32} {s : uS} {r : (uS × Bool)}  (h : fn_X12_manageIn  x1 x2 s = some r) : agr [11] [] s r.1 := by
  unfold fn_X12_manageIn at h
  obtain ⟨v1, e2, h⟩ := uu_ob h
  by_cases c6_0 : v1 = 0
  · replace h := uu_pos c6_0 h
    obtain ⟨r3, e4, h⟩ := uu_ob h
    refine ((yc_X12_wordIn  e4).mo (by decide) (fun _ h => nomatch h)).tr ?_
    have hr := Option.some.inj h
    subst hr
    exact agr.rf
  replace h := uu_neg c6_0 h
  by_cases c6_1 : v1 = 1
  · replace h := uu_pos c6_1 h
    obtain ⟨r5, e6, h⟩ := uu_ob h
    refine ((yc_X12_behindIn  e6).mo (by decide) (fun _ h => nomatch h)).tr ?_
    have hr := Option.some.inj h
    subst hr
    exact agr.rf
  replace h := uu_neg c6_1 h
  by_cases c6_2 : v1 = 2
  · replace h := uu_pos c6_2 h
    obtain ⟨r7, e8, h⟩ := uu_ob h
    refine ((yc_X12_beginIn  e8).mo (by decide) (fun _ h => nomatch h)).tr ?_
    have hr := Option.some.inj h
    subst hr
    exact agr.rf
  replace h := uu_neg c6_2 h
  by_cases c6_3 : v1 = 3
  · replace h := uu_pos c6_3 h
    obtain ⟨r9, e10, h⟩ := uu_ob h
    refine ((yc_X12_quotedIn  e10).mo (by decide) (fun _ h => nomatch h)).tr ?_
    have hr := Option.some.inj h
    subst hr
    exact agr.rf
  replace h := uu_neg c6_3 h
  by_cases c6_4 : v1 = 4
  · replace h := uu_pos c6_4 h
    obtain ⟨r11, e12, h⟩ := uu_ob h
    refine ((yc_X12_quotedIn  e12).mo (by decide) (fun _ h => nomatch h)).tr ?_
    have hr := Option.some.inj h
    subst hr
    exact agr.rf
  replace h := uu_neg c6_4 h
  by_cases c6_5 : v1 = 5
  · replace h := uu_pos c6_5 h
    obtain ⟨r13, e14, h⟩ := uu_ob h
    refine ((yc_X12_countIn  e14).mo (by decide) (fun _ h => nomatch h)).tr ?_
    have hr := Option.some.inj h
    subst hr
    exact agr.rf
  replace h := uu_neg c6_5 h
  by_cases c6_6 : v1 = 6
  · replace h := uu_pos c6_6 h
    by_cases c15 : x2 = 125
    · replace h := uu_pos c15 h
      obtain ⟨r16, e17, h⟩ := uu_ob h
      refine ((yc_X12_go  e17).mo (by decide) (fun _ h => nomatch h)).tr ?_
      have hr := Option.some.inj h
      subst hr
      exact agr.rf
    · replace h := uu_neg c15 h
      obtain ⟨r18, e19, h⟩ := uu_ob h
      refine ((yc_X12_pass  e19).mo (by decide) (fun _ h => nomatch h)).tr ?_
      have hr := Option.some.inj h
      subst hr
      exact agr.rf
  replace h := uu_neg c6_6 h
  by_cases c6_7 : v1 = 7
  · replace h := uu_pos c6_7 h
    by_cases c20 : x2 = 13
    · replace h := uu_pos c20 h
      obtain ⟨r21, e22, h⟩ := uu_ob h
      refine ((yc_X12_go  e22).mo (by decide) (fun _ h => nomatch h)).tr ?_
      have hr := Option.some.inj h
      subst hr
      exact agr.rf
    · replace h := uu_neg c20 h
      obtain ⟨r23, e24, h⟩ := uu_ob h
      refine ((yc_X12_pass  e24).mo (by decide) (fun _ h => nomatch h)).tr ?_
      have hr := Option.some.inj h
      subst hr
      exact agr.rf
  replace h := uu_neg c6_7 h
  by_cases c6_8 : v1 = 8
  · replace h := uu_pos c6_8 h
    by_cases c25 : x2 = 10
    · replace h := uu_pos c25 h
      obtain ⟨v26, e27, h⟩ := uu_ob h
      by_cases c28 : v26 ≤ 2000
      · replace h := uu_pos c28 h
        obtain ⟨v29, e30, h⟩ := uu_ob h
        by_cases c31 : v29 = 0
        · replace h := uu_pos c31 h
          obtain ⟨r32, e33, h⟩ := uu_ob h
          refine ((yc_X12_partDone  e33).mo (by decide) (fun _ h => nomatch h)).tr ?_
          have hr := Option.some.inj h
          subst hr
          exact agr.rf
        · replace h := uu_neg c31 h
          obtain ⟨r34, e35, h⟩ := uu_ob h
          refine ((yc_X12_go  e35).mo (by decide) (fun _ h => nomatch h)).tr ?_
          have hr := Option.some.inj h
          subst hr
          exact agr.rf
      · replace h := uu_neg c28 h
        obtain ⟨s37, e38, h⟩ := uu_ob h
        refine ((yc_X12_no  e38).mo (by decide) (fun _ h => nomatch h)).tr ?_
        obtain ⟨s39, e40, h⟩ := uu_ob h
        refine ((yc_X12_fresh  e40).mo (by decide) (fun _ h => nomatch h)).tr ?_
        have hr := Option.some.inj h
        subst hr
        exact agr.rf
    · replace h := uu_neg c25 h
      obtain ⟨r41, e42, h⟩ := uu_ob h
      refine ((yc_X12_pass  e42).mo (by decide) (fun _ h => nomatch h)).tr ?_
      have hr := Option.some.inj h
      subst hr
      exact agr.rf
  replace h := uu_neg c6_8 h
  by_cases c6_9 : v1 = 9
  · replace h := uu_pos c6_9 h
    obtain ⟨r43, e44, h⟩ := uu_ob h
    refine ((yc_X12_literalIn  e44).mo (by decide) (fun _ h => nomatch h)).tr ?_
    have hr := Option.some.inj h
    subst hr
    exact agr.rf
  replace h := uu_neg c6_9 h
  by_cases c6_10 : v1 = 10
  · replace h := uu_pos c6_10 h
    obtain ⟨r45, e46, h⟩ := uu_ob h
    refine ((yc_X12_numberIn  e46).mo (by decide) (fun _ h => nomatch h)).tr ?_
    have hr := Option.some.inj h
    subst hr
    exact agr.rf
  replace h := uu_neg c6_10 h
  by_cases c6_11 : v1 = 11
  · replace h := uu_pos c6_11 h
    by_cases c47 : x2 = 10
    · replace h := uu_pos c47 h
      obtain ⟨r48, e49, h⟩ := uu_ob h
      refine ((yc_X12_ordered  e49).mo (by decide) (fun _ h => nomatch h)).tr ?_
      have hr := Option.some.inj h
      subst hr
      exact agr.rf
    · replace h := uu_neg c47 h
      obtain ⟨r50, e51, h⟩ := uu_ob h
      refine ((yc_X12_pass  e51).mo (by decide) (fun _ h => nomatch h)).tr ?_
      have hr := Option.some.inj h
      subst hr
      exact agr.rf
  replace h := uu_neg c6_11 h
  by_cases c52 : x2 = 10
  · replace h := uu_pos c52 h
    obtain ⟨v53, e54, h⟩ := uu_ob h
    by_cases c55 : v53 = 0
    · replace h := uu_pos c55 h
      exact yb_X12_manageIn_277  h
    · replace h := uu_neg c55 h
      obtain ⟨s57, e58, h⟩ := uu_ob h
      refine ((yc_X12_no  e58).mo (by decide) (fun _ h => nomatch h)).tr ?_
      obtain ⟨s59, e60, h⟩ := uu_ob h
      refine ((yc_X12_fresh  e60).mo (by decide) (fun _ h => nomatch h)).tr ?_
      have hr := Option.some.inj h
      subst hr
      exact agr.rf
  · replace h := uu_neg c52 h
    exact yb_X12_manageIn_277  h
set_option maxRecDepth 100000 in
set_option maxHeartbeats 4000000 in
theorem yb_X12_manage_37  {K37 : Int32 → Int32 → Int32 → uS → Option (uS × Int32)}  (hK37 : ∀ (x1 : Int32) (x2 : Int32) (x3 : Int32)  (s : uS) (r : (uS × Int32)), K37 x1 x2 x3 s = some r → agr [11] [] s r.1) {x1 : Int32} {x2 : Int32} {x3 : Int32} {s : uS} {r : (uS × Int32)}  (h : fb_X12_manage_37  K37 x1 x2 x3 s = some r) : agr [11] [] s r.1 := by
  unfold fb_X12_manage_37 at h
  by_cases c1 : x2 ≤ x3
  · replace h := uu_pos c1 h
    have hr := Option.some.inj h
    subst hr
    exact agr.rf
  · replace h := uu_neg c1 h
    obtain ⟨v2, e3, h⟩ := uu_ob h
    obtain ⟨r4, e5, h⟩ := uu_ob h
    refine ((yc_X12_manageIn  e5).mo (by decide) (fun _ h => nomatch h)).tr ?_
    by_cases c6 : r4.2 = true
    · replace h := uu_pos c6 h
      exact hK37 x1 x2 (x3 + 1) _ _ h
    · replace h := uu_neg c6 h
      have hr := Option.some.inj h
      subst hr
      exact agr.rf
set_option maxRecDepth 100000 in
set_option maxHeartbeats 4000000 in
theorem yn_X12_manage_37     : ∀ (n : Nat) (x1 : Int32) (x2 : Int32) (x3 : Int32)  (s : uS) (r : (uS × Int32)), fn_X12_manage_37   n x1 x2 x3 s = some r → agr [11] [] s r.1 := by
  intro n
  induction n with
  | zero => intro x1 x2 x3  s r h
            cases h
  | succ n ih => intro x1 x2 x3  s r h
                 exact yb_X12_manage_37  ih  h
set_option maxRecDepth 100000 in
set_option maxHeartbeats 4000000 in
theorem yc_X12_manage   {x1 : Int32} {x2 : Int32} {s : uS} {r : (uS × Int32)}  (h : fn_X12_manage  x1 x2 s = some r) : agr [11] [] s r.1 := by
  unfold fn_X12_manage at h
  by_cases c1 : x1 < 0
  · replace h := uu_pos c1 h
    have hr := Option.some.inj h
    subst hr
    exact agr.rf
  · replace h := uu_neg c1 h
    by_cases c2 : (3 : Int32) < x1
    · replace h := uu_pos c2 h
      have hr := Option.some.inj h
      subst hr
      exact agr.rf
    · replace h := uu_neg c2 h
      by_cases c3 : (s.I 1079 0) = 0
      · replace h := uu_pos c3 h
        have hr := Option.some.inj h
        subst hr
        exact agr.rf
      · replace h := uu_neg c3 h
        by_cases c4 : x2 < 0
        · replace h := uu_pos c4 h
          have hr := Option.some.inj h
          subst hr
          exact agr.rf
        · replace h := uu_neg c4 h
          by_cases c5 : x2 ≤ (s.I 1079 5)
          · replace h := uu_pos c5 h
            refine (agr_wI (a := 1079) (f := 5) (v := 0) (Or.inl (by decide))).tr ?_
            exact yn_X12_manage_37  _ _ _ _ _ _ h
          · replace h := uu_neg c5 h
            have hr := Option.some.inj h
            subst hr
            exact agr.rf
