set_option maxRecDepth 100000 in
set_option maxHeartbeats 4000000 in
theorem zc_X9_clear   {k0 : Nat} {s : uS} {r : uS} (hk0 : uSo k0 9) (h : fn_X9_clear  k0 s = some r) : agf [] [] [] [k0] s r := by
  unfold fn_X9_clear at h
  refine (agf_wI (a := k0) (f := 3) (v := 0) (Or.inr (Or.inr (List.mem_of_getElem? (i := 0) rfl)))).tr ?_
  refine (agf_wI (a := k0) (f := 4) (v := 0) (Or.inr (Or.inr (List.mem_of_getElem? (i := 0) rfl)))).tr ?_
  refine (agf_wI (a := k0) (f := 5) (v := 0) (Or.inr (Or.inr (List.mem_of_getElem? (i := 0) rfl)))).tr ?_
  have hr := Option.some.inj h
  subst hr
  exact agf.rf
set_option maxRecDepth 100000 in
set_option maxHeartbeats 4000000 in
theorem zc_X0_close    {s : uS} {r : uS}  (h : fn_X0_close   s = some r) : agf [(1042, 4), (1042, 7), (1042, 8), (1042, 9), (1042, 10)] [] [] [1043, 1047] s r := by
  unfold fn_X0_close at h
  refine (agf_wI (a := 1042) (f := 4) (v := 0) (Or.inl (by decide))).tr ?_
  refine (agf_wI (a := 1042) (f := 10) (v := 0) (Or.inl (by decide))).tr ?_
  refine (agf_wI (a := 1042) (f := 9) (v := 0) (Or.inl (by decide))).tr ?_
  refine (agf_wI (a := 1042) (f := 7) (v := 0) (Or.inl (by decide))).tr ?_
  refine (agf_wI (a := 1042) (f := 8) (v := 0) (Or.inl (by decide))).tr ?_
  obtain ⟨s1, e2, h⟩ := uu_ob h
  refine ((zc_X9_clear so_1043 e2).mo (by decide) (by decide) (by decide) (List.forall_mem_cons.mpr ⟨(Or.inr (List.mem_of_getElem? (i := 0) rfl)), fun _ h => nomatch h⟩)).tr ?_
  obtain ⟨s3, e4, h⟩ := uu_ob h
  refine ((zc_X9_clear so_1047 e4).mo (by decide) (by decide) (by decide) (List.forall_mem_cons.mpr ⟨(Or.inr (List.mem_of_getElem? (i := 1) rfl)), fun _ h => nomatch h⟩)).tr ?_
  have hr := Option.some.inj h
  subst hr
  exact agf.rf
set_option maxRecDepth 100000 in
set_option maxHeartbeats 4000000 in
theorem zc_X5_put   {k0 : Nat} {x1 : Int32} {s : uS} {r : uS} (hk0 : uSo k0 5) (h : fn_X5_put  k0 x1 s = some r) : agf [] [] [] [k0 + 1, k0] s r := by
  unfold fn_X5_put at h
  by_cases c1 : (10000 : Int32) ≤ (s.I k0 2)
  · replace h := uu_pos c1 h
    have hr := Option.some.inj h
    subst hr
    exact agf.rf
  · replace h := uu_neg c1 h
    obtain ⟨s2, e3, h⟩ := uu_ob h
    refine (agf_iput e3 (Or.inr (Or.inr (List.mem_of_getElem? (i := 0) rfl)))).tr ?_
    refine (agf_wI (a := k0) (f := 2) (v := (s2.I k0 2) + 1) (Or.inr (Or.inr (List.mem_of_getElem? (i := 1) rfl)))).tr ?_
    have hr := Option.some.inj h
    subst hr
    exact agf.rf
set_option maxRecDepth 100000 in
set_option maxHeartbeats 4000000 in
theorem zb_X5_text_2  {K2 : Nat → List Nat → Int32 → uS → Option uS}  (hK2 : ∀ (k0 : Nat) (w1 : List Nat) (x2 : Int32) (hk0 : uSo k0 5) (s : uS) (r : uS), K2 k0 w1 x2 s = some r → agf [] [] [] [k0, k0 + 1] s r) {k0 : Nat} {w1 : List Nat} {x2 : Int32} {s : uS} {r : uS} (hk0 : uSo k0 5) (h : fb_X5_text_2  K2 k0 w1 x2 s = some r) : agf [] [] [] [k0, k0 + 1] s r := by
  unfold fb_X5_text_2 at h
  by_cases c1 : (nI w1.length) ≤ x2
  · replace h := uu_pos c1 h
    have hr := Option.some.inj h
    subst hr
    exact agf.rf
  · replace h := uu_neg c1 h
    obtain ⟨v2, e3, h⟩ := uu_ob h
    obtain ⟨s4, e5, h⟩ := uu_ob h
    refine ((zc_X5_put hk0 e5).mo (by decide) (by decide) (by decide) (List.forall_mem_cons.mpr ⟨(Or.inr (List.mem_of_getElem? (i := 1) rfl)), List.forall_mem_cons.mpr ⟨(Or.inr (List.mem_of_getElem? (i := 0) rfl)), fun _ h => nomatch h⟩⟩)).tr ?_
    exact hK2 k0 w1 (x2 + 1) hk0 _ _ h
set_option maxRecDepth 100000 in
set_option maxHeartbeats 4000000 in
theorem zn_X5_text_2     : ∀ (n : Nat) (k0 : Nat) (w1 : List Nat) (x2 : Int32) (hk0 : uSo k0 5) (s : uS) (r : uS), fn_X5_text_2   n k0 w1 x2 s = some r → agf [] [] [] [k0, k0 + 1] s r := by
  intro n
  induction n with
  | zero => intro k0 w1 x2 hk0 s r h
            cases h
  | succ n ih => intro k0 w1 x2 hk0 s r h
                 exact zb_X5_text_2  ih hk0 h
set_option maxRecDepth 100000 in
set_option maxHeartbeats 4000000 in
theorem zc_X5_text   {k0 : Nat} {w1 : List Nat} {s : uS} {r : uS} (hk0 : uSo k0 5) (h : fn_X5_text  k0 w1 s = some r) : agf [] [] [] [k0, k0 + 1] s r := by
  unfold fn_X5_text at h
  exact zn_X5_text_2  _ _ _ _ hk0 _ _ h
set_option maxRecDepth 100000 in
set_option maxHeartbeats 4000000 in
theorem zc_X5_line   {k0 : Nat} {w1 : List Nat} {s : uS} {r : uS} (hk0 : uSo k0 5) (h : fn_X5_line  k0 w1 s = some r) : agf [] [] [] [k0 + 1, k0] s r := by
  unfold fn_X5_line at h
  obtain ⟨s1, e2, h⟩ := uu_ob h
  refine ((zc_X5_text hk0 e2).mo (by decide) (by decide) (by decide) (List.forall_mem_cons.mpr ⟨(Or.inr (List.mem_of_getElem? (i := 1) rfl)), List.forall_mem_cons.mpr ⟨(Or.inr (List.mem_of_getElem? (i := 0) rfl)), fun _ h => nomatch h⟩⟩)).tr ?_
  obtain ⟨s3, e4, h⟩ := uu_ob h
  refine ((zc_X5_put hk0 e4).mo (by decide) (by decide) (by decide) (List.forall_mem_cons.mpr ⟨(Or.inr (List.mem_of_getElem? (i := 0) rfl)), List.forall_mem_cons.mpr ⟨(Or.inr (List.mem_of_getElem? (i := 1) rfl)), fun _ h => nomatch h⟩⟩)).tr ?_
  obtain ⟨s5, e6, h⟩ := uu_ob h
  refine ((zc_X5_put hk0 e6).mo (by decide) (by decide) (by decide) (List.forall_mem_cons.mpr ⟨(Or.inr (List.mem_of_getElem? (i := 0) rfl)), List.forall_mem_cons.mpr ⟨(Or.inr (List.mem_of_getElem? (i := 1) rfl)), fun _ h => nomatch h⟩⟩)).tr ?_
  have hr := Option.some.inj h
  subst hr
  exact agf.rf
set_option maxRecDepth 100000 in
set_option maxHeartbeats 4000000 in
theorem zc_X0_open    {s : uS} {r : uS}  (h : fn_X0_open   s = some r) : agf [(1042, 4), (1042, 7), (1042, 8), (1042, 9), (1042, 10)] [] [] [1047, 1043, 1040, 1041] s r := by
  unfold fn_X0_open at h
  obtain ⟨s1, e2, h⟩ := uu_ob h
  refine ((zc_X0_close  e2).mo (by decide) (by decide) (by decide) (List.forall_mem_cons.mpr ⟨(Or.inr (List.mem_of_getElem? (i := 1) rfl)), List.forall_mem_cons.mpr ⟨(Or.inr (List.mem_of_getElem? (i := 0) rfl)), fun _ h => nomatch h⟩⟩)).tr ?_
  refine (agf_wI (a := 1042) (f := 4) (v := 1) (Or.inl (by decide))).tr ?_
  obtain ⟨s4, e5, h⟩ := uu_ob h
  refine ((zc_X5_line so_1040 e5).mo (by decide) (by decide) (by decide) (List.forall_mem_cons.mpr ⟨(Or.inr (List.mem_of_getElem? (i := 3) rfl)), List.forall_mem_cons.mpr ⟨(Or.inr (List.mem_of_getElem? (i := 2) rfl)), fun _ h => nomatch h⟩⟩)).tr ?_
  have hr := Option.some.inj h
  subst hr
  exact agf.rf
set_option maxRecDepth 100000 in
set_option maxHeartbeats 4000000 in
theorem zc_X0_forget    {s : uS} {r : uS}  (h : fn_X0_forget   s = some r) : agf [] [] [] [1043, 1047] s r := by
  unfold fn_X0_forget at h
  obtain ⟨s1, e2, h⟩ := uu_ob h
  refine ((zc_X9_clear so_1043 e2).mo (by decide) (by decide) (by decide) (List.forall_mem_cons.mpr ⟨(Or.inr (List.mem_of_getElem? (i := 0) rfl)), fun _ h => nomatch h⟩)).tr ?_
  obtain ⟨s3, e4, h⟩ := uu_ob h
  refine ((zc_X9_clear so_1047 e4).mo (by decide) (by decide) (by decide) (List.forall_mem_cons.mpr ⟨(Or.inr (List.mem_of_getElem? (i := 1) rfl)), fun _ h => nomatch h⟩)).tr ?_
  have hr := Option.some.inj h
  subst hr
  exact agf.rf
set_option maxRecDepth 100000 in
set_option maxHeartbeats 4000000 in
theorem zb_X5_range_3  {K3 : Nat → Nat → Int32 → Int32 → uS → Option uS}  (hK3 : ∀ (k0 : Nat) (k1 : Nat) (x3 : Int32) (x4 : Int32) (hk0 : uSo k0 5) (s : uS) (r : uS), K3 k0 k1 x3 x4 s = some r → agf [] [] [] [k0, k0 + 1] s r) {k0 : Nat} {k1 : Nat} {x3 : Int32} {x4 : Int32} {s : uS} {r : uS} (hk0 : uSo k0 5) (h : fb_X5_range_3  K3 k0 k1 x3 x4 s = some r) : agf [] [] [] [k0, k0 + 1] s r := by
  unfold fb_X5_range_3 at h
  by_cases c1 : x3 ≤ x4
  · replace h := uu_pos c1 h
    have hr := Option.some.inj h
    subst hr
    exact agf.rf
  · replace h := uu_neg c1 h
    obtain ⟨v2, e3, h⟩ := uu_ob h
    obtain ⟨s4, e5, h⟩ := uu_ob h
    refine ((zc_X5_put hk0 e5).mo (by decide) (by decide) (by decide) (List.forall_mem_cons.mpr ⟨(Or.inr (List.mem_of_getElem? (i := 1) rfl)), List.forall_mem_cons.mpr ⟨(Or.inr (List.mem_of_getElem? (i := 0) rfl)), fun _ h => nomatch h⟩⟩)).tr ?_
    exact hK3 k0 k1 x3 (x4 + 1) hk0 _ _ h
set_option maxRecDepth 100000 in
set_option maxHeartbeats 4000000 in
theorem zn_X5_range_3     : ∀ (n : Nat) (k0 : Nat) (k1 : Nat) (x3 : Int32) (x4 : Int32) (hk0 : uSo k0 5) (s : uS) (r : uS), fn_X5_range_3   n k0 k1 x3 x4 s = some r → agf [] [] [] [k0, k0 + 1] s r := by
  intro n
  induction n with
  | zero => intro k0 k1 x3 x4 hk0 s r h
            cases h
  | succ n ih => intro k0 k1 x3 x4 hk0 s r h
                 exact zb_X5_range_3  ih hk0 h
set_option maxRecDepth 100000 in
set_option maxHeartbeats 4000000 in
theorem zc_X5_range   {k0 : Nat} {k1 : Nat} {x2 : Int32} {x3 : Int32} {s : uS} {r : uS} (hk0 : uSo k0 5) (h : fn_X5_range  k0 k1 x2 x3 s = some r) : agf [] [] [] [k0, k0 + 1] s r := by
  unfold fn_X5_range at h
  exact zn_X5_range_3  _ _ _ _ _ hk0 _ _ h
set_option maxRecDepth 100000 in
set_option maxHeartbeats 4000000 in
theorem zc_X0_answerDelivered   {x1 : Int32} {s : uS} {r : uS}  (h : fn_X0_answerDelivered  x1 s = some r) : agf [] [] [] [1041, 1040] s r := by
  unfold fn_X0_answerDelivered at h
  obtain ⟨s2, e3, h⟩ := uu_ob h
  refine ((zc_X5_text so_1040 e3).mo (by decide) (by decide) (by decide) (List.forall_mem_cons.mpr ⟨(Or.inr (List.mem_of_getElem? (i := 1) rfl)), List.forall_mem_cons.mpr ⟨(Or.inr (List.mem_of_getElem? (i := 0) rfl)), fun _ h => nomatch h⟩⟩)).tr ?_
  obtain ⟨v4, e5, h⟩ := uu_ob h
  obtain ⟨v6, e7, h⟩ := uu_ob h
  obtain ⟨s8, e9, h⟩ := uu_ob h
  refine ((zc_X5_range so_1040 e9).mo (by decide) (by decide) (by decide) (List.forall_mem_cons.mpr ⟨(Or.inr (List.mem_of_getElem? (i := 1) rfl)), List.forall_mem_cons.mpr ⟨(Or.inr (List.mem_of_getElem? (i := 0) rfl)), fun _ h => nomatch h⟩⟩)).tr ?_
  obtain ⟨s11, e12, h⟩ := uu_ob h
  refine ((zc_X5_line so_1040 e12).mo (by decide) (by decide) (by decide) (List.forall_mem_cons.mpr ⟨(Or.inr (List.mem_of_getElem? (i := 0) rfl)), List.forall_mem_cons.mpr ⟨(Or.inr (List.mem_of_getElem? (i := 1) rfl)), fun _ h => nomatch h⟩⟩)).tr ?_
  have hr := Option.some.inj h
  subst hr
  exact agf.rf
set_option maxRecDepth 100000 in
set_option maxHeartbeats 4000000 in
theorem zb_X0_takeInCommands_43     {x1 : Int32} {s : uS} {r : (uS × Int32)}  (h : fb_X0_takeInCommands_43   x1 s = some r) : agf [(1042, 7), (1042, 9)] [1052] [] [] s r.1 := by
  unfold fb_X0_takeInCommands_43 at h
  obtain ⟨v1, e2, h⟩ := uu_ob h
  refine (agf_wI (a := 1042) (f := 7) (v := if (v1 + 1) < ((s.I 1042 7) + 1) then (v1 + 1) else ((s.I 1042 7) + 1)) (Or.inl (by decide))).tr ?_
  by_cases c3 : x1 = 13
  · replace h := uu_pos c3 h
    refine (agf_wI (a := 1042) (f := 9) (v := 1) (Or.inl (by decide))).tr ?_
    have hr := Option.some.inj h
    subst hr
    exact agf.rf
  · replace h := uu_neg c3 h
    refine (agf_wI (a := 1042) (f := 9) (v := 0) (Or.inl (by decide))).tr ?_
    have hr := Option.some.inj h
    subst hr
    exact agf.rf
set_option maxRecDepth 100000 in
set_option maxHeartbeats 4000000 in
theorem zb_X0_takeInCommands_20     {x1 : Int32} {s : uS} {r : (uS × Int32)}  (h : fb_X0_takeInCommands_20   x1 s = some r) : agf [(1042, 7), (1042, 9)] [1052] [] [] s r.1 := by
  unfold fb_X0_takeInCommands_20 at h
  obtain ⟨v1, e2, h⟩ := uu_ob h
  by_cases c3 : v1 ≤ (s.I 1042 7)
  · replace h := uu_pos c3 h
    exact zb_X0_takeInCommands_43  h
  · replace h := uu_neg c3 h
    obtain ⟨s4, e5, h⟩ := uu_ob h
    refine (agf_iput e5 (Or.inl (by decide))).tr ?_
    exact zb_X0_takeInCommands_43  h
set_option maxRecDepth 100000 in
set_option maxHeartbeats 4000000 in
theorem zc_X0_takeInCommands   {x1 : Int32} {s : uS} {r : (uS × Int32)}  (h : fn_X0_takeInCommands  x1 s = some r) : agf [(1042, 7), (1042, 9)] [1052] [] [] s r.1 := by
  unfold fn_X0_takeInCommands at h
  by_cases c1 : x1 = 10
  · replace h := uu_pos c1 h
    by_cases c2 : (s.I 1042 9) = 0
    · replace h := uu_pos c2 h
      exact zb_X0_takeInCommands_20  h
    · replace h := uu_neg c2 h
      refine (agf_wI (a := 1042) (f := 9) (v := 0) (Or.inl (by decide))).tr ?_
      have hr := Option.some.inj h
      subst hr
      exact agf.rf
  · replace h := uu_neg c1 h
    exact zb_X0_takeInCommands_20  h
set_option maxRecDepth 100000 in
set_option maxHeartbeats 4000000 in
theorem zb_X0_addToText_21      {s : uS} {r : uS}  (h : fb_X0_addToText_21    s = some r) : agf [(1042, 3)] [1051] [] [] s r := by
  unfold fb_X0_addToText_21 at h
  refine (agf_wI (a := 1042) (f := 3) (v := if (4001 : Int32) < ((s.I 1042 3) + 1) then (4001 : Int32) else ((s.I 1042 3) + 1)) (Or.inl (by decide))).tr ?_
  have hr := Option.some.inj h
  subst hr
  exact agf.rf
set_option maxRecDepth 100000 in
set_option maxHeartbeats 4000000 in
theorem zc_X0_addToText   {x1 : Int32} {s : uS} {r : uS}  (h : fn_X0_addToText  x1 s = some r) : agf [(1042, 3)] [1051] [] [] s r := by
  unfold fn_X0_addToText at h
  by_cases c1 : (4000 : Int32) ≤ (s.I 1042 3)
  · replace h := uu_pos c1 h
    exact zb_X0_addToText_21  h
  · replace h := uu_neg c1 h
    obtain ⟨s2, e3, h⟩ := uu_ob h
    refine (agf_iput e3 (Or.inl (by decide))).tr ?_
    exact zb_X0_addToText_21  h
set_option maxRecDepth 100000 in
set_option maxHeartbeats 4000000 in
theorem zb_X0_takeInMessage_109     {x1 : Int32} {xs0 : Int32} {s : uS} {r : (uS × Int32)}  (h : fb_X0_takeInMessage_109   x1 xs0 s = some r) : agf [(1042, 3), (1042, 8), (1042, 9)] [1051] [] [] s r.1 := by
  unfold fb_X0_takeInMessage_109 at h
  refine (agf_wI (a := 1042) (f := 8) (v := xs0) (Or.inl (by decide))).tr ?_
  by_cases c1 : x1 = 13
  · replace h := uu_pos c1 h
    refine (agf_wI (a := 1042) (f := 9) (v := 1) (Or.inl (by decide))).tr ?_
    have hr := Option.some.inj h
    subst hr
    exact agf.rf
  · replace h := uu_neg c1 h
    refine (agf_wI (a := 1042) (f := 9) (v := 0) (Or.inl (by decide))).tr ?_
    have hr := Option.some.inj h
    subst hr
    exact agf.rf
set_option maxRecDepth 100000 in
set_option maxHeartbeats 4000000 in
theorem zb_X0_takeInMessage_85     {x1 : Int32} {s : uS} {r : (uS × Int32)}  (h : fb_X0_takeInMessage_85   x1 s = some r) : agf [(1042, 3), (1042, 8), (1042, 9)] [1051] [] [] s r.1 := by
  unfold fb_X0_takeInMessage_85 at h
  obtain ⟨s1, e2, h⟩ := uu_ob h
  refine ((zc_X0_addToText  e2).mo (by decide) (by decide) (by decide) (fun _ h => nomatch h)).tr ?_
  by_cases c3 : x1 = 10
  · replace h := uu_pos c3 h
    by_cases c4 : (s1.I 1042 9) = 0
    · replace h := uu_pos c4 h
      exact zb_X0_takeInMessage_109  h
    · replace h := uu_neg c4 h
      exact zb_X0_takeInMessage_109  h
  · replace h := uu_neg c3 h
    exact zb_X0_takeInMessage_109  h
set_option maxRecDepth 100000 in
set_option maxHeartbeats 4000000 in
theorem zc_X0_takeInMessage   {x1 : Int32} {s : uS} {r : (uS × Int32)}  (h : fn_X0_takeInMessage  x1 s = some r) : agf [(1042, 3), (1042, 8), (1042, 9)] [1051] [] [] s r.1 := by
  unfold fn_X0_takeInMessage at h
  by_cases c4_0 : (s.I 1042 8) = 1
  · replace h := uu_pos c4_0 h
    by_cases c1 : x1 = 46
    · replace h := uu_pos c1 h
      refine (agf_wI (a := 1042) (f := 8) (v := 2) (Or.inl (by decide))).tr ?_
      have hr := Option.some.inj h
      subst hr
      exact agf.rf
    · replace h := uu_neg c1 h
      exact zb_X0_takeInMessage_85  h
  replace h := uu_neg c4_0 h
  by_cases c4_1 : (s.I 1042 8) = 2
  · replace h := uu_pos c4_1 h
    by_cases c2 : x1 = 13
    · replace h := uu_pos c2 h
      refine (agf_wI (a := 1042) (f := 8) (v := 3) (Or.inl (by decide))).tr ?_
      have hr := Option.some.inj h
      subst hr
      exact agf.rf
    · replace h := uu_neg c2 h
      exact zb_X0_takeInMessage_85  h
  replace h := uu_neg c4_1 h
  by_cases c4_2 : (s.I 1042 8) = 3
  · replace h := uu_pos c4_2 h
    by_cases c3 : x1 = 10
    · replace h := uu_pos c3 h
      refine (agf_wI (a := 1042) (f := 8) (v := 0) (Or.inl (by decide))).tr ?_
      refine (agf_wI (a := 1042) (f := 9) (v := 0) (Or.inl (by decide))).tr ?_
      have hr := Option.some.inj h
      subst hr
      exact agf.rf
    · replace h := uu_neg c3 h
      obtain ⟨s4, e5, h⟩ := uu_ob h
      refine ((zc_X0_addToText  e5).mo (by decide) (by decide) (by decide) (fun _ h => nomatch h)).tr ?_
      exact zb_X0_takeInMessage_85  h
  replace h := uu_neg c4_2 h
  exact zb_X0_takeInMessage_85  h
set_option maxRecDepth 100000 in
set_option maxHeartbeats 4000000 in
theorem zc_X0_take   {x1 : Int32} {s : uS} {r : (uS × Int32)}  (h : fn_X0_take  x1 s = some r) : agf [(1042, 3), (1042, 7), (1042, 8), (1042, 9)] [1051, 1052] [] [] s r.1 := by
  unfold fn_X0_take at h
  by_cases c1 : (s.I 1042 4) = 0
  · replace h := uu_pos c1 h
    have hr := Option.some.inj h
    subst hr
    exact agf.rf
  · replace h := uu_neg c1 h
    by_cases c2 : (s.I 1042 8) = 0
    · replace h := uu_pos c2 h
      obtain ⟨r3, e4, h⟩ := uu_ob h
      refine ((zc_X0_takeInCommands  e4).mo (by decide) (by decide) (by decide) (fun _ h => nomatch h)).tr ?_
      have hr := Option.some.inj h
      subst hr
      exact agf.rf
    · replace h := uu_neg c2 h
      obtain ⟨r5, e6, h⟩ := uu_ob h
      refine ((zc_X0_takeInMessage  e6).mo (by decide) (by decide) (by decide) (fun _ h => nomatch h)).tr ?_
      have hr := Option.some.inj h
      subst hr
      exact agf.rf
set_option maxRecDepth 100000 in
set_option maxHeartbeats 4000000 in
theorem zc_X0_answerData    {s : uS} {r : uS}  (h : fn_X0_answerData   s = some r) : agf [(1042, 3), (1042, 8)] [] [] [1040, 1041] s r := by
  unfold fn_X0_answerData at h
  by_cases c1 : (s.I 1047 3) = 0
  · replace h := uu_pos c1 h
    obtain ⟨s3, e4, h⟩ := uu_ob h
    refine ((zc_X5_line so_1040 e4).mo (by decide) (by decide) (by decide) (List.forall_mem_cons.mpr ⟨(Or.inr (List.mem_of_getElem? (i := 1) rfl)), List.forall_mem_cons.mpr ⟨(Or.inr (List.mem_of_getElem? (i := 0) rfl)), fun _ h => nomatch h⟩⟩)).tr ?_
    have hr := Option.some.inj h
    subst hr
    exact agf.rf
  · replace h := uu_neg c1 h
    refine (agf_wI (a := 1042) (f := 8) (v := 1) (Or.inl (by decide))).tr ?_
    refine (agf_wI (a := 1042) (f := 3) (v := 0) (Or.inl (by decide))).tr ?_
    obtain ⟨s6, e7, h⟩ := uu_ob h
    refine ((zc_X5_line so_1040 e7).mo (by decide) (by decide) (by decide) (List.forall_mem_cons.mpr ⟨(Or.inr (List.mem_of_getElem? (i := 1) rfl)), List.forall_mem_cons.mpr ⟨(Or.inr (List.mem_of_getElem? (i := 0) rfl)), fun _ h => nomatch h⟩⟩)).tr ?_
    have hr := Option.some.inj h
    subst hr
    exact agf.rf
set_option maxRecDepth 100000 in
set_option maxHeartbeats 4000000 in
theorem zc_X0_answerBareWord   {x1 : Int32} {s : uS} {r : uS}  (h : fn_X0_answerBareWord  x1 s = some r) : agf [(1042, 3), (1042, 4), (1042, 7), (1042, 8), (1042, 9), (1042, 10)] [] [] [1041, 1040, 1047, 1043] s r := by
  unfold fn_X0_answerBareWord at h
  by_cases c1 : x1 = 3
  · replace h := uu_pos c1 h
    obtain ⟨s2, e3, h⟩ := uu_ob h
    refine ((zc_X0_answerData  e3).mo (by decide) (by decide) (by decide) (List.forall_mem_cons.mpr ⟨(Or.inr (List.mem_of_getElem? (i := 1) rfl)), List.forall_mem_cons.mpr ⟨(Or.inr (List.mem_of_getElem? (i := 0) rfl)), fun _ h => nomatch h⟩⟩)).tr ?_
    have hr := Option.some.inj h
    subst hr
    exact agf.rf
  · replace h := uu_neg c1 h
    by_cases c4 : x1 = 4
    · replace h := uu_pos c4 h
      obtain ⟨s5, e6, h⟩ := uu_ob h
      refine ((zc_X0_forget  e6).mo (by decide) (by decide) (by decide) (List.forall_mem_cons.mpr ⟨(Or.inr (List.mem_of_getElem? (i := 3) rfl)), List.forall_mem_cons.mpr ⟨(Or.inr (List.mem_of_getElem? (i := 2) rfl)), fun _ h => nomatch h⟩⟩)).tr ?_
      obtain ⟨s8, e9, h⟩ := uu_ob h
      refine ((zc_X5_line so_1040 e9).mo (by decide) (by decide) (by decide) (List.forall_mem_cons.mpr ⟨(Or.inr (List.mem_of_getElem? (i := 0) rfl)), List.forall_mem_cons.mpr ⟨(Or.inr (List.mem_of_getElem? (i := 1) rfl)), fun _ h => nomatch h⟩⟩)).tr ?_
      have hr := Option.some.inj h
      subst hr
      exact agf.rf
    · replace h := uu_neg c4 h
      by_cases c10 : x1 = 5
      · replace h := uu_pos c10 h
        obtain ⟨s12, e13, h⟩ := uu_ob h
        refine ((zc_X5_line so_1040 e13).mo (by decide) (by decide) (by decide) (List.forall_mem_cons.mpr ⟨(Or.inr (List.mem_of_getElem? (i := 0) rfl)), List.forall_mem_cons.mpr ⟨(Or.inr (List.mem_of_getElem? (i := 1) rfl)), fun _ h => nomatch h⟩⟩)).tr ?_
        have hr := Option.some.inj h
        subst hr
        exact agf.rf
      · replace h := uu_neg c10 h
        obtain ⟨s14, e15, h⟩ := uu_ob h
        refine ((zc_X0_close  e15).mo (by decide) (by decide) (by decide) (List.forall_mem_cons.mpr ⟨(Or.inr (List.mem_of_getElem? (i := 3) rfl)), List.forall_mem_cons.mpr ⟨(Or.inr (List.mem_of_getElem? (i := 2) rfl)), fun _ h => nomatch h⟩⟩)).tr ?_
        obtain ⟨s17, e18, h⟩ := uu_ob h
        refine ((zc_X5_line so_1040 e18).mo (by decide) (by decide) (by decide) (List.forall_mem_cons.mpr ⟨(Or.inr (List.mem_of_getElem? (i := 0) rfl)), List.forall_mem_cons.mpr ⟨(Or.inr (List.mem_of_getElem? (i := 1) rfl)), fun _ h => nomatch h⟩⟩)).tr ?_
        have hr := Option.some.inj h
        subst hr
        exact agf.rf
set_option maxRecDepth 100000 in
set_option maxHeartbeats 4000000 in
theorem zb_X0_isSize_39  {K39 : Int32 → Int32 → Int32 → uS → Option (uS × Bool)}  (hK39 : ∀ (x2 : Int32) (x4 : Int32) (x5 : Int32)  (s : uS) (r : (uS × Bool)), K39 x2 x4 x5 s = some r → agf [(1042, 11)] [] [] [] s r.1) {x2 : Int32} {x4 : Int32} {x5 : Int32} {s : uS} {r : (uS × Bool)}  (h : fb_X0_isSize_39  K39 x2 x4 x5 s = some r) : agf [(1042, 11)] [] [] [] s r.1 := by
  unfold fb_X0_isSize_39 at h
  by_cases c1 : x2 ≤ x5
  · replace h := uu_pos c1 h
    by_cases c2 : (s.I 1042 11) = 0
    · replace h := uu_pos c2 h
      by_cases c3 : x4 ≤ 4000
      · replace h := uu_pos c3 h
        refine (agf_wI (a := 1042) (f := 11) (v := 0) (Or.inl (by decide))).tr ?_
        have hr := Option.some.inj h
        subst hr
        exact agf.rf
      · replace h := uu_neg c3 h
        refine (agf_wI (a := 1042) (f := 11) (v := 1) (Or.inl (by decide))).tr ?_
        have hr := Option.some.inj h
        subst hr
        exact agf.rf
    · replace h := uu_neg c2 h
      refine (agf_wI (a := 1042) (f := 11) (v := 1) (Or.inl (by decide))).tr ?_
      have hr := Option.some.inj h
      subst hr
      exact agf.rf
  · replace h := uu_neg c1 h
    obtain ⟨v4, e5, h⟩ := uu_ob h
    obtain ⟨v6, e7, h⟩ := uu_ob h
    by_cases c8 : v6 = true
    · replace h := uu_pos c8 h
      obtain ⟨v9, e10, h⟩ := uu_ob h
      exact hK39 x2 (((x4 * 10) + v9) - 48) (x5 + 1) _ _ h
    · replace h := uu_neg c8 h
      have hr := Option.some.inj h
      subst hr
      exact agf.rf
set_option maxRecDepth 100000 in
set_option maxHeartbeats 4000000 in
theorem zn_X0_isSize_39     : ∀ (n : Nat) (x2 : Int32) (x4 : Int32) (x5 : Int32)  (s : uS) (r : (uS × Bool)), fn_X0_isSize_39   n x2 x4 x5 s = some r → agf [(1042, 11)] [] [] [] s r.1 := by
  intro n
  induction n with
  | zero => intro x2 x4 x5  s r h
            cases h
  | succ n ih => intro x2 x4 x5  s r h
                 exact zb_X0_isSize_39  ih  h
set_option maxRecDepth 100000 in
set_option maxHeartbeats 4000000 in
theorem zc_X0_isSize   {x1 : Int32} {x2 : Int32} {s : uS} {r : (uS × Bool)}  (h : fn_X0_isSize  x1 x2 s = some r) : agf [(1042, 11)] [] [] [] s r.1 := by
  unfold fn_X0_isSize at h
  by_cases c1 : x2 ≤ (x1 + 5)
  · replace h := uu_pos c1 h
    have hr := Option.some.inj h
    subst hr
    exact agf.rf
  · replace h := uu_neg c1 h
    by_cases c2 : (9 : Int32) < (x2 - (x1 + 5))
    · replace h := uu_pos c2 h
      have hr := Option.some.inj h
      subst hr
      exact agf.rf
    · replace h := uu_neg c2 h
      obtain ⟨v4, e5, h⟩ := uu_ob h
      by_cases c6 : v4 = 0
      · replace h := uu_pos c6 h
        exact zn_X0_isSize_39  _ _ _ _ _ _ h
      · replace h := uu_neg c6 h
        have hr := Option.some.inj h
        subst hr
        exact agf.rf
set_option maxRecDepth 100000 in
set_option maxHeartbeats 4000000 in
theorem zb_X0_areOptions_62  {K7 : Int32 → Int32 → uS → Option (uS × Bool)}  (hK7 : ∀ (x2 : Int32) (x3 : Int32)  (s : uS) (r : (uS × Bool)), K7 x2 x3 s = some r → agf [(1042, 11)] [] [] [] s r.1) {x2 : Int32} {x3 : Int32} {x5 : Int32} {bs0 : Bool} {s : uS} {r : (uS × Bool)}  (h : fb_X0_areOptions_62  K7 x2 x3 x5 bs0 s = some r) : agf [(1042, 11)] [] [] [] s r.1 := by
  unfold fb_X0_areOptions_62 at h
  obtain ⟨v1, e2, h⟩ := uu_ob h
  by_cases c3 : v1 = 32
  · replace h := uu_pos c3 h
    by_cases c4 : bs0 = true
    · replace h := uu_pos c4 h
      exact hK7 x2 x5 _ _ h
    · replace h := uu_neg c4 h
      obtain ⟨r5, e6, h⟩ := uu_ob h
      refine ((zc_X0_isSize  e6).mo (by decide) (by decide) (by decide) (fun _ h => nomatch h)).tr ?_
      by_cases c7 : r5.2 = true
      · replace h := uu_pos c7 h
        exact hK7 x2 x5 _ _ h
      · replace h := uu_neg c7 h
        have hr := Option.some.inj h
        subst hr
        exact agf.rf
  · replace h := uu_neg c3 h
    have hr := Option.some.inj h
    subst hr
    exact agf.rf
set_option maxRecDepth 100000 in
set_option maxHeartbeats 4000000 in
theorem zb_X0_areOptions_38  {K7 : Int32 → Int32 → uS → Option (uS × Bool)}  (hK7 : ∀ (x2 : Int32) (x3 : Int32)  (s : uS) (r : (uS × Bool)), K7 x2 x3 s = some r → agf [(1042, 11)] [] [] [] s r.1) {x2 : Int32} {x3 : Int32} {xs0 : Int32} {s : uS} {r : (uS × Bool)}  (h : fb_X0_areOptions_38  K7 x2 x3 xs0 s = some r) : agf [(1042, 11)] [] [] [] s r.1 := by
  unfold fb_X0_areOptions_38 at h
  obtain ⟨v2, e3, h⟩ := uu_ob h
  by_cases c4 : v2 = 0
  · replace h := uu_pos c4 h
    exact zb_X0_areOptions_62 hK7 h
  · replace h := uu_neg c4 h
    exact zb_X0_areOptions_62 hK7 h
set_option maxRecDepth 100000 in
set_option maxHeartbeats 4000000 in
theorem zb_X0_areOptions_7  {K7 : Int32 → Int32 → uS → Option (uS × Bool)}  (hK7 : ∀ (x2 : Int32) (x3 : Int32)  (s : uS) (r : (uS × Bool)), K7 x2 x3 s = some r → agf [(1042, 11)] [] [] [] s r.1) {x2 : Int32} {x3 : Int32} {s : uS} {r : (uS × Bool)}  (h : fb_X0_areOptions_7  K7 x2 x3 s = some r) : agf [(1042, 11)] [] [] [] s r.1 := by
  unfold fb_X0_areOptions_7 at h
  by_cases c1 : x2 ≤ x3
  · replace h := uu_pos c1 h
    have hr := Option.some.inj h
    subst hr
    exact agf.rf
  · replace h := uu_neg c1 h
    obtain ⟨v2, e3, h⟩ := uu_ob h
    by_cases c4 : 0 ≤ v2
    · replace h := uu_pos c4 h
      exact zb_X0_areOptions_38 hK7 h
    · replace h := uu_neg c4 h
      exact zb_X0_areOptions_38 hK7 h
set_option maxRecDepth 100000 in
set_option maxHeartbeats 4000000 in
theorem zn_X0_areOptions_7     : ∀ (n : Nat) (x2 : Int32) (x3 : Int32)  (s : uS) (r : (uS × Bool)), fn_X0_areOptions_7   n x2 x3 s = some r → agf [(1042, 11)] [] [] [] s r.1 := by
  intro n
  induction n with
  | zero => intro x2 x3  s r h
            cases h
  | succ n ih => intro x2 x3  s r h
                 exact zb_X0_areOptions_7  ih  h
set_option maxRecDepth 100000 in
set_option maxHeartbeats 4000000 in
theorem zc_X0_areOptions   {x1 : Int32} {x2 : Int32} {s : uS} {r : (uS × Bool)}  (h : fn_X0_areOptions  x1 x2 s = some r) : agf [(1042, 11)] [] [] [] s r.1 := by
  unfold fn_X0_areOptions at h
  refine (agf_wI (a := 1042) (f := 11) (v := 0) (Or.inl (by decide))).tr ?_
  exact zn_X0_areOptions_7  _ _ _ _ _ h
set_option maxRecDepth 100000 in
set_option maxHeartbeats 4000000 in
theorem zc_X2_open   {k1 : Nat} {x2 : Int32} {x3 : Int32} {s : uS} {r : uS}  (h : fn_X2_open  k1 x2 x3 s = some r) : agf [(7, 1), (7, 4), (7, 5), (7, 8)] [] [] [8] s r := by
  unfold fn_X2_open at h
  refine (agf_wR (a := 7) (f := 1) (v := (some k1)) (Or.inl (by decide))).tr ?_
  refine (agf_wI (a := 7) (f := 4) (v := x2) (Or.inl (by decide))).tr ?_
  refine (agf_wI (a := 7) (f := 8) (v := x2) (Or.inl (by decide))).tr ?_
  refine (agf_wI (a := 7) (f := 5) (v := x3) (Or.inl (by decide))).tr ?_
  obtain ⟨s1, e2, h⟩ := uu_ob h
  refine ((zc_X9_clear so_8 e2).mo (by decide) (by decide) (by decide) (List.forall_mem_cons.mpr ⟨(Or.inr (List.mem_of_getElem? (i := 0) rfl)), fun _ h => nomatch h⟩)).tr ?_
  have hr := Option.some.inj h
  subst hr
  exact agf.rf
set_option maxRecDepth 100000 in
set_option maxHeartbeats 4000000 in
theorem zb_X2_skipBetween_45  {K0 : uS → Option (uS × Bool)}  (hK0 : ∀   (s : uS) (r : (uS × Bool)), K0  s = some r → agf [(7, 6), (7, 8)] [] [] [] s r.1)  {s : uS} {r : (uS × Bool)}  (h : fb_X2_skipBetween_45  K0  s = some r) : agf [(7, 6), (7, 8)] [] [] [] s r.1 := by
  unfold fb_X2_skipBetween_45 at h
  refine (agf_wI (a := 7) (f := 8) (v := (s.I 7 8) + 1) (Or.inl (by decide))).tr ?_
  exact hK0  _ _ h
set_option maxRecDepth 100000 in
set_option maxHeartbeats 4000000 in
theorem zb_X2_skipBetween_0  {K0 : uS → Option (uS × Bool)}  (hK0 : ∀   (s : uS) (r : (uS × Bool)), K0  s = some r → agf [(7, 6), (7, 8)] [] [] [] s r.1)  {s : uS} {r : (uS × Bool)}  (h : fb_X2_skipBetween_0  K0  s = some r) : agf [(7, 6), (7, 8)] [] [] [] s r.1 := by
  unfold fb_X2_skipBetween_0 at h
  by_cases c1 : (s.I 7 5) ≤ (s.I 7 8)
  · replace h := uu_pos c1 h
    have hr := Option.some.inj h
    subst hr
    exact agf.rf
  · replace h := uu_neg c1 h
    obtain ⟨j2, e3, h⟩ := uu_ob h
    obtain ⟨v4, e5, h⟩ := uu_ob h
    by_cases c6 : v4 = 9
    · replace h := uu_pos c6 h
      exact zb_X2_skipBetween_45 hK0 h
    · replace h := uu_neg c6 h
      by_cases c7 : v4 = 10
      · replace h := uu_pos c7 h
        exact zb_X2_skipBetween_45 hK0 h
      · replace h := uu_neg c7 h
        by_cases c8 : v4 = 13
        · replace h := uu_pos c8 h
          exact zb_X2_skipBetween_45 hK0 h
        · replace h := uu_neg c8 h
          by_cases c9 : v4 = 32
          · replace h := uu_pos c9 h
            exact zb_X2_skipBetween_45 hK0 h
          · replace h := uu_neg c9 h
            by_cases c10 : v4 = 35
            · replace h := uu_pos c10 h
              obtain ⟨j11, e12, h⟩ := uu_ob h
              obtain ⟨v13, e14, h⟩ := uu_ob h
              by_cases c15 : 0 ≤ v13
              · replace h := uu_pos c15 h
                refine (agf_wI (a := 7) (f := 8) (v := v13) (Or.inl (by decide))).tr ?_
                exact hK0  _ _ h
              · replace h := uu_neg c15 h
                refine (agf_wI (a := 7) (f := 8) (v := s.I 7 5) (Or.inl (by decide))).tr ?_
                exact hK0  _ _ h
            · replace h := uu_neg c10 h
              by_cases c16 : v4 = 47
              · replace h := uu_pos c16 h
                obtain ⟨v17, e18, h⟩ := uu_ob h
                by_cases c19 : v17 = 42
                · replace h := uu_pos c19 h
                  refine (agf_wI (a := 7) (f := 6) (v := s.I 7 8) (Or.inl (by decide))).tr ?_
                  obtain ⟨v20, e21, h⟩ := uu_ob h
                  refine (agf_wI (a := 7) (f := 8) (v := v20) (Or.inl (by decide))).tr ?_
                  by_cases c22 : 0 ≤ ((wI (wI s 7 6 (s.I 7 8)) 7 8 v20).I 7 8)
                  · replace h := uu_pos c22 h
                    exact hK0  _ _ h
                  · replace h := uu_neg c22 h
                    have hr := Option.some.inj h
                    subst hr
                    exact agf.rf
                · replace h := uu_neg c19 h
                  have hr := Option.some.inj h
                  subst hr
                  exact agf.rf
              · replace h := uu_neg c16 h
                have hr := Option.some.inj h
                subst hr
                exact agf.rf
set_option maxRecDepth 100000 in
set_option maxHeartbeats 4000000 in
theorem zn_X2_skipBetween_0     : ∀ (n : Nat)   (s : uS) (r : (uS × Bool)), fn_X2_skipBetween_0   n  s = some r → agf [(7, 6), (7, 8)] [] [] [] s r.1 := by
  intro n
  induction n with
  | zero => intro   s r h
            cases h
  | succ n ih => intro   s r h
                 exact zb_X2_skipBetween_0  ih  h
set_option maxRecDepth 100000 in
set_option maxHeartbeats 4000000 in
theorem zc_X2_skipBetween    {s : uS} {r : (uS × Bool)}  (h : fn_X2_skipBetween   s = some r) : agf [(7, 6), (7, 8)] [] [] [] s r.1 := by
  unfold fn_X2_skipBetween at h
  exact zn_X2_skipBetween_0  _ _ _ h
set_option maxRecDepth 100000 in
set_option maxHeartbeats 4000000 in
theorem zb_X2_readWord_47  {K10 : Int32 → uS → Option uS}  (hK10 : ∀ (x2 : Int32)  (s : uS) (r : uS), K10 x2 s = some r → agf [(7, 2), (7, 7), (7, 8)] [] [] [] s r) {x2 : Int32} {s : uS} {r : uS}  (h : fb_X2_readWord_47  K10 x2 s = some r) : agf [(7, 2), (7, 7), (7, 8)] [] [] [] s r := by
  unfold fb_X2_readWord_47 at h
  refine (agf_wI (a := 7) (f := 8) (v := (s.I 7 8) + 1) (Or.inl (by decide))).tr ?_
  exact hK10 x2 _ _ h
set_option maxRecDepth 100000 in
set_option maxHeartbeats 4000000 in
theorem zb_X2_readWord_10  {K10 : Int32 → uS → Option uS}  (hK10 : ∀ (x2 : Int32)  (s : uS) (r : uS), K10 x2 s = some r → agf [(7, 2), (7, 7), (7, 8)] [] [] [] s r) {x2 : Int32} {s : uS} {r : uS}  (h : fb_X2_readWord_10  K10 x2 s = some r) : agf [(7, 2), (7, 7), (7, 8)] [] [] [] s r := by
  unfold fb_X2_readWord_10 at h
  by_cases c1 : (s.I 7 5) ≤ (s.I 7 8)
  · replace h := uu_pos c1 h
    refine (agf_wI (a := 7) (f := 2) (v := x2) (Or.inl (by decide))).tr ?_
    have hr := Option.some.inj h
    subst hr
    exact agf.rf
  · replace h := uu_neg c1 h
    obtain ⟨v2, e3, h⟩ := uu_ob h
    by_cases c4 : v2 = true
    · replace h := uu_pos c4 h
      exact zb_X2_readWord_47 hK10 h
    · replace h := uu_neg c4 h
      obtain ⟨j5, e6, h⟩ := uu_ob h
      obtain ⟨v7, e8, h⟩ := uu_ob h
      obtain ⟨v9, e10, h⟩ := uu_ob h
      by_cases c11 : v9 = true
      · replace h := uu_pos c11 h
        exact zb_X2_readWord_47 hK10 h
      · replace h := uu_neg c11 h
        refine (agf_wI (a := 7) (f := 2) (v := x2) (Or.inl (by decide))).tr ?_
        have hr := Option.some.inj h
        subst hr
        exact agf.rf
set_option maxRecDepth 100000 in
set_option maxHeartbeats 4000000 in
theorem zn_X2_readWord_10     : ∀ (n : Nat) (x2 : Int32)  (s : uS) (r : uS), fn_X2_readWord_10   n x2 s = some r → agf [(7, 2), (7, 7), (7, 8)] [] [] [] s r := by
  intro n
  induction n with
  | zero => intro x2  s r h
            cases h
  | succ n ih => intro x2  s r h
                 exact zb_X2_readWord_10  ih  h
set_option maxRecDepth 100000 in
set_option maxHeartbeats 4000000 in
theorem zc_X2_readWord   {x1 : Int32} {x2 : Int32} {s : uS} {r : uS}  (h : fn_X2_readWord  x1 x2 s = some r) : agf [(7, 2), (7, 7), (7, 8)] [] [] [] s r := by
  unfold fn_X2_readWord at h
  refine (agf_wI (a := 7) (f := 7) (v := x1) (Or.inl (by decide))).tr ?_
  refine (agf_wI (a := 7) (f := 8) (v := x1) (Or.inl (by decide))).tr ?_
  exact zn_X2_readWord_10  _ _ _ _ h
set_option maxRecDepth 100000 in
set_option maxHeartbeats 4000000 in
theorem zc_X9_close   {k0 : Nat} {s : uS} {r : uS} (hk0 : uSo k0 9) (h : fn_X9_close  k0 s = some r) : agf [] [] [] [k0, k0 + 2, k0 + 3] s r := by
  unfold fn_X9_close at h
  obtain ⟨v1, e2, h⟩ := uu_ob h
  by_cases c3 : v1 ≤ (s.I k0 3)
  · replace h := uu_pos c3 h
    refine (agf_wI (a := k0) (f := 4) (v := s.I k0 5) (Or.inr (Or.inr (List.mem_of_getElem? (i := 0) rfl)))).tr ?_
    have hr := Option.some.inj h
    subst hr
    exact agf.rf
  · replace h := uu_neg c3 h
    obtain ⟨s4, e5, h⟩ := uu_ob h
    refine (agf_iput e5 (Or.inr (Or.inr (List.mem_of_getElem? (i := 1) rfl)))).tr ?_
    obtain ⟨s6, e7, h⟩ := uu_ob h
    refine (agf_iput e7 (Or.inr (Or.inr (List.mem_of_getElem? (i := 2) rfl)))).tr ?_
    refine (agf_wI (a := k0) (f := 3) (v := (s6.I k0 3) + 1) (Or.inr (Or.inr (List.mem_of_getElem? (i := 0) rfl)))).tr ?_
    refine (agf_wI (a := k0) (f := 4) (v := (wI s6 k0 3 ((s6.I k0 3) + 1)).I k0 5) (Or.inr (Or.inr (List.mem_of_getElem? (i := 0) rfl)))).tr ?_
    have hr := Option.some.inj h
    subst hr
    exact agf.rf
set_option maxRecDepth 100000 in
set_option maxHeartbeats 4000000 in
theorem zb_X2_readNumber_186     {l1 : Int64} {s : uS} {r : uS}  (h : fb_X2_readNumber_186   l1 s = some r) : agf [(7, 2), (7, 3), (7, 8)] [] [] [] s r := by
  unfold fb_X2_readNumber_186 at h
  refine (agf_wI (a := 7) (f := 2) (v := 6) (Or.inl (by decide))).tr ?_
  refine (agf_wI (a := 7) (f := 3) (v := l1.toInt32) (Or.inl (by decide))).tr ?_
  have hr := Option.some.inj h
  subst hr
  exact agf.rf
set_option maxRecDepth 100000 in
set_option maxHeartbeats 4000000 in
theorem zb_X2_readNumber_166     {l1 : Int64} {bs0 : Bool} {s : uS} {r : uS}  (h : fb_X2_readNumber_166   l1 bs0 s = some r) : agf [(7, 2), (7, 3), (7, 8)] [] [] [] s r := by
  unfold fb_X2_readNumber_166 at h
  by_cases c1 : bs0 = true
  · replace h := uu_pos c1 h
    by_cases c2 : 0 < (lg_cmp l1 2147483647)
    · replace h := uu_pos c2 h
      exact zb_X2_readNumber_186  h
    · replace h := uu_neg c2 h
      refine (agf_wI (a := 7) (f := 2) (v := 2) (Or.inl (by decide))).tr ?_
      refine (agf_wI (a := 7) (f := 3) (v := l1.toInt32) (Or.inl (by decide))).tr ?_
      have hr := Option.some.inj h
      subst hr
      exact agf.rf
  · replace h := uu_neg c1 h
    exact zb_X2_readNumber_186  h
set_option maxRecDepth 100000 in
set_option maxHeartbeats 4000000 in
theorem zb_X2_readNumber_136     {l1 : Int64} {s : uS} {r : uS}  (h : fb_X2_readNumber_136   l1 s = some r) : agf [(7, 2), (7, 3), (7, 8)] [] [] [] s r := by
  unfold fb_X2_readNumber_136 at h
  obtain ⟨v1, e2, h⟩ := uu_ob h
  by_cases c3 : v1 = true
  · replace h := uu_pos c3 h
    exact zb_X2_readNumber_166  h
  · replace h := uu_neg c3 h
    obtain ⟨v4, e5, h⟩ := uu_ob h
    obtain ⟨v6, e7, h⟩ := uu_ob h
    by_cases c8 : v6 = true
    · replace h := uu_pos c8 h
      exact zb_X2_readNumber_166  h
    · replace h := uu_neg c8 h
      exact zb_X2_readNumber_166  h
set_option maxRecDepth 100000 in
set_option maxHeartbeats 4000000 in
theorem zb_X2_readNumber_114     {l1 : Int64} {xs0 : Int32} {s : uS} {r : uS}  (h : fb_X2_readNumber_114   l1 xs0 s = some r) : agf [(7, 2), (7, 3), (7, 8)] [] [] [] s r := by
  unfold fb_X2_readNumber_114 at h
  by_cases c1 : xs0 ≤ 0
  · replace h := uu_pos c1 h
    exact zb_X2_readNumber_136  h
  · replace h := uu_neg c1 h
    refine (agf_wI (a := 7) (f := 8) (v := (s.I 7 8) + 1) (Or.inl (by decide))).tr ?_
    exact zb_X2_readNumber_136  h
set_option maxRecDepth 100000 in
set_option maxHeartbeats 4000000 in
theorem zb_X2_readNumber_68     {l1 : Int64} {s : uS} {r : uS}  (h : fb_X2_readNumber_68   l1 s = some r) : agf [(7, 2), (7, 3), (7, 8)] [] [] [] s r := by
  unfold fb_X2_readNumber_68 at h
  obtain ⟨v1, e2, h⟩ := uu_ob h
  obtain ⟨v3, e4, h⟩ := uu_ob h
  by_cases c5 : v3 = 75
  · replace h := uu_pos c5 h
    exact zb_X2_readNumber_114  h
  · replace h := uu_neg c5 h
    by_cases c6 : v3 = 77
    · replace h := uu_pos c6 h
      exact zb_X2_readNumber_114  h
    · replace h := uu_neg c6 h
      by_cases c7 : v3 = 71
      · replace h := uu_pos c7 h
        exact zb_X2_readNumber_114  h
      · replace h := uu_neg c7 h
        exact zb_X2_readNumber_114  h
set_option maxRecDepth 100000 in
set_option maxHeartbeats 4000000 in
theorem zb_X2_readNumber_2  {K2 : Int64 → uS → Option uS}  (hK2 : ∀ (l1 : Int64)  (s : uS) (r : uS), K2 l1 s = some r → agf [(7, 2), (7, 3), (7, 8)] [] [] [] s r) {l1 : Int64} {s : uS} {r : uS}  (h : fb_X2_readNumber_2  K2 l1 s = some r) : agf [(7, 2), (7, 3), (7, 8)] [] [] [] s r := by
  unfold fb_X2_readNumber_2 at h
  by_cases c1 : (s.I 7 5) ≤ (s.I 7 8)
  · replace h := uu_pos c1 h
    exact zb_X2_readNumber_68  h
  · replace h := uu_neg c1 h
    obtain ⟨j2, e3, h⟩ := uu_ob h
    obtain ⟨v4, e5, h⟩ := uu_ob h
    obtain ⟨v6, e7, h⟩ := uu_ob h
    by_cases c8 : v6 = true
    · replace h := uu_pos c8 h
      obtain ⟨j9, e10, h⟩ := uu_ob h
      obtain ⟨v11, e12, h⟩ := uu_ob h
      refine (agf_wI (a := 7) (f := 8) (v := (s.I 7 8) + 1) (Or.inl (by decide))).tr ?_
      exact hK2 (if (2147483648 : Int64) < (((l1 * 10) + v11.toInt64) - 48) then (2147483648 : Int64) else (((l1 * 10) + v11.toInt64) - 48)) _ _ h
    · replace h := uu_neg c8 h
      exact zb_X2_readNumber_68  h
set_option maxRecDepth 100000 in
set_option maxHeartbeats 4000000 in
theorem zn_X2_readNumber_2     : ∀ (n : Nat) (l1 : Int64)  (s : uS) (r : uS), fn_X2_readNumber_2   n l1 s = some r → agf [(7, 2), (7, 3), (7, 8)] [] [] [] s r := by
  intro n
  induction n with
  | zero => intro l1  s r h
            cases h
  | succ n ih => intro l1  s r h
                 exact zb_X2_readNumber_2  ih  h
set_option maxRecDepth 100000 in
set_option maxHeartbeats 4000000 in
theorem zc_X2_readNumber    {s : uS} {r : uS}  (h : fn_X2_readNumber   s = some r) : agf [(7, 2), (7, 3), (7, 8)] [] [] [] s r := by
  unfold fn_X2_readNumber at h
  exact zn_X2_readNumber_2  _ _ _ _ h
set_option maxRecDepth 100000 in
set_option maxHeartbeats 4000000 in
theorem zc_X9_put   {k0 : Nat} {x1 : Int32} {s : uS} {r : uS} (hk0 : uSo k0 9) (h : fn_X9_put  k0 x1 s = some r) : agf [] [] [] [k0 + 1, k0] s r := by
  unfold fn_X9_put at h
  obtain ⟨v1, e2, h⟩ := uu_ob h
  by_cases c3 : v1 ≤ (s.I k0 5)
  · replace h := uu_pos c3 h
    have hr := Option.some.inj h
    subst hr
    exact agf.rf
  · replace h := uu_neg c3 h
    obtain ⟨s4, e5, h⟩ := uu_ob h
    refine (agf_iput e5 (Or.inr (Or.inr (List.mem_of_getElem? (i := 0) rfl)))).tr ?_
    refine (agf_wI (a := k0) (f := 5) (v := (s4.I k0 5) + 1) (Or.inr (Or.inr (List.mem_of_getElem? (i := 1) rfl)))).tr ?_
    have hr := Option.some.inj h
    subst hr
    exact agf.rf
set_option maxRecDepth 100000 in
set_option maxHeartbeats 4000000 in
theorem zb_X2_readQuoted_94  {K13 : Int32 → uS → Option uS}  (hK13 : ∀ (x1 : Int32)  (s : uS) (r : uS), K13 x1 s = some r → agf [(7, 2), (7, 8)] [] [] [11, 10, 8, 9] s r) {bs0 : Bool} {xs1 : Int32} {s : uS} {r : uS}  (h : fb_X2_readQuoted_94  K13 bs0 xs1 s = some r) : agf [(7, 2), (7, 8)] [] [] [11, 10, 8, 9] s r := by
  unfold fb_X2_readQuoted_94 at h
  by_cases c1 : (s.I 7 5) ≤ (xs1 + (bI bs0))
  · replace h := uu_pos c1 h
    exact hK13 ((xs1 + (bI bs0)) + 1) _ _ h
  · replace h := uu_neg c1 h
    obtain ⟨j2, e3, h⟩ := uu_ob h
    obtain ⟨v4, e5, h⟩ := uu_ob h
    obtain ⟨s6, e7, h⟩ := uu_ob h
    refine ((zc_X9_put so_8 e7).mo (by decide) (by decide) (by decide) (List.forall_mem_cons.mpr ⟨(Or.inr (List.mem_of_getElem? (i := 3) rfl)), List.forall_mem_cons.mpr ⟨(Or.inr (List.mem_of_getElem? (i := 2) rfl)), fun _ h => nomatch h⟩⟩)).tr ?_
    exact hK13 ((xs1 + (bI bs0)) + 1) _ _ h
set_option maxRecDepth 100000 in
set_option maxHeartbeats 4000000 in
theorem zb_X2_readQuoted_13  {K13 : Int32 → uS → Option uS}  (hK13 : ∀ (x1 : Int32)  (s : uS) (r : uS), K13 x1 s = some r → agf [(7, 2), (7, 8)] [] [] [11, 10, 8, 9] s r) {x1 : Int32} {s : uS} {r : uS}  (h : fb_X2_readQuoted_13  K13 x1 s = some r) : agf [(7, 2), (7, 8)] [] [] [11, 10, 8, 9] s r := by
  unfold fb_X2_readQuoted_13 at h
  by_cases c1 : (s.I 7 5) ≤ x1
  · replace h := uu_pos c1 h
    refine (agf_wI (a := 7) (f := 8) (v := x1) (Or.inl (by decide))).tr ?_
    have hr := Option.some.inj h
    subst hr
    exact agf.rf
  · replace h := uu_neg c1 h
    by_cases c2 : (200 : Int32) < ((s.I 8 5) - (s.I 8 4))
    · replace h := uu_pos c2 h
      refine (agf_wI (a := 7) (f := 8) (v := x1) (Or.inl (by decide))).tr ?_
      have hr := Option.some.inj h
      subst hr
      exact agf.rf
    · replace h := uu_neg c2 h
      by_cases c3 : (s.I 7 2) = 6
      · replace h := uu_pos c3 h
        obtain ⟨j4, e5, h⟩ := uu_ob h
        obtain ⟨v6, e7, h⟩ := uu_ob h
        by_cases c8 : v6 = 34
        · replace h := uu_pos c8 h
          refine (agf_wI (a := 7) (f := 2) (v := 3) (Or.inl (by decide))).tr ?_
          obtain ⟨s9, e10, h⟩ := uu_ob h
          refine ((zc_X9_close so_8 e10).mo (by decide) (by decide) (by decide) (List.forall_mem_cons.mpr ⟨(Or.inr (List.mem_of_getElem? (i := 2) rfl)), List.forall_mem_cons.mpr ⟨(Or.inr (List.mem_of_getElem? (i := 1) rfl)), List.forall_mem_cons.mpr ⟨(Or.inr (List.mem_of_getElem? (i := 0) rfl)), fun _ h => nomatch h⟩⟩⟩)).tr ?_
          exact hK13 (x1 + 1) _ _ h
        · replace h := uu_neg c8 h
          obtain ⟨j11, e12, h⟩ := uu_ob h
          obtain ⟨v13, e14, h⟩ := uu_ob h
          by_cases c15 : v13 = 92
          · replace h := uu_pos c15 h
            exact zb_X2_readQuoted_94 hK13 h
          · replace h := uu_neg c15 h
            exact zb_X2_readQuoted_94 hK13 h
      · replace h := uu_neg c3 h
        refine (agf_wI (a := 7) (f := 8) (v := x1) (Or.inl (by decide))).tr ?_
        have hr := Option.some.inj h
        subst hr
        exact agf.rf
set_option maxRecDepth 100000 in
set_option maxHeartbeats 4000000 in
theorem zn_X2_readQuoted_13     : ∀ (n : Nat) (x1 : Int32)  (s : uS) (r : uS), fn_X2_readQuoted_13   n x1 s = some r → agf [(7, 2), (7, 8)] [] [] [11, 10, 8, 9] s r := by
  intro n
  induction n with
  | zero => intro x1  s r h
            cases h
  | succ n ih => intro x1  s r h
                 exact zb_X2_readQuoted_13  ih  h
set_option maxRecDepth 100000 in
set_option maxHeartbeats 4000000 in
theorem zc_X2_readQuoted    {s : uS} {r : uS}  (h : fn_X2_readQuoted   s = some r) : agf [(7, 2), (7, 8)] [] [] [11, 10, 8, 9] s r := by
  unfold fn_X2_readQuoted at h
  refine (agf_wI (a := 7) (f := 2) (v := 6) (Or.inl (by decide))).tr ?_
  exact zn_X2_readQuoted_13  _ _ _ _ h
set_option maxRecDepth 100000 in
set_option maxHeartbeats 4000000 in
theorem zc_X4_push   {x1 : Int32} {x2 : Int32} {s : uS} {r : uS}  (h : fn_X4_push  x1 x2 s = some r) : agf [(6, 5)] [14, 15] [] [] s r := by
  unfold fn_X4_push at h
  by_cases c1 : (120 : Int32) ≤ (s.I 6 5)
  · replace h := uu_pos c1 h
    have hr := Option.some.inj h
    subst hr
    exact agf.rf
  · replace h := uu_neg c1 h
    obtain ⟨s2, e3, h⟩ := uu_ob h
    refine (agf_iput e3 (Or.inl (by decide))).tr ?_
    obtain ⟨s4, e5, h⟩ := uu_ob h
    refine (agf_iput e5 (Or.inl (by decide))).tr ?_
    refine (agf_wI (a := 6) (f := 5) (v := (s4.I 6 5) + 1) (Or.inl (by decide))).tr ?_
    have hr := Option.some.inj h
    subst hr
    exact agf.rf
set_option maxRecDepth 100000 in
set_option maxHeartbeats 4000000 in
theorem zc_X4_pushList   {x1 : Int32} {x2 : Int32} {x3 : Int32} {s : uS} {r : uS}  (h : fn_X4_pushList  x1 x2 x3 s = some r) : agf [(6, 5)] [14, 15] [] [] s r := by
  unfold fn_X4_pushList at h
  obtain ⟨s1, e2, h⟩ := uu_ob h
  refine ((zc_X4_push  e2).mo (by decide) (by decide) (by decide) (fun _ h => nomatch h)).tr ?_
  have hr := Option.some.inj h
  subst hr
  exact agf.rf
set_option maxRecDepth 100000 in
set_option maxHeartbeats 4000000 in
theorem zc_X4_pop   {x1 : Int32} {s : uS} {r : (uS × Int32)}  (h : fn_X4_pop  x1 s = some r) : agf [(6, 5)] [] [] [] s r.1 := by
  unfold fn_X4_pop at h
  refine (agf_wI (a := 6) (f := 5) (v := (s.I 6 5) - 1) (Or.inl (by decide))).tr ?_
  have hr := Option.some.inj h
  subst hr
  exact agf.rf
set_option maxRecDepth 100000 in
set_option maxHeartbeats 4000000 in
theorem zb_X4_require_54      {s : uS} {r : (uS × Int32)}  (h : fb_X4_require_54    s = some r) : agf [(6, 5)] [14, 15] [4] [] s r.1 := by
  unfold fb_X4_require_54 at h
  refine (agf_wI (a := 6) (f := 5) (v := (s.I 6 5) - 1) (Or.inl (by decide))).tr ?_
  obtain ⟨s1, e2, h⟩ := uu_ob h
  refine ((zc_X4_push  e2).mo (by decide) (by decide) (by decide) (fun _ h => nomatch h)).tr ?_
  have hr := Option.some.inj h
  subst hr
  exact agf.rf
set_option maxRecDepth 100000 in
set_option maxHeartbeats 4000000 in
theorem zc_X4_require    {s : uS} {r : (uS × Int32)}  (h : fn_X4_require   s = some r) : agf [(6, 5)] [14, 15] [4] [] s r.1 := by
  unfold fn_X4_require at h
  by_cases c1 : (s.I 7 2) = 0
  · replace h := uu_pos c1 h
    obtain ⟨v3, e4, h⟩ := uu_ob h
    by_cases c5 : v3 = 0
    · replace h := uu_pos c5 h
      obtain ⟨j6, e7, h⟩ := uu_ob h
      obtain ⟨g8, h⟩ := uu_grd h
      obtain ⟨s9, e10, h⟩ := uu_ob h
      refine (agf_iput e10 (Or.inr (Or.inl (by rw [rg_X3 (d := 2) g8 (by decide)]; decide)))).tr ?_
      obtain ⟨s11, e12, h⟩ := uu_ob h
      refine ((zc_X4_push  e12).mo (by decide) (by decide) (by decide) (fun _ h => nomatch h)).tr ?_
      obtain ⟨s13, e14, h⟩ := uu_ob h
      refine ((zc_X4_pushList  e14).mo (by decide) (by decide) (by decide) (fun _ h => nomatch h)).tr ?_
      have hr := Option.some.inj h
      subst hr
      exact agf.rf
    · replace h := uu_neg c5 h
      exact zb_X4_require_54  h
  · replace h := uu_neg c1 h
    exact zb_X4_require_54  h
set_option maxRecDepth 100000 in
set_option maxHeartbeats 4000000 in
theorem zc_X4_openBlock   {x1 : Int32} {s : uS} {r : (uS × Int32)}  (h : fn_X4_openBlock  x1 s = some r) : agf [(6, 5), (6, 7)] [14, 15] [] [] s r.1 := by
  unfold fn_X4_openBlock at h
  obtain ⟨v1, e2, h⟩ := uu_ob h
  by_cases c3 : v1 = true
  · replace h := uu_pos c3 h
    by_cases c4 : (s.I 6 7) = 8
    · replace h := uu_pos c4 h
      have hr := Option.some.inj h
      subst hr
      exact agf.rf
    · replace h := uu_neg c4 h
      refine (agf_wI (a := 6) (f := 7) (v := (s.I 6 7) + 1) (Or.inl (by decide))).tr ?_
      refine (agf_wI (a := 6) (f := 5) (v := ((wI s 6 7 ((s.I 6 7) + 1)).I 6 5) - 1) (Or.inl (by decide))).tr ?_
      obtain ⟨s5, e6, h⟩ := uu_ob h
      refine ((zc_X4_push  e6).mo (by decide) (by decide) (by decide) (fun _ h => nomatch h)).tr ?_
      have hr := Option.some.inj h
      subst hr
      exact agf.rf
  · replace h := uu_neg c3 h
    have hr := Option.some.inj h
    subst hr
    exact agf.rf
set_option maxRecDepth 100000 in
set_option maxHeartbeats 4000000 in
theorem zb_X4_pushPartsOfTest_50     {x1 : Int32} {x2 : Int32} {s : uS} {r : uS}  (h : fb_X4_pushPartsOfTest_50   x1 x2 s = some r) : agf [(6, 5)] [14, 15] [] [] s r := by
  unfold fb_X4_pushPartsOfTest_50 at h
  obtain ⟨v2, e3, h⟩ := uu_ob h
  by_cases c4 : v2 = 0
  · replace h := uu_pos c4 h
    have hr := Option.some.inj h
    subst hr
    exact agf.rf
  · replace h := uu_neg c4 h
    obtain ⟨s5, e6, h⟩ := uu_ob h
    refine ((zc_X4_push  e6).mo (by decide) (by decide) (by decide) (fun _ h => nomatch h)).tr ?_
    have hr := Option.some.inj h
    subst hr
    exact agf.rf
set_option maxRecDepth 100000 in
set_option maxHeartbeats 4000000 in
theorem zb_X4_pushPartsOfTest_30     {x1 : Int32} {x2 : Int32} {s : uS} {r : uS}  (h : fb_X4_pushPartsOfTest_30   x1 x2 s = some r) : agf [(6, 5)] [14, 15] [] [] s r := by
  unfold fb_X4_pushPartsOfTest_30 at h
  by_cases c1 : x2 = 16
  · replace h := uu_pos c1 h
    exact zb_X4_pushPartsOfTest_50  h
  · replace h := uu_neg c1 h
    by_cases c2 : x2 = 14
    · replace h := uu_pos c2 h
      exact zb_X4_pushPartsOfTest_50  h
    · replace h := uu_neg c2 h
      obtain ⟨s3, e4, h⟩ := uu_ob h
      refine ((zc_X4_pushList  e4).mo (by decide) (by decide) (by decide) (fun _ h => nomatch h)).tr ?_
      exact zb_X4_pushPartsOfTest_50  h
set_option maxRecDepth 100000 in
set_option maxHeartbeats 4000000 in
theorem zc_X4_pushPartsOfTest   {x1 : Int32} {x2 : Int32} {s : uS} {r : uS}  (h : fn_X4_pushPartsOfTest  x1 x2 s = some r) : agf [(6, 5)] [14, 15] [] [] s r := by
  unfold fn_X4_pushPartsOfTest at h
  by_cases c1 : x2 = 16
  · replace h := uu_pos c1 h
    obtain ⟨s2, e3, h⟩ := uu_ob h
    refine ((zc_X4_push  e3).mo (by decide) (by decide) (by decide) (fun _ h => nomatch h)).tr ?_
    exact zb_X4_pushPartsOfTest_30  h
  · replace h := uu_neg c1 h
    by_cases c4 : x2 = 15
    · replace h := uu_pos c4 h
      exact zb_X4_pushPartsOfTest_30  h
    · replace h := uu_neg c4 h
      obtain ⟨s5, e6, h⟩ := uu_ob h
      refine ((zc_X4_pushList  e6).mo (by decide) (by decide) (by decide) (fun _ h => nomatch h)).tr ?_
      exact zb_X4_pushPartsOfTest_30  h
set_option maxRecDepth 100000 in
set_option maxHeartbeats 4000000 in
theorem zc_X4_endTest   {x1 : Int32} {x2 : Int32} {s : uS} {r : (uS × Int32)}  (h : fn_X4_endTest  x1 x2 s = some r) : agf [(6, 5)] [] [4] [] s r.1 := by
  unfold fn_X4_endTest at h
  obtain ⟨j1, e2, h⟩ := uu_ob h
  obtain ⟨g3, h⟩ := uu_grd h
  refine (agf_wI (a := j1) (f := 3) (v := s.I 6 2) (Or.inr (Or.inl (by rw [show j1 = j1 + 0 from rfl, rg_X3 (d := 0) g3 (by decide)]; decide)))).tr ?_
  obtain ⟨r4, e5, h⟩ := uu_ob h
  refine ((zc_X4_pop  e5).mo (by decide) (by decide) (by decide) (fun _ h => nomatch h)).tr ?_
  have hr := Option.some.inj h
  subst hr
  exact agf.rf
set_option maxRecDepth 100000 in
set_option maxHeartbeats 4000000 in
theorem zc_X4_moreTests   {x1 : Int32} {s : uS} {r : (uS × Int32)}  (h : fn_X4_moreTests  x1 s = some r) : agf [(6, 5)] [14, 15] [4] [] s r.1 := by
  unfold fn_X4_moreTests at h
  obtain ⟨v1, e2, h⟩ := uu_ob h
  by_cases c3 : v1 = true
  · replace h := uu_pos c3 h
    obtain ⟨s4, e5, h⟩ := uu_ob h
    refine ((zc_X4_push  e5).mo (by decide) (by decide) (by decide) (fun _ h => nomatch h)).tr ?_
    have hr := Option.some.inj h
    subst hr
    exact agf.rf
  · replace h := uu_neg c3 h
    obtain ⟨v6, e7, h⟩ := uu_ob h
    by_cases c8 : v6 = true
    · replace h := uu_pos c8 h
      obtain ⟨r9, e10, h⟩ := uu_ob h
      refine ((zc_X4_endTest  e10).mo (by decide) (by decide) (by decide) (fun _ h => nomatch h)).tr ?_
      have hr := Option.some.inj h
      subst hr
      exact agf.rf
    · replace h := uu_neg c8 h
      have hr := Option.some.inj h
      subst hr
      exact agf.rf
set_option maxRecDepth 100000 in
set_option maxHeartbeats 4000000 in
theorem zb_X4_takeTag_261     {k2 : Nat} {x3 : Int32} {s : uS} {r : (uS × Int32)} (hk2 : uSo k2 3) (h : fb_X4_takeTag_261   k2 x3 s = some r) : agf [(6, 5)] [14, 15] [4] [] s r.1 := by
  unfold fb_X4_takeTag_261 at h
  obtain ⟨v2, e3, h⟩ := uu_ob h
  by_cases c4 : v2 = 4
  · replace h := uu_pos c4 h
    refine (agf_wI (a := k2) (f := 9) (v := x3 - 6) (Or.inr (Or.inl (by rw [show k2 = k2 + 0 from rfl, rg_X3 (d := 0) hk2 (by decide)]; decide)))).tr ?_
    have hr := Option.some.inj h
    subst hr
    exact agf.rf
  · replace h := uu_neg c4 h
    have hr := Option.some.inj h
    subst hr
    exact agf.rf
set_option maxRecDepth 100000 in
set_option maxHeartbeats 4000000 in
theorem zb_X4_takeTag_115     {x1 : Int32} {k2 : Nat} {x3 : Int32} {s : uS} {r : (uS × Int32)} (hk2 : uSo k2 3) (h : fb_X4_takeTag_115   x1 k2 x3 s = some r) : agf [(6, 5)] [14, 15] [4] [] s r.1 := by
  unfold fb_X4_takeTag_115 at h
  by_cases c116_0 : x3 = 3
  · replace h := uu_pos c116_0 h
    obtain ⟨s1, e2, h⟩ := uu_ob h
    refine ((zc_X4_pushList  e2).mo (by decide) (by decide) (by decide) (fun _ h => nomatch h)).tr ?_
    exact zb_X4_takeTag_261 hk2 h
  replace h := uu_neg c116_0 h
  by_cases c116_1 : x3 = 4
  · replace h := uu_pos c116_1 h
    obtain ⟨s3, e4, h⟩ := uu_ob h
    refine ((zc_X4_pushList  e4).mo (by decide) (by decide) (by decide) (fun _ h => nomatch h)).tr ?_
    exact zb_X4_takeTag_261 hk2 h
  replace h := uu_neg c116_1 h
  by_cases c116_2 : x3 = 5
  · replace h := uu_pos c116_2 h
    obtain ⟨s5, e6, h⟩ := uu_ob h
    refine ((zc_X4_pushList  e6).mo (by decide) (by decide) (by decide) (fun _ h => nomatch h)).tr ?_
    exact zb_X4_takeTag_261 hk2 h
  replace h := uu_neg c116_2 h
  by_cases c116_3 : x3 = 6
  · replace h := uu_pos c116_3 h
    exact zb_X4_takeTag_261 hk2 h
  replace h := uu_neg c116_3 h
  by_cases c116_4 : x3 = 7
  · replace h := uu_pos c116_4 h
    exact zb_X4_takeTag_261 hk2 h
  replace h := uu_neg c116_4 h
  by_cases c116_5 : x3 = 8
  · replace h := uu_pos c116_5 h
    exact zb_X4_takeTag_261 hk2 h
  replace h := uu_neg c116_5 h
  by_cases c116_6 : x3 = 9
  · replace h := uu_pos c116_6 h
    obtain ⟨s7, e8, h⟩ := uu_ob h
    refine ((zc_X4_pushList  e8).mo (by decide) (by decide) (by decide) (fun _ h => nomatch h)).tr ?_
    exact zb_X4_takeTag_261 hk2 h
  replace h := uu_neg c116_6 h
  by_cases c116_7 : x3 = 10
  · replace h := uu_pos c116_7 h
    exact zb_X4_takeTag_261 hk2 h
  replace h := uu_neg c116_7 h
  by_cases c116_8 : x3 = 11
  · replace h := uu_pos c116_8 h
    obtain ⟨s9, e10, h⟩ := uu_ob h
    refine ((zc_X4_push  e10).mo (by decide) (by decide) (by decide) (fun _ h => nomatch h)).tr ?_
    exact zb_X4_takeTag_261 hk2 h
  replace h := uu_neg c116_8 h
  by_cases c116_9 : x3 = 12
  · replace h := uu_pos c116_9 h
    obtain ⟨s11, e12, h⟩ := uu_ob h
    refine ((zc_X4_pushList  e12).mo (by decide) (by decide) (by decide) (fun _ h => nomatch h)).tr ?_
    exact zb_X4_takeTag_261 hk2 h
  replace h := uu_neg c116_9 h
  by_cases c116_10 : x3 = 13
  · replace h := uu_pos c116_10 h
    obtain ⟨s13, e14, h⟩ := uu_ob h
    refine ((zc_X4_pushList  e14).mo (by decide) (by decide) (by decide) (fun _ h => nomatch h)).tr ?_
    exact zb_X4_takeTag_261 hk2 h
  replace h := uu_neg c116_10 h
  by_cases c116_11 : x3 = 14
  · replace h := uu_pos c116_11 h
    obtain ⟨s15, e16, h⟩ := uu_ob h
    refine ((zc_X4_pushList  e16).mo (by decide) (by decide) (by decide) (fun _ h => nomatch h)).tr ?_
    exact zb_X4_takeTag_261 hk2 h
  replace h := uu_neg c116_11 h
  exact zb_X4_takeTag_261 hk2 h
set_option maxRecDepth 100000 in
set_option maxHeartbeats 4000000 in
theorem zc_X4_takeTag   {x1 : Int32} {s : uS} {r : (uS × Int32)}  (h : fn_X4_takeTag  x1 s = some r) : agf [(6, 5)] [14, 15] [4] [] s r.1 := by
  unfold fn_X4_takeTag at h
  obtain ⟨j1, e2, h⟩ := uu_ob h
  obtain ⟨g3, h⟩ := uu_grd h
  obtain ⟨v5, e6, h⟩ := uu_ob h
  by_cases c7 : v5 < 0
  · replace h := uu_pos c7 h
    have hr := Option.some.inj h
    subst hr
    exact agf.rf
  · replace h := uu_neg c7 h
    obtain ⟨v9, e10, h⟩ := uu_ob h
    obtain ⟨v12, e13, h⟩ := uu_ob h
    by_cases c14 : (v9 &&& v12) = 0
    · replace h := uu_pos c14 h
      have hr := Option.some.inj h
      subst hr
      exact agf.rf
    · replace h := uu_neg c14 h
      obtain ⟨v16, e17, h⟩ := uu_ob h
      obtain ⟨v18, e19, h⟩ := uu_ob h
      by_cases c20 : v18 = true
      · replace h := uu_pos c20 h
        have hr := Option.some.inj h
        subst hr
        exact agf.rf
      · replace h := uu_neg c20 h
        obtain ⟨v22, e23, h⟩ := uu_ob h
        obtain ⟨v24, e25, h⟩ := uu_ob h
        by_cases c26 : v24 = true
        · replace h := uu_pos c26 h
          have hr := Option.some.inj h
          subst hr
          exact agf.rf
        · replace h := uu_neg c26 h
          obtain ⟨v28, e29, h⟩ := uu_ob h
          refine (agf_wI (a := j1) (f := 5) (v := (s.I j1 5) ||| v28) (Or.inr (Or.inl (by rw [show j1 = j1 + 0 from rfl, rg_X3 (d := 0) g3 (by decide)]; decide)))).tr ?_
          by_cases c30 : (4 : Int32) < v5
          · replace h := uu_pos c30 h
            by_cases c31 : ((wI s j1 5 ((s.I j1 5) ||| v28)).I j1 0) = 16
            · replace h := uu_pos c31 h
              by_cases c32 : v5 = 15
              · replace h := uu_pos c32 h
                refine (agf_wI (a := j1) (f := 12) (v := 1) (Or.inr (Or.inl (by rw [show j1 = j1 + 0 from rfl, rg_X3 (d := 0) g3 (by decide)]; decide)))).tr ?_
                exact zb_X4_takeTag_115 g3 h
              · replace h := uu_neg c32 h
                refine (agf_wI (a := j1) (f := 12) (v := 0) (Or.inr (Or.inl (by rw [show j1 = j1 + 0 from rfl, rg_X3 (d := 0) g3 (by decide)]; decide)))).tr ?_
                exact zb_X4_takeTag_115 g3 h
            · replace h := uu_neg c31 h
              exact zb_X4_takeTag_115 g3 h
          · replace h := uu_neg c30 h
            refine (agf_wI (a := j1) (f := 6) (v := v5) (Or.inr (Or.inl (by rw [show j1 = j1 + 0 from rfl, rg_X3 (d := 0) g3 (by decide)]; decide)))).tr ?_
            exact zb_X4_takeTag_115 g3 h
set_option maxRecDepth 100000 in
set_option maxHeartbeats 4000000 in
theorem zb_X4_takeNumber_39     {k2 : Nat} {s : uS} {r : (uS × Int32)} (hk2 : uSo k2 3) (h : fb_X4_takeNumber_39   k2 s = some r) : agf [(6, 5)] [] [4] [] s r.1 := by
  unfold fb_X4_takeNumber_39 at h
  refine (agf_wI (a := k2) (f := 10) (v := s.I 7 3) (Or.inr (Or.inl (by rw [show k2 = k2 + 0 from rfl, rg_X3 (d := 0) hk2 (by decide)]; decide)))).tr ?_
  obtain ⟨r1, e2, h⟩ := uu_ob h
  refine ((zc_X4_pop  e2).mo (by decide) (by decide) (by decide) (fun _ h => nomatch h)).tr ?_
  have hr := Option.some.inj h
  subst hr
  exact agf.rf
set_option maxRecDepth 100000 in
set_option maxHeartbeats 4000000 in
theorem zc_X4_takeNumber   {x1 : Int32} {s : uS} {r : (uS × Int32)}  (h : fn_X4_takeNumber  x1 s = some r) : agf [(6, 5)] [] [4] [] s r.1 := by
  unfold fn_X4_takeNumber at h
  obtain ⟨j1, e2, h⟩ := uu_ob h
  obtain ⟨g3, h⟩ := uu_grd h
  by_cases c4 : (s.I 7 2) = 2
  · replace h := uu_pos c4 h
    by_cases c5 : (s.I j1 0) = 16
    · replace h := uu_pos c5 h
      obtain ⟨v6, e7, h⟩ := uu_ob h
      by_cases c8 : v6 = true
      · replace h := uu_pos c8 h
        exact zb_X4_takeNumber_39 g3 h
      · replace h := uu_neg c8 h
        have hr := Option.some.inj h
        subst hr
        exact agf.rf
    · replace h := uu_neg c5 h
      exact zb_X4_takeNumber_39 g3 h
  · replace h := uu_neg c4 h
    have hr := Option.some.inj h
    subst hr
    exact agf.rf
set_option maxRecDepth 100000 in
set_option maxHeartbeats 4000000 in
theorem zc_X4_openList   {x1 : Int32} {s : uS} {r : (uS × Int32)}  (h : fn_X4_openList  x1 s = some r) : agf [(6, 5)] [14, 15] [] [] s r.1 := by
  unfold fn_X4_openList at h
  refine (agf_wI (a := 6) (f := 5) (v := (s.I 6 5) - 1) (Or.inl (by decide))).tr ?_
  obtain ⟨s1, e2, h⟩ := uu_ob h
  refine ((zc_X4_push  e2).mo (by decide) (by decide) (by decide) (fun _ h => nomatch h)).tr ?_
  obtain ⟨s3, e4, h⟩ := uu_ob h
  refine ((zc_X4_push  e4).mo (by decide) (by decide) (by decide) (fun _ h => nomatch h)).tr ?_
  have hr := Option.some.inj h
  subst hr
  exact agf.rf
set_option maxRecDepth 100000 in
set_option maxHeartbeats 4000000 in
theorem zc_X4_moreStrings   {x1 : Int32} {s : uS} {r : (uS × Int32)}  (h : fn_X4_moreStrings  x1 s = some r) : agf [(6, 5)] [14, 15] [] [] s r.1 := by
  unfold fn_X4_moreStrings at h
  obtain ⟨v1, e2, h⟩ := uu_ob h
  by_cases c3 : v1 = true
  · replace h := uu_pos c3 h
    obtain ⟨s4, e5, h⟩ := uu_ob h
    refine ((zc_X4_push  e5).mo (by decide) (by decide) (by decide) (fun _ h => nomatch h)).tr ?_
    have hr := Option.some.inj h
    subst hr
    exact agf.rf
  · replace h := uu_neg c3 h
    obtain ⟨v6, e7, h⟩ := uu_ob h
    by_cases c8 : v6 = true
    · replace h := uu_pos c8 h
      obtain ⟨r9, e10, h⟩ := uu_ob h
      refine ((zc_X4_pop  e10).mo (by decide) (by decide) (by decide) (fun _ h => nomatch h)).tr ?_
      have hr := Option.some.inj h
      subst hr
      exact agf.rf
    · replace h := uu_neg c8 h
      have hr := Option.some.inj h
      subst hr
      exact agf.rf
set_option maxRecDepth 100000 in
set_option maxHeartbeats 4000000 in
theorem zc_X5_refusal   {k0 : Nat} {w1 : List Nat} {s : uS} {r : uS} (hk0 : uSo k0 5) (h : fn_X5_refusal  k0 w1 s = some r) : agf [] [] [] [k0 + 1, k0] s r := by
  unfold fn_X5_refusal at h
  obtain ⟨s2, e3, h⟩ := uu_ob h
  refine ((zc_X5_text hk0 e3).mo (by decide) (by decide) (by decide) (List.forall_mem_cons.mpr ⟨(Or.inr (List.mem_of_getElem? (i := 1) rfl)), List.forall_mem_cons.mpr ⟨(Or.inr (List.mem_of_getElem? (i := 0) rfl)), fun _ h => nomatch h⟩⟩)).tr ?_
  obtain ⟨s4, e5, h⟩ := uu_ob h
  refine ((zc_X5_text hk0 e5).mo (by decide) (by decide) (by decide) (List.forall_mem_cons.mpr ⟨(Or.inr (List.mem_of_getElem? (i := 1) rfl)), List.forall_mem_cons.mpr ⟨(Or.inr (List.mem_of_getElem? (i := 0) rfl)), fun _ h => nomatch h⟩⟩)).tr ?_
  obtain ⟨s7, e8, h⟩ := uu_ob h
  refine ((zc_X5_line hk0 e8).mo (by decide) (by decide) (by decide) (List.forall_mem_cons.mpr ⟨(Or.inr (List.mem_of_getElem? (i := 0) rfl)), List.forall_mem_cons.mpr ⟨(Or.inr (List.mem_of_getElem? (i := 1) rfl)), fun _ h => nomatch h⟩⟩)).tr ?_
  have hr := Option.some.inj h
  subst hr
  exact agf.rf
set_option maxRecDepth 100000 in
set_option maxHeartbeats 4000000 in
theorem zb_X5_digits_18  {K4 : Nat → Int32 → Int32 → uS → Option uS}  (hK4 : ∀ (k0 : Nat) (x1 : Int32) (x2 : Int32) (hk0 : uSo k0 5) (s : uS) (r : uS), K4 k0 x1 x2 s = some r → agf [] [] [] [k0, k0 + 1] s r) {k0 : Nat} {x1 : Int32} {x2 : Int32} {s : uS} {r : uS} (hk0 : uSo k0 5) (h : fb_X5_digits_18  K4 k0 x1 x2 s = some r) : agf [] [] [] [k0, k0 + 1] s r := by
  unfold fb_X5_digits_18 at h
  obtain ⟨g1, h⟩ := uu_grd h
  obtain ⟨s2, e3, h⟩ := uu_ob h
  refine ((zc_X5_put hk0 e3).mo (by decide) (by decide) (by decide) (List.forall_mem_cons.mpr ⟨(Or.inr (List.mem_of_getElem? (i := 1) rfl)), List.forall_mem_cons.mpr ⟨(Or.inr (List.mem_of_getElem? (i := 0) rfl)), fun _ h => nomatch h⟩⟩)).tr ?_
  exact hK4 k0 x1 (x2 / 10) hk0 _ _ h
set_option maxRecDepth 100000 in
set_option maxHeartbeats 4000000 in
theorem zb_X5_digits_4  {K4 : Nat → Int32 → Int32 → uS → Option uS}  (hK4 : ∀ (k0 : Nat) (x1 : Int32) (x2 : Int32) (hk0 : uSo k0 5) (s : uS) (r : uS), K4 k0 x1 x2 s = some r → agf [] [] [] [k0, k0 + 1] s r) {k0 : Nat} {x1 : Int32} {x2 : Int32} {s : uS} {r : uS} (hk0 : uSo k0 5) (h : fb_X5_digits_4  K4 k0 x1 x2 s = some r) : agf [] [] [] [k0, k0 + 1] s r := by
  unfold fb_X5_digits_4 at h
  by_cases c1 : x2 ≤ 0
  · replace h := uu_pos c1 h
    have hr := Option.some.inj h
    subst hr
    exact agf.rf
  · replace h := uu_neg c1 h
    by_cases c2 : x2 ≤ x1
    · replace h := uu_pos c2 h
      exact zb_X5_digits_18 hK4 hk0 h
    · replace h := uu_neg c2 h
      by_cases c3 : x2 = 1
      · replace h := uu_pos c3 h
        exact zb_X5_digits_18 hK4 hk0 h
      · replace h := uu_neg c3 h
        exact hK4 k0 x1 (x2 / 10) hk0 _ _ h
set_option maxRecDepth 100000 in
set_option maxHeartbeats 4000000 in
theorem zn_X5_digits_4     : ∀ (n : Nat) (k0 : Nat) (x1 : Int32) (x2 : Int32) (hk0 : uSo k0 5) (s : uS) (r : uS), fn_X5_digits_4   n k0 x1 x2 s = some r → agf [] [] [] [k0, k0 + 1] s r := by
  intro n
  induction n with
  | zero => intro k0 x1 x2 hk0 s r h
            cases h
  | succ n ih => intro k0 x1 x2 hk0 s r h
                 exact zb_X5_digits_4  ih hk0 h
set_option maxRecDepth 100000 in
set_option maxHeartbeats 4000000 in
theorem zc_X5_digits   {k0 : Nat} {x1 : Int32} {s : uS} {r : uS} (hk0 : uSo k0 5) (h : fn_X5_digits  k0 x1 s = some r) : agf [] [] [] [k0, k0 + 1] s r := by
  unfold fn_X5_digits at h
  exact zn_X5_digits_4  _ _ _ _ hk0 _ _ h
set_option maxRecDepth 100000 in
set_option maxHeartbeats 4000000 in
theorem zc_X5_faultLine   {k0 : Nat} {x1 : Int32} {s : uS} {r : uS} (hk0 : uSo k0 5) (h : fn_X5_faultLine  k0 x1 s = some r) : agf [] [] [] [k0 + 1, k0] s r := by
  unfold fn_X5_faultLine at h
  obtain ⟨s2, e3, h⟩ := uu_ob h
  refine ((zc_X5_text hk0 e3).mo (by decide) (by decide) (by decide) (List.forall_mem_cons.mpr ⟨(Or.inr (List.mem_of_getElem? (i := 1) rfl)), List.forall_mem_cons.mpr ⟨(Or.inr (List.mem_of_getElem? (i := 0) rfl)), fun _ h => nomatch h⟩⟩)).tr ?_
  obtain ⟨s4, e5, h⟩ := uu_ob h
  refine ((zc_X5_digits hk0 e5).mo (by decide) (by decide) (by decide) (List.forall_mem_cons.mpr ⟨(Or.inr (List.mem_of_getElem? (i := 1) rfl)), List.forall_mem_cons.mpr ⟨(Or.inr (List.mem_of_getElem? (i := 0) rfl)), fun _ h => nomatch h⟩⟩)).tr ?_
  obtain ⟨s7, e8, h⟩ := uu_ob h
  refine ((zc_X5_line hk0 e8).mo (by decide) (by decide) (by decide) (List.forall_mem_cons.mpr ⟨(Or.inr (List.mem_of_getElem? (i := 0) rfl)), List.forall_mem_cons.mpr ⟨(Or.inr (List.mem_of_getElem? (i := 1) rfl)), fun _ h => nomatch h⟩⟩)).tr ?_
  have hr := Option.some.inj h
  subst hr
  exact agf.rf
set_option maxRecDepth 100000 in
set_option maxHeartbeats 4000000 in
theorem zc_X5_script   {k0 : Nat} {k1 : Nat} {s : uS} {r : uS} (hk0 : uSo k0 5) (h : fn_X5_script  k0 k1 s = some r) : agf [] [] [] [k0, k0 + 1] s r := by
  unfold fn_X5_script at h
  obtain ⟨s1, e2, h⟩ := uu_ob h
  refine ((zc_X5_put hk0 e2).mo (by decide) (by decide) (by decide) (List.forall_mem_cons.mpr ⟨(Or.inr (List.mem_of_getElem? (i := 1) rfl)), List.forall_mem_cons.mpr ⟨(Or.inr (List.mem_of_getElem? (i := 0) rfl)), fun _ h => nomatch h⟩⟩)).tr ?_
  obtain ⟨v3, e4, h⟩ := uu_ob h
  obtain ⟨s5, e6, h⟩ := uu_ob h
  refine ((zc_X5_digits hk0 e6).mo (by decide) (by decide) (by decide) (List.forall_mem_cons.mpr ⟨(Or.inr (List.mem_of_getElem? (i := 0) rfl)), List.forall_mem_cons.mpr ⟨(Or.inr (List.mem_of_getElem? (i := 1) rfl)), fun _ h => nomatch h⟩⟩)).tr ?_
  obtain ⟨s8, e9, h⟩ := uu_ob h
  refine ((zc_X5_line hk0 e9).mo (by decide) (by decide) (by decide) (List.forall_mem_cons.mpr ⟨(Or.inr (List.mem_of_getElem? (i := 1) rfl)), List.forall_mem_cons.mpr ⟨(Or.inr (List.mem_of_getElem? (i := 0) rfl)), fun _ h => nomatch h⟩⟩)).tr ?_
  obtain ⟨v10, e11, h⟩ := uu_ob h
  obtain ⟨s12, e13, h⟩ := uu_ob h
  refine ((zc_X5_range hk0 e13).mo (by decide) (by decide) (by decide) (List.forall_mem_cons.mpr ⟨(Or.inr (List.mem_of_getElem? (i := 0) rfl)), List.forall_mem_cons.mpr ⟨(Or.inr (List.mem_of_getElem? (i := 1) rfl)), fun _ h => nomatch h⟩⟩)).tr ?_
  obtain ⟨s15, e16, h⟩ := uu_ob h
  refine ((zc_X5_line hk0 e16).mo (by decide) (by decide) (by decide) (List.forall_mem_cons.mpr ⟨(Or.inr (List.mem_of_getElem? (i := 1) rfl)), List.forall_mem_cons.mpr ⟨(Or.inr (List.mem_of_getElem? (i := 0) rfl)), fun _ h => nomatch h⟩⟩)).tr ?_
  have hr := Option.some.inj h
  subst hr
  exact agf.rf
set_option maxRecDepth 100000 in
set_option maxHeartbeats 4000000 in
theorem zb_X5_quoted_36  {K8 : Nat → Nat → Int32 → uS → Option uS}  (hK8 : ∀ (k0 : Nat) (k1 : Nat) (x2 : Int32) (hk0 : uSo k0 5) (s : uS) (r : uS), K8 k0 k1 x2 s = some r → agf [] [] [] [k0, k0 + 1] s r) {k0 : Nat} {k1 : Nat} {x2 : Int32} {s : uS} {r : uS} (hk0 : uSo k0 5) (h : fb_X5_quoted_36  K8 k0 k1 x2 s = some r) : agf [] [] [] [k0, k0 + 1] s r := by
  unfold fb_X5_quoted_36 at h
  obtain ⟨v1, e2, h⟩ := uu_ob h
  obtain ⟨s3, e4, h⟩ := uu_ob h
  refine ((zc_X5_put hk0 e4).mo (by decide) (by decide) (by decide) (List.forall_mem_cons.mpr ⟨(Or.inr (List.mem_of_getElem? (i := 1) rfl)), List.forall_mem_cons.mpr ⟨(Or.inr (List.mem_of_getElem? (i := 0) rfl)), fun _ h => nomatch h⟩⟩)).tr ?_
  exact hK8 k0 k1 (x2 + 1) hk0 _ _ h
set_option maxRecDepth 100000 in
set_option maxHeartbeats 4000000 in
theorem zb_X5_quoted_30  {K8 : Nat → Nat → Int32 → uS → Option uS}  (hK8 : ∀ (k0 : Nat) (k1 : Nat) (x2 : Int32) (hk0 : uSo k0 5) (s : uS) (r : uS), K8 k0 k1 x2 s = some r → agf [] [] [] [k0, k0 + 1] s r) {k0 : Nat} {k1 : Nat} {x2 : Int32} {s : uS} {r : uS} (hk0 : uSo k0 5) (h : fb_X5_quoted_30  K8 k0 k1 x2 s = some r) : agf [] [] [] [k0, k0 + 1] s r := by
  unfold fb_X5_quoted_30 at h
  obtain ⟨s1, e2, h⟩ := uu_ob h
  refine ((zc_X5_put hk0 e2).mo (by decide) (by decide) (by decide) (List.forall_mem_cons.mpr ⟨(Or.inr (List.mem_of_getElem? (i := 1) rfl)), List.forall_mem_cons.mpr ⟨(Or.inr (List.mem_of_getElem? (i := 0) rfl)), fun _ h => nomatch h⟩⟩)).tr ?_
  exact zb_X5_quoted_36 hK8 hk0 h
set_option maxRecDepth 100000 in
set_option maxHeartbeats 4000000 in
theorem zb_X5_quoted_8  {K8 : Nat → Nat → Int32 → uS → Option uS}  (hK8 : ∀ (k0 : Nat) (k1 : Nat) (x2 : Int32) (hk0 : uSo k0 5) (s : uS) (r : uS), K8 k0 k1 x2 s = some r → agf [] [] [] [k0, k0 + 1] s r) {k0 : Nat} {k1 : Nat} {x2 : Int32} {s : uS} {r : uS} (hk0 : uSo k0 5) (h : fb_X5_quoted_8  K8 k0 k1 x2 s = some r) : agf [] [] [] [k0, k0 + 1] s r := by
  unfold fb_X5_quoted_8 at h
  obtain ⟨v1, e2, h⟩ := uu_ob h
  by_cases c3 : v1 ≤ x2
  · replace h := uu_pos c3 h
    obtain ⟨s4, e5, h⟩ := uu_ob h
    refine ((zc_X5_put hk0 e5).mo (by decide) (by decide) (by decide) (List.forall_mem_cons.mpr ⟨(Or.inr (List.mem_of_getElem? (i := 1) rfl)), List.forall_mem_cons.mpr ⟨(Or.inr (List.mem_of_getElem? (i := 0) rfl)), fun _ h => nomatch h⟩⟩)).tr ?_
    have hr := Option.some.inj h
    subst hr
    exact agf.rf
  · replace h := uu_neg c3 h
    obtain ⟨v6, e7, h⟩ := uu_ob h
    by_cases c8 : v6 = 34
    · replace h := uu_pos c8 h
      exact zb_X5_quoted_30 hK8 hk0 h
    · replace h := uu_neg c8 h
      obtain ⟨v9, e10, h⟩ := uu_ob h
      by_cases c11 : v9 = 92
      · replace h := uu_pos c11 h
        exact zb_X5_quoted_30 hK8 hk0 h
      · replace h := uu_neg c11 h
        exact zb_X5_quoted_36 hK8 hk0 h
set_option maxRecDepth 100000 in
set_option maxHeartbeats 4000000 in
theorem zn_X5_quoted_8     : ∀ (n : Nat) (k0 : Nat) (k1 : Nat) (x2 : Int32) (hk0 : uSo k0 5) (s : uS) (r : uS), fn_X5_quoted_8   n k0 k1 x2 s = some r → agf [] [] [] [k0, k0 + 1] s r := by
  intro n
  induction n with
  | zero => intro k0 k1 x2 hk0 s r h
            cases h
  | succ n ih => intro k0 k1 x2 hk0 s r h
                 exact zb_X5_quoted_8  ih hk0 h
set_option maxRecDepth 100000 in
set_option maxHeartbeats 4000000 in
theorem zc_X5_quoted   {k0 : Nat} {k1 : Nat} {s : uS} {r : uS} (hk0 : uSo k0 5) (h : fn_X5_quoted  k0 k1 s = some r) : agf [] [] [] [k0, k0 + 1] s r := by
  unfold fn_X5_quoted at h
  obtain ⟨s1, e2, h⟩ := uu_ob h
  refine ((zc_X5_put hk0 e2).mo (by decide) (by decide) (by decide) (List.forall_mem_cons.mpr ⟨(Or.inr (List.mem_of_getElem? (i := 1) rfl)), List.forall_mem_cons.mpr ⟨(Or.inr (List.mem_of_getElem? (i := 0) rfl)), fun _ h => nomatch h⟩⟩)).tr ?_
  exact zn_X5_quoted_8  _ _ _ _ hk0 _ _ h
set_option maxRecDepth 100000 in
set_option maxHeartbeats 4000000 in
theorem zb_X5_take_53  {K16 : Nat → Int32 → Int64 → Int32 → uS → Option (uS × Int64)}  (hK16 : ∀ (k0 : Nat) (x1 : Int32) (l2 : Int64) (x4 : Int32) (hk0 : uSo k0 5) (s : uS) (r : (uS × Int64)), K16 k0 x1 l2 x4 s = some r → agf [] [] [] [k0] s r.1) {k0 : Nat} {x1 : Int32} {l2 : Int64} {x4 : Int32} {xs0 : Int32} {s : uS} {r : (uS × Int64)} (hk0 : uSo k0 5) (h : fb_X5_take_53  K16 k0 x1 l2 x4 xs0 s = some r) : agf [] [] [] [k0] s r.1 := by
  unfold fb_X5_take_53 at h
  exact hK16 k0 x1 ((l2 <<< ((8 : Int32).toInt64 &&& 63)) ||| xs0.toInt64) (x4 + 1) hk0 _ _ h
set_option maxRecDepth 100000 in
set_option maxHeartbeats 4000000 in
theorem zb_X5_take_16  {K16 : Nat → Int32 → Int64 → Int32 → uS → Option (uS × Int64)}  (hK16 : ∀ (k0 : Nat) (x1 : Int32) (l2 : Int64) (x4 : Int32) (hk0 : uSo k0 5) (s : uS) (r : (uS × Int64)), K16 k0 x1 l2 x4 s = some r → agf [] [] [] [k0] s r.1) {k0 : Nat} {x1 : Int32} {l2 : Int64} {x4 : Int32} {s : uS} {r : (uS × Int64)} (hk0 : uSo k0 5) (h : fb_X5_take_16  K16 k0 x1 l2 x4 s = some r) : agf [] [] [] [k0] s r.1 := by
  unfold fb_X5_take_16 at h
  by_cases c1 : (7 : Int32) ≤ x4
  · replace h := uu_pos c1 h
    refine (agf_wI (a := k0) (f := 1) (v := ((s.I k0 1) + x1) - ((s.I k0 1) + x1) / 10000 * 10000) (Or.inr (Or.inr (List.mem_of_getElem? (i := 0) rfl)))).tr ?_
    refine (agf_wI (a := k0) (f := 2) (v := ((wI s k0 1 (((s.I k0 1) + x1) - ((s.I k0 1) + x1) / 10000 * 10000)).I k0 2) - x1) (Or.inr (Or.inr (List.mem_of_getElem? (i := 0) rfl)))).tr ?_
    have hr := Option.some.inj h
    subst hr
    exact agf.rf
  · replace h := uu_neg c1 h
    by_cases c2 : x1 ≤ x4
    · replace h := uu_pos c2 h
      exact zb_X5_take_53 hK16 hk0 h
    · replace h := uu_neg c2 h
      obtain ⟨v3, e4, h⟩ := uu_ob h
      exact zb_X5_take_53 hK16 hk0 h
set_option maxRecDepth 100000 in
set_option maxHeartbeats 4000000 in
theorem zn_X5_take_16     : ∀ (n : Nat) (k0 : Nat) (x1 : Int32) (l2 : Int64) (x4 : Int32) (hk0 : uSo k0 5) (s : uS) (r : (uS × Int64)), fn_X5_take_16   n k0 x1 l2 x4 s = some r → agf [] [] [] [k0] s r.1 := by
  intro n
  induction n with
  | zero => intro k0 x1 l2 x4 hk0 s r h
            cases h
  | succ n ih => intro k0 x1 l2 x4 hk0 s r h
                 exact zb_X5_take_16  ih hk0 h
set_option maxRecDepth 100000 in
set_option maxHeartbeats 4000000 in
theorem zc_X5_take   {k0 : Nat} {s : uS} {r : (uS × Int64)} (hk0 : uSo k0 5) (h : fn_X5_take  k0 s = some r) : agf [] [] [] [k0] s r.1 := by
  unfold fn_X5_take at h
  exact zn_X5_take_16  _ _ _ _ _ hk0 _ _ h
set_option maxRecDepth 100000 in
set_option maxHeartbeats 4000000 in
theorem zb_X9_closeTrimmed_56  {K56 : Nat → Int32 → uS → Option uS}  (hK56 : ∀ (k0 : Nat) (x1 : Int32) (hk0 : uSo k0 9) (s : uS) (r : uS), K56 k0 x1 s = some r → agf [] [] [] [k0 + 2, k0 + 3, k0] s r) {k0 : Nat} {x1 : Int32} {s : uS} {r : uS} (hk0 : uSo k0 9) (h : fb_X9_closeTrimmed_56  K56 k0 x1 s = some r) : agf [] [] [] [k0 + 2, k0 + 3, k0] s r := by
  unfold fb_X9_closeTrimmed_56 at h
  obtain ⟨v1, e2, h⟩ := uu_ob h
  obtain ⟨v3, e4, h⟩ := uu_ob h
  by_cases c5 : v3 ≤ v1
  · replace h := uu_pos c5 h
    have hr := Option.some.inj h
    subst hr
    exact agf.rf
  · replace h := uu_neg c5 h
    obtain ⟨v6, e7, h⟩ := uu_ob h
    obtain ⟨v8, e9, h⟩ := uu_ob h
    obtain ⟨v10, e11, h⟩ := uu_ob h
    by_cases c12 : v10 = true
    · replace h := uu_pos c12 h
      obtain ⟨v13, e14, h⟩ := uu_ob h
      obtain ⟨s15, e16, h⟩ := uu_ob h
      refine (agf_iput e16 (Or.inr (Or.inr (List.mem_of_getElem? (i := 1) rfl)))).tr ?_
      exact hK56 k0 x1 hk0 _ _ h
    · replace h := uu_neg c12 h
      have hr := Option.some.inj h
      subst hr
      exact agf.rf
set_option maxRecDepth 100000 in
set_option maxHeartbeats 4000000 in
theorem zn_X9_closeTrimmed_56     : ∀ (n : Nat) (k0 : Nat) (x1 : Int32) (hk0 : uSo k0 9) (s : uS) (r : uS), fn_X9_closeTrimmed_56   n k0 x1 s = some r → agf [] [] [] [k0 + 2, k0 + 3, k0] s r := by
  intro n
  induction n with
  | zero => intro k0 x1 hk0 s r h
            cases h
  | succ n ih => intro k0 x1 hk0 s r h
                 exact zb_X9_closeTrimmed_56  ih hk0 h
set_option maxRecDepth 100000 in
set_option maxHeartbeats 4000000 in
theorem zb_X9_closeTrimmed_11  {K11 : Nat → Int32 → uS → Option uS}  (hK11 : ∀ (k0 : Nat) (x1 : Int32) (hk0 : uSo k0 9) (s : uS) (r : uS), K11 k0 x1 s = some r → agf [] [] [] [k0 + 2, k0 + 3, k0] s r) {k0 : Nat} {x1 : Int32} {s : uS} {r : uS} (hk0 : uSo k0 9) (h : fb_X9_closeTrimmed_11  K11 k0 x1 s = some r) : agf [] [] [] [k0 + 2, k0 + 3, k0] s r := by
  unfold fb_X9_closeTrimmed_11 at h
  obtain ⟨v1, e2, h⟩ := uu_ob h
  obtain ⟨v3, e4, h⟩ := uu_ob h
  by_cases c5 : v3 ≤ v1
  · replace h := uu_pos c5 h
    exact zn_X9_closeTrimmed_56  _ _ _ hk0 _ _ h
  · replace h := uu_neg c5 h
    obtain ⟨v6, e7, h⟩ := uu_ob h
    obtain ⟨v8, e9, h⟩ := uu_ob h
    obtain ⟨v10, e11, h⟩ := uu_ob h
    by_cases c12 : v10 = true
    · replace h := uu_pos c12 h
      obtain ⟨v13, e14, h⟩ := uu_ob h
      obtain ⟨s15, e16, h⟩ := uu_ob h
      refine (agf_iput e16 (Or.inr (Or.inr (List.mem_of_getElem? (i := 0) rfl)))).tr ?_
      exact hK11 k0 x1 hk0 _ _ h
    · replace h := uu_neg c12 h
      exact zn_X9_closeTrimmed_56  _ _ _ hk0 _ _ h
set_option maxRecDepth 100000 in
set_option maxHeartbeats 4000000 in
theorem zn_X9_closeTrimmed_11     : ∀ (n : Nat) (k0 : Nat) (x1 : Int32) (hk0 : uSo k0 9) (s : uS) (r : uS), fn_X9_closeTrimmed_11   n k0 x1 s = some r → agf [] [] [] [k0 + 2, k0 + 3, k0] s r := by
  intro n
  induction n with
  | zero => intro k0 x1 hk0 s r h
            cases h
  | succ n ih => intro k0 x1 hk0 s r h
                 exact zb_X9_closeTrimmed_11  ih hk0 h
set_option maxRecDepth 100000 in
set_option maxHeartbeats 4000000 in
theorem zc_X9_closeTrimmed   {k0 : Nat} {s : uS} {r : uS} (hk0 : uSo k0 9) (h : fn_X9_closeTrimmed  k0 s = some r) : agf [] [] [] [k0 + 2, k0 + 3, k0] s r := by
  unfold fn_X9_closeTrimmed at h
  obtain ⟨s1, e2, h⟩ := uu_ob h
  refine ((zc_X9_close hk0 e2).mo (by decide) (by decide) (by decide) (List.forall_mem_cons.mpr ⟨(Or.inr (List.mem_of_getElem? (i := 2) rfl)), List.forall_mem_cons.mpr ⟨(Or.inr (List.mem_of_getElem? (i := 0) rfl)), List.forall_mem_cons.mpr ⟨(Or.inr (List.mem_of_getElem? (i := 1) rfl)), fun _ h => nomatch h⟩⟩⟩)).tr ?_
  exact zn_X9_closeTrimmed_11  _ _ _ hk0 _ _ h
set_option maxRecDepth 100000 in
set_option maxHeartbeats 4000000 in
theorem zb_X6_gatherFlags_69  {K4 : Int32 → Int32 → Int32 → uS → Option uS}  (hK4 : ∀ (x1 : Int32) (x2 : Int32) (x3 : Int32)  (s : uS) (r : uS), K4 x1 x2 x3 s = some r → agf [] [] [] [1062, 1063, 1065, 1064] s r) {x1 : Int32} {x2 : Int32} {x3 : Int32} {b4 : Bool} {s : uS} {r : uS}  (h : fb_X6_gatherFlags_69  K4 x1 x2 x3 b4 s = some r) : agf [] [] [] [1062, 1063, 1065, 1064] s r := by
  unfold fb_X6_gatherFlags_69 at h
  by_cases c1 : b4 = true
  · replace h := uu_pos c1 h
    obtain ⟨s2, e3, h⟩ := uu_ob h
    refine ((zc_X9_close so_1062 e3).mo (by decide) (by decide) (by decide) (List.forall_mem_cons.mpr ⟨(Or.inr (List.mem_of_getElem? (i := 0) rfl)), List.forall_mem_cons.mpr ⟨(Or.inr (List.mem_of_getElem? (i := 3) rfl)), List.forall_mem_cons.mpr ⟨(Or.inr (List.mem_of_getElem? (i := 2) rfl)), fun _ h => nomatch h⟩⟩⟩)).tr ?_
    exact hK4 x1 (x2 + 1) (x3 + 1) _ _ h
  · replace h := uu_neg c1 h
    exact hK4 x1 (x2 + 1) (x3 + 1) _ _ h
set_option maxRecDepth 100000 in
set_option maxHeartbeats 4000000 in
theorem zb_X6_gatherFlags_26  {K4 : Int32 → Int32 → Int32 → uS → Option uS}  (hK4 : ∀ (x1 : Int32) (x2 : Int32) (x3 : Int32)  (s : uS) (r : uS), K4 x1 x2 x3 s = some r → agf [] [] [] [1062, 1063, 1065, 1064] s r) {x1 : Int32} {x2 : Int32} {x3 : Int32} {bs0 : Bool} {s : uS} {r : uS}  (h : fb_X6_gatherFlags_26  K4 x1 x2 x3 bs0 s = some r) : agf [] [] [] [1062, 1063, 1065, 1064] s r := by
  unfold fb_X6_gatherFlags_26 at h
  by_cases c2 : (nI kW_51.length) ≤ x3
  · replace h := uu_pos c2 h
    exact zb_X6_gatherFlags_69 hK4 h
  · replace h := uu_neg c2 h
    obtain ⟨v4, e5, h⟩ := uu_ob h
    by_cases c6 : v4 = 32
    · replace h := uu_pos c6 h
      exact zb_X6_gatherFlags_69 hK4 h
    · replace h := uu_neg c6 h
      by_cases c7 : bs0 = true
      · replace h := uu_pos c7 h
        obtain ⟨v9, e10, h⟩ := uu_ob h
        obtain ⟨s11, e12, h⟩ := uu_ob h
        refine ((zc_X9_put so_1062 e12).mo (by decide) (by decide) (by decide) (List.forall_mem_cons.mpr ⟨(Or.inr (List.mem_of_getElem? (i := 1) rfl)), List.forall_mem_cons.mpr ⟨(Or.inr (List.mem_of_getElem? (i := 0) rfl)), fun _ h => nomatch h⟩⟩)).tr ?_
        exact hK4 x1 x2 (x3 + 1) _ _ h
      · replace h := uu_neg c7 h
        exact hK4 x1 x2 (x3 + 1) _ _ h
set_option maxRecDepth 100000 in
set_option maxHeartbeats 4000000 in
theorem zb_X6_gatherFlags_4  {K4 : Int32 → Int32 → Int32 → uS → Option uS}  (hK4 : ∀ (x1 : Int32) (x2 : Int32) (x3 : Int32)  (s : uS) (r : uS), K4 x1 x2 x3 s = some r → agf [] [] [] [1062, 1063, 1065, 1064] s r) {x1 : Int32} {x2 : Int32} {x3 : Int32} {s : uS} {r : uS}  (h : fb_X6_gatherFlags_4  K4 x1 x2 x3 s = some r) : agf [] [] [] [1062, 1063, 1065, 1064] s r := by
  unfold fb_X6_gatherFlags_4 at h
  by_cases c2 : (nI kW_51.length) < x3
  · replace h := uu_pos c2 h
    have hr := Option.some.inj h
    subst hr
    exact agf.rf
  · replace h := uu_neg c2 h
    by_cases c3 : ((x1 >>> (x2 &&& 31)) &&& 1) = 0
    · replace h := uu_pos c3 h
      exact zb_X6_gatherFlags_26 hK4 h
    · replace h := uu_neg c3 h
      exact zb_X6_gatherFlags_26 hK4 h
set_option maxRecDepth 100000 in
set_option maxHeartbeats 4000000 in
theorem zn_X6_gatherFlags_4     : ∀ (n : Nat) (x1 : Int32) (x2 : Int32) (x3 : Int32)  (s : uS) (r : uS), fn_X6_gatherFlags_4   n x1 x2 x3 s = some r → agf [] [] [] [1062, 1063, 1065, 1064] s r := by
  intro n
  induction n with
  | zero => intro x1 x2 x3  s r h
            cases h
  | succ n ih => intro x1 x2 x3  s r h
                 exact zb_X6_gatherFlags_4  ih  h
set_option maxRecDepth 100000 in
set_option maxHeartbeats 4000000 in
theorem zc_X6_gatherFlags   {x1 : Int32} {s : uS} {r : uS}  (h : fn_X6_gatherFlags  x1 s = some r) : agf [] [] [] [1062, 1063, 1065, 1064] s r := by
  unfold fn_X6_gatherFlags at h
  exact zn_X6_gatherFlags_4  _ _ _ _ _ _ h
set_option maxRecDepth 100000 in
set_option maxHeartbeats 4000000 in
theorem zb_X6_narrow_53     {x1 : Int32} {x3 : Int32} {s : uS} {r : uS}  (h : fb_X6_narrow_53   x1 x3 s = some r) : agf [] [1064, 1065] [] [] s r := by
  unfold fb_X6_narrow_53 at h
  by_cases c1 : x3 < 0
  · replace h := uu_pos c1 h
    have hr := Option.some.inj h
    subst hr
    exact agf.rf
  · replace h := uu_neg c1 h
    obtain ⟨s2, e3, h⟩ := uu_ob h
    refine (agf_iput e3 (Or.inl (by decide))).tr ?_
    have hr := Option.some.inj h
    subst hr
    exact agf.rf
set_option maxRecDepth 100000 in
set_option maxHeartbeats 4000000 in
theorem zc_X6_narrow   {x1 : Int32} {x2 : Int32} {s : uS} {r : uS}  (h : fn_X6_narrow  x1 x2 s = some r) : agf [] [1064, 1065] [] [] s r := by
  unfold fn_X6_narrow at h
  obtain ⟨v1, e2, h⟩ := uu_ob h
  obtain ⟨v3, e4, h⟩ := uu_ob h
  obtain ⟨v5, e6, h⟩ := uu_ob h
  by_cases c7 : v5 < 0
  · replace h := uu_pos c7 h
    exact zb_X6_narrow_53  h
  · replace h := uu_neg c7 h
    by_cases c8 : x2 = 1
    · replace h := uu_pos c8 h
      obtain ⟨s9, e10, h⟩ := uu_ob h
      refine (agf_iput e10 (Or.inl (by decide))).tr ?_
      have hr := Option.some.inj h
      subst hr
      exact agf.rf
    · replace h := uu_neg c8 h
      exact zb_X6_narrow_53  h
set_option maxRecDepth 100000 in
set_option maxHeartbeats 4000000 in
theorem zb_X9_putNumber_17  {K3 : Nat → Int32 → Int32 → uS → Option uS}  (hK3 : ∀ (k0 : Nat) (x1 : Int32) (x2 : Int32) (hk0 : uSo k0 9) (s : uS) (r : uS), K3 k0 x1 x2 s = some r → agf [] [] [] [k0, k0 + 1] s r) {k0 : Nat} {x1 : Int32} {x2 : Int32} {s : uS} {r : uS} (hk0 : uSo k0 9) (h : fb_X9_putNumber_17  K3 k0 x1 x2 s = some r) : agf [] [] [] [k0, k0 + 1] s r := by
  unfold fb_X9_putNumber_17 at h
  obtain ⟨g1, h⟩ := uu_grd h
  obtain ⟨s2, e3, h⟩ := uu_ob h
  refine ((zc_X9_put hk0 e3).mo (by decide) (by decide) (by decide) (List.forall_mem_cons.mpr ⟨(Or.inr (List.mem_of_getElem? (i := 1) rfl)), List.forall_mem_cons.mpr ⟨(Or.inr (List.mem_of_getElem? (i := 0) rfl)), fun _ h => nomatch h⟩⟩)).tr ?_
  exact hK3 k0 x1 (x2 / 10) hk0 _ _ h
set_option maxRecDepth 100000 in
set_option maxHeartbeats 4000000 in
theorem zb_X9_putNumber_3  {K3 : Nat → Int32 → Int32 → uS → Option uS}  (hK3 : ∀ (k0 : Nat) (x1 : Int32) (x2 : Int32) (hk0 : uSo k0 9) (s : uS) (r : uS), K3 k0 x1 x2 s = some r → agf [] [] [] [k0, k0 + 1] s r) {k0 : Nat} {x1 : Int32} {x2 : Int32} {s : uS} {r : uS} (hk0 : uSo k0 9) (h : fb_X9_putNumber_3  K3 k0 x1 x2 s = some r) : agf [] [] [] [k0, k0 + 1] s r := by
  unfold fb_X9_putNumber_3 at h
  by_cases c1 : x2 ≤ 0
  · replace h := uu_pos c1 h
    have hr := Option.some.inj h
    subst hr
    exact agf.rf
  · replace h := uu_neg c1 h
    by_cases c2 : x2 ≤ x1
    · replace h := uu_pos c2 h
      exact zb_X9_putNumber_17 hK3 hk0 h
    · replace h := uu_neg c2 h
      by_cases c3 : x2 = 1
      · replace h := uu_pos c3 h
        exact zb_X9_putNumber_17 hK3 hk0 h
      · replace h := uu_neg c3 h
        exact hK3 k0 x1 (x2 / 10) hk0 _ _ h
set_option maxRecDepth 100000 in
set_option maxHeartbeats 4000000 in
theorem zn_X9_putNumber_3     : ∀ (n : Nat) (k0 : Nat) (x1 : Int32) (x2 : Int32) (hk0 : uSo k0 9) (s : uS) (r : uS), fn_X9_putNumber_3   n k0 x1 x2 s = some r → agf [] [] [] [k0, k0 + 1] s r := by
  intro n
  induction n with
  | zero => intro k0 x1 x2 hk0 s r h
            cases h
  | succ n ih => intro k0 x1 x2 hk0 s r h
                 exact zb_X9_putNumber_3  ih hk0 h
set_option maxRecDepth 100000 in
set_option maxHeartbeats 4000000 in
theorem zc_X9_putNumber   {k0 : Nat} {x1 : Int32} {s : uS} {r : uS} (hk0 : uSo k0 9) (h : fn_X9_putNumber  k0 x1 s = some r) : agf [] [] [] [k0, k0 + 1] s r := by
  unfold fn_X9_putNumber at h
  exact zn_X9_putNumber_3  _ _ _ _ hk0 _ _ h
set_option maxRecDepth 100000 in
set_option maxHeartbeats 4000000 in
theorem zb_X6_isCount_30  {K30 : Nat → Int32 → uS → Option (uS × Bool)}  (hK30 : ∀ (k1 : Nat) (x2 : Int32) (hk1 : uSo k1 3) (s : uS) (r : (uS × Bool)), K30 k1 x2 s = some r → agf [] [] [] [1066, 1067, 1069, 1068] s r.1) {k1 : Nat} {x2 : Int32} {s : uS} {r : (uS × Bool)} (hk1 : uSo k1 3) (h : fb_X6_isCount_30  K30 k1 x2 s = some r) : agf [] [] [] [1066, 1067, 1069, 1068] s r.1 := by
  unfold fb_X6_isCount_30 at h
  obtain ⟨v1, e2, h⟩ := uu_ob h
  by_cases c3 : v1 ≤ x2
  · replace h := uu_pos c3 h
    have hr := Option.some.inj h
    subst hr
    exact agf.rf
  · replace h := uu_neg c3 h
    obtain ⟨v4, e5, h⟩ := uu_ob h
    obtain ⟨v6, e7, h⟩ := uu_ob h
    obtain ⟨v8, e9, h⟩ := uu_ob h
    by_cases c10 : v8 = true
    · replace h := uu_pos c10 h
      have hr := Option.some.inj h
      subst hr
      exact agf.rf
    · replace h := uu_neg c10 h
      exact hK30 k1 (x2 + 1) hk1 _ _ h
set_option maxRecDepth 100000 in
set_option maxHeartbeats 4000000 in
theorem zn_X6_isCount_30     : ∀ (n : Nat) (k1 : Nat) (x2 : Int32) (hk1 : uSo k1 3) (s : uS) (r : (uS × Bool)), fn_X6_isCount_30   n k1 x2 s = some r → agf [] [] [] [1066, 1067, 1069, 1068] s r.1 := by
  intro n
  induction n with
  | zero => intro k1 x2 hk1 s r h
            cases h
  | succ n ih => intro k1 x2 hk1 s r h
                 exact zb_X6_isCount_30  ih hk1 h
set_option maxRecDepth 100000 in
set_option maxHeartbeats 4000000 in
theorem zc_X6_isCount   {k1 : Nat} {s : uS} {r : (uS × Bool)} (hk1 : uSo k1 3) (h : fn_X6_isCount  k1 s = some r) : agf [] [] [] [1066, 1067, 1069, 1068] s r.1 := by
  unfold fn_X6_isCount at h
  obtain ⟨s1, e2, h⟩ := uu_ob h
  refine ((zc_X9_clear so_1066 e2).mo (by decide) (by decide) (by decide) (List.forall_mem_cons.mpr ⟨(Or.inr (List.mem_of_getElem? (i := 0) rfl)), fun _ h => nomatch h⟩)).tr ?_
  obtain ⟨s3, e4, h⟩ := uu_ob h
  refine ((zc_X9_putNumber so_1066 e4).mo (by decide) (by decide) (by decide) (List.forall_mem_cons.mpr ⟨(Or.inr (List.mem_of_getElem? (i := 0) rfl)), List.forall_mem_cons.mpr ⟨(Or.inr (List.mem_of_getElem? (i := 1) rfl)), fun _ h => nomatch h⟩⟩)).tr ?_
  obtain ⟨s5, e6, h⟩ := uu_ob h
  refine ((zc_X9_close so_1066 e6).mo (by decide) (by decide) (by decide) (List.forall_mem_cons.mpr ⟨(Or.inr (List.mem_of_getElem? (i := 0) rfl)), List.forall_mem_cons.mpr ⟨(Or.inr (List.mem_of_getElem? (i := 3) rfl)), List.forall_mem_cons.mpr ⟨(Or.inr (List.mem_of_getElem? (i := 2) rfl)), fun _ h => nomatch h⟩⟩⟩)).tr ?_
  exact zn_X6_isCount_30  _ _ _ hk1 _ _ h
set_option maxRecDepth 100000 in
set_option maxHeartbeats 4000000 in
theorem zb_X6_holds_136  {K123 : Nat → Int32 → uS → Option (uS × Bool)} {K136 : Nat → Int32 → Int32 → uS → Option (uS × Bool)}  (hK123 : ∀ (k1 : Nat) (x2 : Int32) (hk1 : uSo k1 3) (s : uS) (r : (uS × Bool)), K123 k1 x2 s = some r → agf [] [] [] [1068, 1069, 1067, 1066] s r.1) (hK136 : ∀ (k1 : Nat) (x2 : Int32) (x3 : Int32) (hk1 : uSo k1 3) (s : uS) (r : (uS × Bool)), K136 k1 x2 x3 s = some r → agf [] [] [] [1068, 1069, 1067, 1066] s r.1) {k1 : Nat} {x2 : Int32} {x3 : Int32} {s : uS} {r : (uS × Bool)} (hk1 : uSo k1 3) (h : fb_X6_holds_136  K123 K136 k1 x2 x3 s = some r) : agf [] [] [] [1068, 1069, 1067, 1066] s r.1 := by
  unfold fb_X6_holds_136 at h
  obtain ⟨v1, e2, h⟩ := uu_ob h
  by_cases c3 : v1 ≤ x3
  · replace h := uu_pos c3 h
    exact hK123 k1 (x2 + 1) hk1 _ _ h
  · replace h := uu_neg c3 h
    obtain ⟨v4, e5, h⟩ := uu_ob h
    obtain ⟨v6, e7, h⟩ := uu_ob h
    by_cases c8 : v6 = true
    · replace h := uu_pos c8 h
      have hr := Option.some.inj h
      subst hr
      exact agf.rf
    · replace h := uu_neg c8 h
      exact hK136 k1 x2 (x3 + 1) hk1 _ _ h
set_option maxRecDepth 100000 in
set_option maxHeartbeats 4000000 in
theorem zn_X6_holds_136  {K123 : Nat → Int32 → uS → Option (uS × Bool)}  (hK123 : ∀ (k1 : Nat) (x2 : Int32) (hk1 : uSo k1 3) (s : uS) (r : (uS × Bool)), K123 k1 x2 s = some r → agf [] [] [] [1068, 1069, 1067, 1066] s r.1) : ∀ (n : Nat) (k1 : Nat) (x2 : Int32) (x3 : Int32) (hk1 : uSo k1 3) (s : uS) (r : (uS × Bool)), fn_X6_holds_136  K123 n k1 x2 x3 s = some r → agf [] [] [] [1068, 1069, 1067, 1066] s r.1 := by
  intro n
  induction n with
  | zero => intro k1 x2 x3 hk1 s r h
            cases h
  | succ n ih => intro k1 x2 x3 hk1 s r h
                 exact zb_X6_holds_136  hK123 ih hk1 h
set_option maxRecDepth 100000 in
set_option maxHeartbeats 4000000 in
theorem zb_X6_holds_123  {K123 : Nat → Int32 → uS → Option (uS × Bool)}  (hK123 : ∀ (k1 : Nat) (x2 : Int32) (hk1 : uSo k1 3) (s : uS) (r : (uS × Bool)), K123 k1 x2 s = some r → agf [] [] [] [1068, 1069, 1067, 1066] s r.1) {k1 : Nat} {x2 : Int32} {s : uS} {r : (uS × Bool)} (hk1 : uSo k1 3) (h : fb_X6_holds_123  K123 k1 x2 s = some r) : agf [] [] [] [1068, 1069, 1067, 1066] s r.1 := by
  unfold fb_X6_holds_123 at h
  by_cases c1 : (s.I 1062 3) ≤ x2
  · replace h := uu_pos c1 h
    have hr := Option.some.inj h
    subst hr
    exact agf.rf
  · replace h := uu_neg c1 h
    exact zn_X6_holds_136 hK123 _ _ _ _ hk1 _ _ h
set_option maxRecDepth 100000 in
set_option maxHeartbeats 4000000 in
theorem zn_X6_holds_123     : ∀ (n : Nat) (k1 : Nat) (x2 : Int32) (hk1 : uSo k1 3) (s : uS) (r : (uS × Bool)), fn_X6_holds_123   n k1 x2 s = some r → agf [] [] [] [1068, 1069, 1067, 1066] s r.1 := by
  intro n
  induction n with
  | zero => intro k1 x2 hk1 s r h
            cases h
  | succ n ih => intro k1 x2 hk1 s r h
                 exact zb_X6_holds_123  ih hk1 h
set_option maxRecDepth 100000 in
set_option maxHeartbeats 4000000 in
theorem zc_X6_holds   {k1 : Nat} {s : uS} {r : (uS × Bool)} (hk1 : uSo k1 3) (h : fn_X6_holds  k1 s = some r) : agf [] [] [] [1068, 1069, 1067, 1066] s r.1 := by
  unfold fn_X6_holds at h
  by_cases c4_0 : (s.I k1 0) = 15
  · replace h := uu_pos c4_0 h
    obtain ⟨v1, e2, h⟩ := uu_ob h
    have hr := Option.some.inj h
    subst hr
    exact agf.rf
  replace h := uu_neg c4_0 h
  by_cases c4_1 : (s.I k1 0) = 16
  · replace h := uu_pos c4_1 h
    by_cases c3 : (s.I k1 12) = 0
    · replace h := uu_pos c3 h
      by_cases c4 : (s.I k1 10) ≤ (s.I 1042 3)
      · replace h := uu_pos c4 h
        have hr := Option.some.inj h
        subst hr
        exact agf.rf
      · replace h := uu_neg c4 h
        have hr := Option.some.inj h
        subst hr
        exact agf.rf
    · replace h := uu_neg c3 h
      by_cases c5 : (s.I 1042 3) ≤ (s.I k1 10)
      · replace h := uu_pos c5 h
        have hr := Option.some.inj h
        subst hr
        exact agf.rf
      · replace h := uu_neg c5 h
        have hr := Option.some.inj h
        subst hr
        exact agf.rf
  replace h := uu_neg c4_1 h
  by_cases c4_2 : (s.I k1 0) = 17
  · replace h := uu_pos c4_2 h
    by_cases c6 : (s.I k1 6) = 3
    · replace h := uu_pos c6 h
      obtain ⟨r7, e8, h⟩ := uu_ob h
      refine ((zc_X6_isCount hk1 e8).mo (by decide) (by decide) (by decide) (List.forall_mem_cons.mpr ⟨(Or.inr (List.mem_of_getElem? (i := 3) rfl)), List.forall_mem_cons.mpr ⟨(Or.inr (List.mem_of_getElem? (i := 2) rfl)), List.forall_mem_cons.mpr ⟨(Or.inr (List.mem_of_getElem? (i := 1) rfl)), List.forall_mem_cons.mpr ⟨(Or.inr (List.mem_of_getElem? (i := 0) rfl)), fun _ h => nomatch h⟩⟩⟩⟩)).tr ?_
      have hr := Option.some.inj h
      subst hr
      exact agf.rf
    · replace h := uu_neg c6 h
      exact zn_X6_holds_123  _ _ _ hk1 _ _ h
  replace h := uu_neg c4_2 h
  by_cases c4_3 : (s.I k1 0) = 18
  · replace h := uu_pos c4_3 h
    by_cases c9 : (s.I k1 6) = 3
    · replace h := uu_pos c9 h
      obtain ⟨r10, e11, h⟩ := uu_ob h
      refine ((zc_X6_isCount hk1 e11).mo (by decide) (by decide) (by decide) (List.forall_mem_cons.mpr ⟨(Or.inr (List.mem_of_getElem? (i := 3) rfl)), List.forall_mem_cons.mpr ⟨(Or.inr (List.mem_of_getElem? (i := 2) rfl)), List.forall_mem_cons.mpr ⟨(Or.inr (List.mem_of_getElem? (i := 1) rfl)), List.forall_mem_cons.mpr ⟨(Or.inr (List.mem_of_getElem? (i := 0) rfl)), fun _ h => nomatch h⟩⟩⟩⟩)).tr ?_
      have hr := Option.some.inj h
      subst hr
      exact agf.rf
    · replace h := uu_neg c9 h
      exact zn_X6_holds_123  _ _ _ hk1 _ _ h
  replace h := uu_neg c4_3 h
  by_cases c4_4 : (s.I k1 0) = 19
  · replace h := uu_pos c4_4 h
    by_cases c12 : (s.I k1 6) = 3
    · replace h := uu_pos c12 h
      obtain ⟨r13, e14, h⟩ := uu_ob h
      refine ((zc_X6_isCount hk1 e14).mo (by decide) (by decide) (by decide) (List.forall_mem_cons.mpr ⟨(Or.inr (List.mem_of_getElem? (i := 3) rfl)), List.forall_mem_cons.mpr ⟨(Or.inr (List.mem_of_getElem? (i := 2) rfl)), List.forall_mem_cons.mpr ⟨(Or.inr (List.mem_of_getElem? (i := 1) rfl)), List.forall_mem_cons.mpr ⟨(Or.inr (List.mem_of_getElem? (i := 0) rfl)), fun _ h => nomatch h⟩⟩⟩⟩)).tr ?_
      have hr := Option.some.inj h
      subst hr
      exact agf.rf
    · replace h := uu_neg c12 h
      exact zn_X6_holds_123  _ _ _ hk1 _ _ h
  replace h := uu_neg c4_4 h
  by_cases c4_5 : (s.I k1 0) = 20
  · replace h := uu_pos c4_5 h
    have hr := Option.some.inj h
    subst hr
    exact agf.rf
  replace h := uu_neg c4_5 h
  by_cases c4_6 : (s.I k1 0) = 21
  · replace h := uu_pos c4_6 h
    have hr := Option.some.inj h
    subst hr
    exact agf.rf
  replace h := uu_neg c4_6 h
  by_cases c15 : (s.I k1 6) = 3
  · replace h := uu_pos c15 h
    obtain ⟨r16, e17, h⟩ := uu_ob h
    refine ((zc_X6_isCount hk1 e17).mo (by decide) (by decide) (by decide) (List.forall_mem_cons.mpr ⟨(Or.inr (List.mem_of_getElem? (i := 3) rfl)), List.forall_mem_cons.mpr ⟨(Or.inr (List.mem_of_getElem? (i := 2) rfl)), List.forall_mem_cons.mpr ⟨(Or.inr (List.mem_of_getElem? (i := 1) rfl)), List.forall_mem_cons.mpr ⟨(Or.inr (List.mem_of_getElem? (i := 0) rfl)), fun _ h => nomatch h⟩⟩⟩⟩)).tr ?_
    have hr := Option.some.inj h
    subst hr
    exact agf.rf
  · replace h := uu_neg c15 h
    exact zn_X6_holds_123  _ _ _ hk1 _ _ h
set_option maxRecDepth 100000 in
set_option maxHeartbeats 4000000 in
theorem zc_X7_clearPlan    {s : uS} {r : uS}  (h : fn_X7_clearPlan   s = some r) : agf [(1070, 5), (1070, 6), (1070, 7), (1070, 8), (1070, 9), (1070, 10), (1070, 13), (1070, 14), (1070, 15)] [] [] [] s r := by
  unfold fn_X7_clearPlan at h
  refine (agf_wI (a := 1070) (f := 5) (v := 0) (Or.inl (by decide))).tr ?_
  refine (agf_wI (a := 1070) (f := 6) (v := 0) (Or.inl (by decide))).tr ?_
  refine (agf_wI (a := 1070) (f := 7) (v := 0) (Or.inl (by decide))).tr ?_
  refine (agf_wR (a := 1070) (f := 9) (v := none) (Or.inl (by decide))).tr ?_
  refine (agf_wR (a := 1070) (f := 10) (v := none) (Or.inl (by decide))).tr ?_
  refine (agf_wI (a := 1070) (f := 8) (v := 0) (Or.inl (by decide))).tr ?_
  refine (agf_wI (a := 1070) (f := 15) (v := 0) (Or.inl (by decide))).tr ?_
  refine (agf_wI (a := 1070) (f := 14) (v := 1) (Or.inl (by decide))).tr ?_
  refine (agf_wI (a := 1070) (f := 13) (v := 0) (Or.inl (by decide))).tr ?_
  have hr := Option.some.inj h
  subst hr
  exact agf.rf
set_option maxRecDepth 100000 in
set_option maxHeartbeats 4000000 in
theorem zc_X7_begin   {k1 : Nat} {x2 : Int32} {s : uS} {r : uS} (hk1 : uSo k1 10) (h : fn_X7_begin  k1 x2 s = some r) : agf [(1070, 5), (1070, 6), (1070, 7), (1070, 8), (1070, 9), (1070, 10), (1070, 11), (1070, 12), (1070, 13), (1070, 14), (1070, 15), (1070, 16), (1070, 17)] [] [] [] s r := by
  unfold fn_X7_begin at h
  refine (agf_wR (a := 1070) (f := 11) (v := (some k1)) (Or.inl (by decide))).tr ?_
  refine (agf_wI (a := 1070) (f := 12) (v := x2) (Or.inl (by decide))).tr ?_
  refine (agf_wI (a := 1070) (f := 16) (v := 0) (Or.inl (by decide))).tr ?_
  refine (agf_wI (a := 1070) (f := 17) (v := 0) (Or.inl (by decide))).tr ?_
  obtain ⟨s1, e2, h⟩ := uu_ob h
  refine ((zc_X7_clearPlan  e2).mo (by decide) (by decide) (by decide) (fun _ h => nomatch h)).tr ?_
  have hr := Option.some.inj h
  subst hr
  exact agf.rf
set_option maxRecDepth 100000 in
set_option maxHeartbeats 4000000 in
theorem zc_X7_fail    {s : uS} {r : uS}  (h : fn_X7_fail   s = some r) : agf [(1070, 16), (1070, 17)] [] [] [] s r := by
  unfold fn_X7_fail at h
  refine (agf_wI (a := 1070) (f := 16) (v := 1) (Or.inl (by decide))).tr ?_
  refine (agf_wI (a := 1070) (f := 17) (v := 1) (Or.inl (by decide))).tr ?_
  have hr := Option.some.inj h
  subst hr
  exact agf.rf
set_option maxRecDepth 100000 in
set_option maxHeartbeats 4000000 in
theorem zc_X7_act   {k1 : Nat} {s : uS} {r : (uS × Bool)} (hk1 : uSo k1 3) (h : fn_X7_act  k1 s = some r) : agf [(1070, 14), (1070, 15), (1070, 16), (1070, 17)] [] [] [] s r.1 := by
  unfold fn_X7_act at h
  cases eo1 : s.R 1070 10 with
  | none =>
    rw [eo1] at h
    refine (agf_wI (a := 1070) (f := 15) (v := 1) (Or.inl (by decide))).tr ?_
    by_cases c2 : ((wI s 1070 15 1).I 1070 14) = 0
    · replace h := uu_pos c2 h
      refine (agf_wI (a := 1070) (f := 14) (v := 0) (Or.inl (by decide))).tr ?_
      have hr := Option.some.inj h
      subst hr
      exact agf.rf
    · replace h := uu_neg c2 h
      obtain ⟨v3, e4, h⟩ := uu_ob h
      by_cases c5 : v3 = true
      · replace h := uu_pos c5 h
        refine (agf_wI (a := 1070) (f := 14) (v := 1) (Or.inl (by decide))).tr ?_
        have hr := Option.some.inj h
        subst hr
        exact agf.rf
      · replace h := uu_neg c5 h
        refine (agf_wI (a := 1070) (f := 14) (v := 0) (Or.inl (by decide))).tr ?_
        have hr := Option.some.inj h
        subst hr
        exact agf.rf
  | some j1 =>
    rw [eo1] at h
    obtain ⟨hj1, h⟩ := uu_grd h
    obtain ⟨s6, e7, h⟩ := uu_ob h
    refine ((zc_X7_fail  e7).mo (by decide) (by decide) (by decide) (fun _ h => nomatch h)).tr ?_
    have hr := Option.some.inj h
    subst hr
    exact agf.rf
set_option maxRecDepth 100000 in
set_option maxHeartbeats 4000000 in
theorem zb_X7_addFile_2  {K2 : Int32 → Int32 → Int32 → uS → Option uS}  (hK2 : ∀ (x1 : Int32) (x2 : Int32) (x3 : Int32)  (s : uS) (r : uS), K2 x1 x2 x3 s = some r → agf [(1070, 5)] [1071, 1072] [] [] s r) {x1 : Int32} {x2 : Int32} {x3 : Int32} {s : uS} {r : uS}  (h : fb_X7_addFile_2  K2 x1 x2 x3 s = some r) : agf [(1070, 5)] [1071, 1072] [] [] s r := by
  unfold fb_X7_addFile_2 at h
  by_cases c1 : (s.I 1070 5) ≤ x3
  · replace h := uu_pos c1 h
    obtain ⟨v2, e3, h⟩ := uu_ob h
    by_cases c4 : v2 ≤ (s.I 1070 5)
    · replace h := uu_pos c4 h
      have hr := Option.some.inj h
      subst hr
      exact agf.rf
    · replace h := uu_neg c4 h
      obtain ⟨s5, e6, h⟩ := uu_ob h
      refine (agf_iput e6 (Or.inl (by decide))).tr ?_
      obtain ⟨s7, e8, h⟩ := uu_ob h
      refine (agf_iput e8 (Or.inl (by decide))).tr ?_
      refine (agf_wI (a := 1070) (f := 5) (v := (s7.I 1070 5) + 1) (Or.inl (by decide))).tr ?_
      have hr := Option.some.inj h
      subst hr
      exact agf.rf
  · replace h := uu_neg c1 h
    obtain ⟨v9, e10, h⟩ := uu_ob h
    by_cases c11 : v9 = x1
    · replace h := uu_pos c11 h
      have hr := Option.some.inj h
      subst hr
      exact agf.rf
    · replace h := uu_neg c11 h
      exact hK2 x1 x2 (x3 + 1) _ _ h
set_option maxRecDepth 100000 in
set_option maxHeartbeats 4000000 in
theorem zn_X7_addFile_2     : ∀ (n : Nat) (x1 : Int32) (x2 : Int32) (x3 : Int32)  (s : uS) (r : uS), fn_X7_addFile_2   n x1 x2 x3 s = some r → agf [(1070, 5)] [1071, 1072] [] [] s r := by
  intro n
  induction n with
  | zero => intro x1 x2 x3  s r h
            cases h
  | succ n ih => intro x1 x2 x3  s r h
                 exact zb_X7_addFile_2  ih  h
set_option maxRecDepth 100000 in
set_option maxHeartbeats 4000000 in
theorem zc_X7_addFile   {x1 : Int32} {x2 : Int32} {s : uS} {r : uS}  (h : fn_X7_addFile  x1 x2 s = some r) : agf [(1070, 5)] [1071, 1072] [] [] s r := by
  unfold fn_X7_addFile at h
  exact zn_X7_addFile_2  _ _ _ _ _ _ h
set_option maxRecDepth 100000 in
set_option maxHeartbeats 4000000 in
theorem zb_X7_file_34     {xs0 : Int32} {xs1 : Int32} {s : uS} {r : uS}  (h : fb_X7_file_34   xs0 xs1 s = some r) : agf [(1070, 5), (1070, 14), (1070, 15), (1070, 16), (1070, 17)] [1071, 1072] [] [] s r := by
  unfold fb_X7_file_34 at h
  obtain ⟨s1, e2, h⟩ := uu_ob h
  refine ((zc_X7_addFile  e2).mo (by decide) (by decide) (by decide) (fun _ h => nomatch h)).tr ?_
  have hr := Option.some.inj h
  subst hr
  exact agf.rf
set_option maxRecDepth 100000 in
set_option maxHeartbeats 4000000 in
theorem zc_X7_file   {x1 : Int32} {k2 : Nat} {s : uS} {r : uS} (hk2 : uSo k2 3) (h : fn_X7_file  x1 k2 s = some r) : agf [(1070, 5), (1070, 14), (1070, 15), (1070, 16), (1070, 17)] [1071, 1072] [] [] s r := by
  unfold fn_X7_file at h
  by_cases c1 : x1 < 0
  · replace h := uu_pos c1 h
    have hr := Option.some.inj h
    subst hr
    exact agf.rf
  · replace h := uu_neg c1 h
    obtain ⟨r2, e3, h⟩ := uu_ob h
    refine ((zc_X7_act hk2 e3).mo (by decide) (by decide) (by decide) (fun _ h => nomatch h)).tr ?_
    by_cases c4 : r2.2 = true
    · replace h := uu_pos c4 h
      obtain ⟨v5, e6, h⟩ := uu_ob h
      by_cases c7 : v5 = true
      · replace h := uu_pos c7 h
        exact zb_X7_file_34  h
      · replace h := uu_neg c7 h
        exact zb_X7_file_34  h
    · replace h := uu_neg c4 h
      have hr := Option.some.inj h
      subst hr
      exact agf.rf
set_option maxRecDepth 100000 in
set_option maxHeartbeats 4000000 in
theorem zb_X7_boxOf_80  {K80 : Int32 → Int32 → uS → Option (uS × Int32)}  (hK80 : ∀ (x1 : Int32) (x3 : Int32)  (s : uS) (r : (uS × Int32)), K80 x1 x3 s = some r → agf [(1070, 6), (1070, 16), (1070, 17)] [1073] [] [] s r.1) {x1 : Int32} {x3 : Int32} {s : uS} {r : (uS × Int32)}  (h : fb_X7_boxOf_80  K80 x1 x3 s = some r) : agf [(1070, 6), (1070, 16), (1070, 17)] [1073] [] [] s r.1 := by
  unfold fb_X7_boxOf_80 at h
  by_cases c1 : (s.I 1070 6) ≤ x3
  · replace h := uu_pos c1 h
    obtain ⟨j2, e3, h⟩ := uu_ob h
    obtain ⟨g4, h⟩ := uu_grd h
    by_cases c5 : ((s.I (j2 + 3) 3) + (s.I 1070 6)) < 6
    · replace h := uu_pos c5 h
      obtain ⟨s6, e7, h⟩ := uu_ob h
      refine (agf_iput e7 (Or.inl (by decide))).tr ?_
      refine (agf_wI (a := 1070) (f := 6) (v := (s6.I 1070 6) + 1) (Or.inl (by decide))).tr ?_
      obtain ⟨j8, e9, h⟩ := uu_ob h
      obtain ⟨g10, h⟩ := uu_grd h
      have hr := Option.some.inj h
      subst hr
      exact agf.rf
    · replace h := uu_neg c5 h
      obtain ⟨s11, e12, h⟩ := uu_ob h
      refine ((zc_X7_fail  e12).mo (by decide) (by decide) (by decide) (fun _ h => nomatch h)).tr ?_
      have hr := Option.some.inj h
      subst hr
      exact agf.rf
  · replace h := uu_neg c1 h
    obtain ⟨v13, e14, h⟩ := uu_ob h
    obtain ⟨v15, e16, h⟩ := uu_ob h
    by_cases c17 : v15 = true
    · replace h := uu_pos c17 h
      obtain ⟨j18, e19, h⟩ := uu_ob h
      obtain ⟨g20, h⟩ := uu_grd h
      have hr := Option.some.inj h
      subst hr
      exact agf.rf
    · replace h := uu_neg c17 h
      exact hK80 x1 (x3 + 1) _ _ h
set_option maxRecDepth 100000 in
set_option maxHeartbeats 4000000 in
theorem zn_X7_boxOf_80     : ∀ (n : Nat) (x1 : Int32) (x3 : Int32)  (s : uS) (r : (uS × Int32)), fn_X7_boxOf_80   n x1 x3 s = some r → agf [(1070, 6), (1070, 16), (1070, 17)] [1073] [] [] s r.1 := by
  intro n
  induction n with
  | zero => intro x1 x3  s r h
            cases h
  | succ n ih => intro x1 x3  s r h
                 exact zb_X7_boxOf_80  ih  h
set_option maxRecDepth 100000 in
set_option maxHeartbeats 4000000 in
theorem zb_X7_boxOf_39  {K39 : Int32 → Int32 → uS → Option (uS × Int32)}  (hK39 : ∀ (x1 : Int32) (x3 : Int32)  (s : uS) (r : (uS × Int32)), K39 x1 x3 s = some r → agf [(1070, 6), (1070, 16), (1070, 17)] [1073] [] [] s r.1) {x1 : Int32} {x3 : Int32} {s : uS} {r : (uS × Int32)}  (h : fb_X7_boxOf_39  K39 x1 x3 s = some r) : agf [(1070, 6), (1070, 16), (1070, 17)] [1073] [] [] s r.1 := by
  unfold fb_X7_boxOf_39 at h
  obtain ⟨j1, e2, h⟩ := uu_ob h
  obtain ⟨g3, h⟩ := uu_grd h
  by_cases c4 : (s.I (j1 + 3) 3) ≤ x3
  · replace h := uu_pos c4 h
    exact zn_X7_boxOf_80  _ _ _ _ _ h
  · replace h := uu_neg c4 h
    obtain ⟨j5, e6, h⟩ := uu_ob h
    obtain ⟨g7, h⟩ := uu_grd h
    obtain ⟨v8, e9, h⟩ := uu_ob h
    by_cases c10 : v8 = true
    · replace h := uu_pos c10 h
      have hr := Option.some.inj h
      subst hr
      exact agf.rf
    · replace h := uu_neg c10 h
      exact hK39 x1 (x3 + 1) _ _ h
set_option maxRecDepth 100000 in
set_option maxHeartbeats 4000000 in
theorem zn_X7_boxOf_39     : ∀ (n : Nat) (x1 : Int32) (x3 : Int32)  (s : uS) (r : (uS × Int32)), fn_X7_boxOf_39   n x1 x3 s = some r → agf [(1070, 6), (1070, 16), (1070, 17)] [1073] [] [] s r.1 := by
  intro n
  induction n with
  | zero => intro x1 x3  s r h
            cases h
  | succ n ih => intro x1 x3  s r h
                 exact zb_X7_boxOf_39  ih  h
set_option maxRecDepth 100000 in
set_option maxHeartbeats 4000000 in
theorem zc_X7_boxOf   {x1 : Int32} {s : uS} {r : (uS × Int32)}  (h : fn_X7_boxOf  x1 s = some r) : agf [(1070, 6), (1070, 16), (1070, 17)] [1073] [] [] s r.1 := by
  unfold fn_X7_boxOf at h
  obtain ⟨v2, e3, h⟩ := uu_ob h
  obtain ⟨v4, e5, h⟩ := uu_ob h
  obtain ⟨v6, e7, h⟩ := uu_ob h
  by_cases c8 : v6 = 0
  · replace h := uu_pos c8 h
    have hr := Option.some.inj h
    subst hr
    exact agf.rf
  · replace h := uu_neg c8 h
    exact zn_X7_boxOf_39  _ _ _ _ _ h
set_option maxRecDepth 100000 in
set_option maxHeartbeats 4000000 in
theorem zb_X7_redirect_30  {K30 : Int32 → Int32 → uS → Option uS}  (hK30 : ∀ (x3 : Int32) (x4 : Int32)  (s : uS) (r : uS), K30 x3 x4 s = some r → agf [(1070, 7), (1070, 14), (1070, 15), (1070, 16), (1070, 17)] [1074] [] [] s r) {x3 : Int32} {x4 : Int32} {s : uS} {r : uS}  (h : fb_X7_redirect_30  K30 x3 x4 s = some r) : agf [(1070, 7), (1070, 14), (1070, 15), (1070, 16), (1070, 17)] [1074] [] [] s r := by
  unfold fb_X7_redirect_30 at h
  by_cases c1 : (s.I 1070 7) ≤ x4
  · replace h := uu_pos c1 h
    by_cases c2 : (s.I 1070 7) = 4
    · replace h := uu_pos c2 h
      obtain ⟨s3, e4, h⟩ := uu_ob h
      refine ((zc_X7_fail  e4).mo (by decide) (by decide) (by decide) (fun _ h => nomatch h)).tr ?_
      have hr := Option.some.inj h
      subst hr
      exact agf.rf
    · replace h := uu_neg c2 h
      obtain ⟨s5, e6, h⟩ := uu_ob h
      refine (agf_iput e6 (Or.inl (by decide))).tr ?_
      refine (agf_wI (a := 1070) (f := 7) (v := (s5.I 1070 7) + 1) (Or.inl (by decide))).tr ?_
      have hr := Option.some.inj h
      subst hr
      exact agf.rf
  · replace h := uu_neg c1 h
    obtain ⟨v7, e8, h⟩ := uu_ob h
    obtain ⟨v9, e10, h⟩ := uu_ob h
    by_cases c11 : v9 = true
    · replace h := uu_pos c11 h
      have hr := Option.some.inj h
      subst hr
      exact agf.rf
    · replace h := uu_neg c11 h
      exact hK30 x3 (x4 + 1) _ _ h
set_option maxRecDepth 100000 in
set_option maxHeartbeats 4000000 in
theorem zn_X7_redirect_30     : ∀ (n : Nat) (x3 : Int32) (x4 : Int32)  (s : uS) (r : uS), fn_X7_redirect_30   n x3 x4 s = some r → agf [(1070, 7), (1070, 14), (1070, 15), (1070, 16), (1070, 17)] [1074] [] [] s r := by
  intro n
  induction n with
  | zero => intro x3 x4  s r h
            cases h
  | succ n ih => intro x3 x4  s r h
                 exact zb_X7_redirect_30  ih  h
set_option maxRecDepth 100000 in
set_option maxHeartbeats 4000000 in
theorem zc_X7_redirect   {k1 : Nat} {s : uS} {r : uS} (hk1 : uSo k1 3) (h : fn_X7_redirect  k1 s = some r) : agf [(1070, 7), (1070, 14), (1070, 15), (1070, 16), (1070, 17)] [1074] [] [] s r := by
  unfold fn_X7_redirect at h
  obtain ⟨v1, e2, h⟩ := uu_ob h
  obtain ⟨r3, e4, h⟩ := uu_ob h
  refine ((zc_X7_act hk1 e4).mo (by decide) (by decide) (by decide) (fun _ h => nomatch h)).tr ?_
  by_cases c5 : r3.2 = true
  · replace h := uu_pos c5 h
    exact zn_X7_redirect_30  _ _ _ _ _ h
  · replace h := uu_neg c5 h
    have hr := Option.some.inj h
    subst hr
    exact agf.rf
set_option maxRecDepth 100000 in
set_option maxHeartbeats 4000000 in
theorem zb_X7_rejectMessage_21      {s : uS} {r : uS}  (h : fb_X7_rejectMessage_21    s = some r) : agf [(1070, 10), (1070, 14), (1070, 16), (1070, 17)] [] [] [] s r := by
  unfold fb_X7_rejectMessage_21 at h
  obtain ⟨s1, e2, h⟩ := uu_ob h
  refine ((zc_X7_fail  e2).mo (by decide) (by decide) (by decide) (fun _ h => nomatch h)).tr ?_
  have hr := Option.some.inj h
  subst hr
  exact agf.rf
set_option maxRecDepth 100000 in
set_option maxHeartbeats 4000000 in
theorem zc_X7_rejectMessage   {k1 : Nat} {s : uS} {r : uS} (hk1 : uSo k1 3) (h : fn_X7_rejectMessage  k1 s = some r) : agf [(1070, 10), (1070, 14), (1070, 16), (1070, 17)] [] [] [] s r := by
  unfold fn_X7_rejectMessage at h
  by_cases c1 : (s.I 1070 15) = 0
  · replace h := uu_pos c1 h
    cases eo2 : s.R 1070 10 with
    | none =>
      rw [eo2] at h
      cases eo3 : s.R 1070 9 with
      | none =>
        rw [eo3] at h
        refine (agf_wR (a := 1070) (f := 10) (v := (some k1)) (Or.inl (by decide))).tr ?_
        refine (agf_wI (a := 1070) (f := 14) (v := 0) (Or.inl (by decide))).tr ?_
        have hr := Option.some.inj h
        subst hr
        exact agf.rf
      | some j3 =>
        rw [eo3] at h
        obtain ⟨hj3, h⟩ := uu_grd h
        exact zb_X7_rejectMessage_21  h
    | some j2 =>
      rw [eo2] at h
      obtain ⟨hj2, h⟩ := uu_grd h
      exact zb_X7_rejectMessage_21  h
  · replace h := uu_neg c1 h
    exact zb_X7_rejectMessage_21  h
set_option maxRecDepth 100000 in
set_option maxHeartbeats 4000000 in
theorem zb_X7_goAway_14      {s : uS} {r : uS}  (h : fb_X7_goAway_14    s = some r) : agf [(1070, 9), (1070, 16), (1070, 17)] [] [] [] s r := by
  unfold fb_X7_goAway_14 at h
  obtain ⟨s1, e2, h⟩ := uu_ob h
  refine ((zc_X7_fail  e2).mo (by decide) (by decide) (by decide) (fun _ h => nomatch h)).tr ?_
  have hr := Option.some.inj h
  subst hr
  exact agf.rf
set_option maxRecDepth 100000 in
set_option maxHeartbeats 4000000 in
theorem zc_X7_goAway   {k1 : Nat} {s : uS} {r : uS} (hk1 : uSo k1 3) (h : fn_X7_goAway  k1 s = some r) : agf [(1070, 9), (1070, 16), (1070, 17)] [] [] [] s r := by
  unfold fn_X7_goAway at h
  cases eo1 : s.R 1070 10 with
  | none =>
    rw [eo1] at h
    cases eo2 : s.R 1070 9 with
    | none =>
      rw [eo2] at h
      refine (agf_wR (a := 1070) (f := 9) (v := (some k1)) (Or.inl (by decide))).tr ?_
      have hr := Option.some.inj h
      subst hr
      exact agf.rf
    | some j2 =>
      rw [eo2] at h
      obtain ⟨hj2, h⟩ := uu_grd h
      exact zb_X7_goAway_14  h
  | some j1 =>
    rw [eo1] at h
    obtain ⟨hj1, h⟩ := uu_grd h
    exact zb_X7_goAway_14  h
set_option maxRecDepth 100000 in
set_option maxHeartbeats 4000000 in
theorem zc_X7_perform   {k1 : Nat} {s : uS} {r : uS} (hk1 : uSo k1 3) (h : fn_X7_perform  k1 s = some r) : agf [(1070, 5), (1070, 6), (1070, 7), (1070, 9), (1070, 10), (1070, 13), (1070, 14), (1070, 15), (1070, 16), (1070, 17)] [1071, 1072, 1073, 1074] [] [] s r := by
  unfold fn_X7_perform at h
  by_cases c4_0 : (s.I k1 0) = 1
  · replace h := uu_pos c4_0 h
    refine (agf_wI (a := 1070) (f := 17) (v := 1) (Or.inl (by decide))).tr ?_
    have hr := Option.some.inj h
    subst hr
    exact agf.rf
  replace h := uu_neg c4_0 h
  by_cases c4_1 : (s.I k1 0) = 2
  · replace h := uu_pos c4_1 h
    refine (agf_wI (a := 1070) (f := 14) (v := 0) (Or.inl (by decide))).tr ?_
    have hr := Option.some.inj h
    subst hr
    exact agf.rf
  replace h := uu_neg c4_1 h
  by_cases c4_2 : (s.I k1 0) = 3
  · replace h := uu_pos c4_2 h
    obtain ⟨s1, e2, h⟩ := uu_ob h
    refine ((zc_X7_file hk1 e2).mo (by decide) (by decide) (by decide) (fun _ h => nomatch h)).tr ?_
    have hr := Option.some.inj h
    subst hr
    exact agf.rf
  replace h := uu_neg c4_2 h
  by_cases c4_3 : (s.I k1 0) = 4
  · replace h := uu_pos c4_3 h
    obtain ⟨v3, e4, h⟩ := uu_ob h
    obtain ⟨r5, e6, h⟩ := uu_ob h
    refine ((zc_X7_boxOf  e6).mo (by decide) (by decide) (by decide) (fun _ h => nomatch h)).tr ?_
    obtain ⟨s7, e8, h⟩ := uu_ob h
    refine ((zc_X7_file hk1 e8).mo (by decide) (by decide) (by decide) (fun _ h => nomatch h)).tr ?_
    have hr := Option.some.inj h
    subst hr
    exact agf.rf
  replace h := uu_neg c4_3 h
  by_cases c4_4 : (s.I k1 0) = 5
  · replace h := uu_pos c4_4 h
    obtain ⟨s9, e10, h⟩ := uu_ob h
    refine ((zc_X7_redirect hk1 e10).mo (by decide) (by decide) (by decide) (fun _ h => nomatch h)).tr ?_
    have hr := Option.some.inj h
    subst hr
    exact agf.rf
  replace h := uu_neg c4_4 h
  by_cases c4_5 : (s.I k1 0) = 6
  · replace h := uu_pos c4_5 h
    obtain ⟨s11, e12, h⟩ := uu_ob h
    refine ((zc_X7_rejectMessage hk1 e12).mo (by decide) (by decide) (by decide) (fun _ h => nomatch h)).tr ?_
    have hr := Option.some.inj h
    subst hr
    exact agf.rf
  replace h := uu_neg c4_5 h
  by_cases c4_6 : (s.I k1 0) = 7
  · replace h := uu_pos c4_6 h
    refine (agf_wI (a := 1070) (f := 13) (v := s.I k1 11) (Or.inl (by decide))).tr ?_
    have hr := Option.some.inj h
    subst hr
    exact agf.rf
  replace h := uu_neg c4_6 h
  by_cases c4_7 : (s.I k1 0) = 8
  · replace h := uu_pos c4_7 h
    refine (agf_wI (a := 1070) (f := 13) (v := (s.I 1070 13) ||| (s.I k1 11)) (Or.inl (by decide))).tr ?_
    have hr := Option.some.inj h
    subst hr
    exact agf.rf
  replace h := uu_neg c4_7 h
  by_cases c4_8 : (s.I k1 0) = 9
  · replace h := uu_pos c4_8 h
    refine (agf_wI (a := 1070) (f := 13) (v := (s.I 1070 13) &&& ((s.I k1 11) ^^^ (-1))) (Or.inl (by decide))).tr ?_
    have hr := Option.some.inj h
    subst hr
    exact agf.rf
  replace h := uu_neg c4_8 h
  by_cases c4_9 : (s.I k1 0) = 10
  · replace h := uu_pos c4_9 h
    obtain ⟨s13, e14, h⟩ := uu_ob h
    refine ((zc_X7_goAway hk1 e14).mo (by decide) (by decide) (by decide) (fun _ h => nomatch h)).tr ?_
    have hr := Option.some.inj h
    subst hr
    exact agf.rf
  replace h := uu_neg c4_9 h
  have hr := Option.some.inj h
  subst hr
  exact agf.rf
set_option maxRecDepth 100000 in
set_option maxHeartbeats 4000000 in
theorem zb_X9_putText_2  {K2 : Nat → List Nat → Int32 → uS → Option uS}  (hK2 : ∀ (k0 : Nat) (w1 : List Nat) (x2 : Int32) (hk0 : uSo k0 9) (s : uS) (r : uS), K2 k0 w1 x2 s = some r → agf [] [] [] [k0, k0 + 1] s r) {k0 : Nat} {w1 : List Nat} {x2 : Int32} {s : uS} {r : uS} (hk0 : uSo k0 9) (h : fb_X9_putText_2  K2 k0 w1 x2 s = some r) : agf [] [] [] [k0, k0 + 1] s r := by
  unfold fb_X9_putText_2 at h
  by_cases c1 : (nI w1.length) ≤ x2
  · replace h := uu_pos c1 h
    have hr := Option.some.inj h
    subst hr
    exact agf.rf
  · replace h := uu_neg c1 h
    obtain ⟨v2, e3, h⟩ := uu_ob h
    obtain ⟨s4, e5, h⟩ := uu_ob h
    refine ((zc_X9_put hk0 e5).mo (by decide) (by decide) (by decide) (List.forall_mem_cons.mpr ⟨(Or.inr (List.mem_of_getElem? (i := 1) rfl)), List.forall_mem_cons.mpr ⟨(Or.inr (List.mem_of_getElem? (i := 0) rfl)), fun _ h => nomatch h⟩⟩)).tr ?_
    exact hK2 k0 w1 (x2 + 1) hk0 _ _ h
set_option maxRecDepth 100000 in
set_option maxHeartbeats 4000000 in
theorem zn_X9_putText_2     : ∀ (n : Nat) (k0 : Nat) (w1 : List Nat) (x2 : Int32) (hk0 : uSo k0 9) (s : uS) (r : uS), fn_X9_putText_2   n k0 w1 x2 s = some r → agf [] [] [] [k0, k0 + 1] s r := by
  intro n
  induction n with
  | zero => intro k0 w1 x2 hk0 s r h
            cases h
  | succ n ih => intro k0 w1 x2 hk0 s r h
                 exact zb_X9_putText_2  ih hk0 h
set_option maxRecDepth 100000 in
set_option maxHeartbeats 4000000 in
theorem zc_X9_putText   {k0 : Nat} {w1 : List Nat} {s : uS} {r : uS} (hk0 : uSo k0 9) (h : fn_X9_putText  k0 w1 s = some r) : agf [] [] [] [k0, k0 + 1] s r := by
  unfold fn_X9_putText at h
  exact zn_X9_putText_2  _ _ _ _ hk0 _ _ h
set_option maxRecDepth 100000 in
set_option maxHeartbeats 4000000 in
theorem zc_X8_reset   {k0 : Nat} {s : uS} {r : uS} (hk0 : uSo k0 8) (h : fn_X8_reset  k0 s = some r) : agf [] [] [] [k0 + 1, k0] s r := by
  unfold fn_X8_reset at h
  obtain ⟨s1, e2, h⟩ := uu_ob h
  refine ((zc_X9_clear (so_parts hk0) e2).mo (by decide) (by decide) (by decide) (List.forall_mem_cons.mpr ⟨(Or.inr (List.mem_of_getElem? (i := 0) rfl)), fun _ h => nomatch h⟩)).tr ?_
  refine (agf_wI (a := k0) (f := 4) (v := 0) (Or.inr (Or.inr (List.mem_of_getElem? (i := 1) rfl)))).tr ?_
  refine (agf_wI (a := k0) (f := 5) (v := 0) (Or.inr (Or.inr (List.mem_of_getElem? (i := 1) rfl)))).tr ?_
  have hr := Option.some.inj h
  subst hr
  exact agf.rf
set_option maxRecDepth 100000 in
set_option maxHeartbeats 4000000 in
theorem zc_X8_go   {k0 : Nat} {x1 : Int32} {s : uS} {r : (uS × Int32)} (hk0 : uSo k0 8) (h : fn_X8_go  k0 x1 s = some r) : agf [] [] [] [k0] s r.1 := by
  unfold fn_X8_go at h
  refine (agf_wI (a := k0) (f := 5) (v := x1) (Or.inr (Or.inr (List.mem_of_getElem? (i := 0) rfl)))).tr ?_
  have hr := Option.some.inj h
  subst hr
  exact agf.rf
set_option maxRecDepth 100000 in
set_option maxHeartbeats 4000000 in
theorem zb_X8_partEnd_38     {k0 : Nat} {x1 : Int32} {s : uS} {r : (uS × Int32)} (hk0 : uSo k0 8) (h : fb_X8_partEnd_38   k0 x1 s = some r) : agf [] [] [] [k0] s r.1 := by
  unfold fb_X8_partEnd_38 at h
  obtain ⟨r1, e2, h⟩ := uu_ob h
  refine ((zc_X8_passOver hk0 e2).mo (by decide) (by decide) (by decide) (List.forall_mem_cons.mpr ⟨(Or.inr (List.mem_of_getElem? (i := 0) rfl)), fun _ h => nomatch h⟩)).tr ?_
  have hr := Option.some.inj h
  subst hr
  exact agf.rf
set_option maxRecDepth 100000 in
set_option maxHeartbeats 4000000 in
theorem zc_X8_partEnd   {k0 : Nat} {x1 : Int32} {s : uS} {r : (uS × Int32)} (hk0 : uSo k0 8) (h : fn_X8_partEnd  k0 x1 s = some r) : agf [] [] [] [k0] s r.1 := by
  unfold fn_X8_partEnd at h
  by_cases c1 : x1 = 13
  · replace h := uu_pos c1 h
    obtain ⟨r2, e3, h⟩ := uu_ob h
    refine ((zc_X8_go hk0 e3).mo (by decide) (by decide) (by decide) (List.forall_mem_cons.mpr ⟨(Or.inr (List.mem_of_getElem? (i := 0) rfl)), fun _ h => nomatch h⟩)).tr ?_
    have hr := Option.some.inj h
    subst hr
    exact agf.rf
  · replace h := uu_neg c1 h
    by_cases c4 : x1 = 32
    · replace h := uu_pos c4 h
      by_cases c5 : (3 : Int32) ≤ (s.I (k0 + 1) 3)
      · replace h := uu_pos c5 h
        exact zb_X8_partEnd_38 hk0 h
      · replace h := uu_neg c5 h
        obtain ⟨r6, e7, h⟩ := uu_ob h
        refine ((zc_X8_go hk0 e7).mo (by decide) (by decide) (by decide) (List.forall_mem_cons.mpr ⟨(Or.inr (List.mem_of_getElem? (i := 0) rfl)), fun _ h => nomatch h⟩)).tr ?_
        have hr := Option.some.inj h
        subst hr
        exact agf.rf
    · replace h := uu_neg c4 h
      exact zb_X8_partEnd_38 hk0 h
set_option maxRecDepth 100000 in
set_option maxHeartbeats 4000000 in
theorem zc_X8_inWord   {k0 : Nat} {x1 : Int32} {s : uS} {r : (uS × Int32)} (hk0 : uSo k0 8) (h : fn_X8_inWord  k0 x1 s = some r) : agf [] [] [] [k0 + 6, k0] s r.1 := by
  unfold fn_X8_inWord at h
  obtain ⟨v1, e2, h⟩ := uu_ob h
  by_cases c3 : v1 = true
  · replace h := uu_pos c3 h
    by_cases c4 : (13 : Int32) ≤ (s.I k0 4)
    · replace h := uu_pos c4 h
      have hr := Option.some.inj h
      subst hr
      exact agf.rf
    · replace h := uu_neg c4 h
      obtain ⟨s5, e6, h⟩ := uu_ob h
      refine (agf_iput e6 (Or.inr (Or.inr (List.mem_of_getElem? (i := 0) rfl)))).tr ?_
      refine (agf_wI (a := k0) (f := 4) (v := (s5.I k0 4) + 1) (Or.inr (Or.inr (List.mem_of_getElem? (i := 1) rfl)))).tr ?_
      have hr := Option.some.inj h
      subst hr
      exact agf.rf
  · replace h := uu_neg c3 h
    by_cases c7 : (s.I k0 4) = 0
    · replace h := uu_pos c7 h
      obtain ⟨r8, e9, h⟩ := uu_ob h
      refine ((zc_X8_passOver hk0 e9).mo (by decide) (by decide) (by decide) (List.forall_mem_cons.mpr ⟨(Or.inr (List.mem_of_getElem? (i := 1) rfl)), fun _ h => nomatch h⟩)).tr ?_
      have hr := Option.some.inj h
      subst hr
      exact agf.rf
    · replace h := uu_neg c7 h
      obtain ⟨r10, e11, h⟩ := uu_ob h
      refine ((zc_X8_partEnd hk0 e11).mo (by decide) (by decide) (by decide) (List.forall_mem_cons.mpr ⟨(Or.inr (List.mem_of_getElem? (i := 1) rfl)), fun _ h => nomatch h⟩)).tr ?_
      have hr := Option.some.inj h
      subst hr
      exact agf.rf
set_option maxRecDepth 100000 in
set_option maxHeartbeats 4000000 in
theorem zb_X8_closePart_24     {k0 : Nat} {s : uS} {r : (uS × Int32)} (hk0 : uSo k0 8) (h : fb_X8_closePart_24   k0 s = some r) : agf [] [] [] [k0 + 4, k0 + 3, k0 + 1, k0, k0 + 5] s r.1 := by
  unfold fb_X8_closePart_24 at h
  obtain ⟨s1, e2, h⟩ := uu_ob h
  refine ((zc_X9_close (so_parts hk0) e2).mo (by decide) (by decide) (by decide) (List.forall_mem_cons.mpr ⟨(Or.inr (List.mem_of_getElem? (i := 2) rfl)), List.forall_mem_cons.mpr ⟨(Or.inr (List.mem_of_getElem? (i := 1) rfl)), List.forall_mem_cons.mpr ⟨(Or.inr (List.mem_of_getElem? (i := 0) rfl)), fun _ h => nomatch h⟩⟩⟩)).tr ?_
  obtain ⟨r3, e4, h⟩ := uu_ob h
  refine ((zc_X8_go hk0 e4).mo (by decide) (by decide) (by decide) (List.forall_mem_cons.mpr ⟨(Or.inr (List.mem_of_getElem? (i := 3) rfl)), fun _ h => nomatch h⟩)).tr ?_
  have hr := Option.some.inj h
  subst hr
  exact agf.rf
set_option maxRecDepth 100000 in
set_option maxHeartbeats 4000000 in
theorem zc_X8_closePart   {k0 : Nat} {x1 : Int32} {s : uS} {r : (uS × Int32)} (hk0 : uSo k0 8) (h : fn_X8_closePart  k0 x1 s = some r) : agf [] [] [] [k0 + 4, k0 + 3, k0 + 1, k0, k0 + 5] s r.1 := by
  unfold fn_X8_closePart at h
  by_cases c1 : (3 : Int32) ≤ (s.I (k0 + 1) 3)
  · replace h := uu_pos c1 h
    exact zb_X8_closePart_24 hk0 h
  · replace h := uu_neg c1 h
    obtain ⟨s2, e3, h⟩ := uu_ob h
    refine (agf_iput e3 (Or.inr (Or.inr (List.mem_of_getElem? (i := 4) rfl)))).tr ?_
    exact zb_X8_closePart_24 hk0 h
set_option maxRecDepth 100000 in
set_option maxHeartbeats 4000000 in
theorem zc_X8_addDigit   {k0 : Nat} {x1 : Int32} {s : uS} {r : (uS × Bool)} (hk0 : uSo k0 8) (h : fn_X8_addDigit  k0 x1 s = some r) : agf [] [] [] [k0] s r.1 := by
  unfold fn_X8_addDigit at h
  by_cases c1 : (s.I k0 6) = 9
  · replace h := uu_pos c1 h
    have hr := Option.some.inj h
    subst hr
    exact agf.rf
  · replace h := uu_neg c1 h
    refine (agf_wI (a := k0) (f := 1) (v := (((s.I k0 1) * 10) + x1) - 48) (Or.inr (Or.inr (List.mem_of_getElem? (i := 0) rfl)))).tr ?_
    refine (agf_wI (a := k0) (f := 6) (v := ((wI s k0 1 ((((s.I k0 1) * 10) + x1) - 48)).I k0 6) + 1) (Or.inr (Or.inr (List.mem_of_getElem? (i := 0) rfl)))).tr ?_
    have hr := Option.some.inj h
    subst hr
    exact agf.rf
set_option maxRecDepth 100000 in
set_option maxHeartbeats 4000000 in
theorem zc_X8_inNumber   {k0 : Nat} {x1 : Int32} {s : uS} {r : (uS × Int32)} (hk0 : uSo k0 8) (h : fn_X8_inNumber  k0 x1 s = some r) : agf [] [] [] [k0, k0 + 5, k0 + 1, k0 + 3, k0 + 4] s r.1 := by
  unfold fn_X8_inNumber at h
  obtain ⟨v1, e2, h⟩ := uu_ob h
  by_cases c3 : v1 = true
  · replace h := uu_pos c3 h
    obtain ⟨r4, e5, h⟩ := uu_ob h
    refine ((zc_X8_addDigit hk0 e5).mo (by decide) (by decide) (by decide) (List.forall_mem_cons.mpr ⟨(Or.inr (List.mem_of_getElem? (i := 0) rfl)), fun _ h => nomatch h⟩)).tr ?_
    by_cases c6 : r4.2 = true
    · replace h := uu_pos c6 h
      obtain ⟨r7, e8, h⟩ := uu_ob h
      refine ((zc_X8_go hk0 e8).mo (by decide) (by decide) (by decide) (List.forall_mem_cons.mpr ⟨(Or.inr (List.mem_of_getElem? (i := 0) rfl)), fun _ h => nomatch h⟩)).tr ?_
      have hr := Option.some.inj h
      subst hr
      exact agf.rf
    · replace h := uu_neg c6 h
      obtain ⟨r9, e10, h⟩ := uu_ob h
      refine ((zc_X8_passOver hk0 e10).mo (by decide) (by decide) (by decide) (List.forall_mem_cons.mpr ⟨(Or.inr (List.mem_of_getElem? (i := 0) rfl)), fun _ h => nomatch h⟩)).tr ?_
      have hr := Option.some.inj h
      subst hr
      exact agf.rf
  · replace h := uu_neg c3 h
    obtain ⟨r11, e12, h⟩ := uu_ob h
    refine ((zc_X8_closePart hk0 e12).mo (by decide) (by decide) (by decide) (List.forall_mem_cons.mpr ⟨(Or.inr (List.mem_of_getElem? (i := 4) rfl)), List.forall_mem_cons.mpr ⟨(Or.inr (List.mem_of_getElem? (i := 3) rfl)), List.forall_mem_cons.mpr ⟨(Or.inr (List.mem_of_getElem? (i := 2) rfl)), List.forall_mem_cons.mpr ⟨(Or.inr (List.mem_of_getElem? (i := 0) rfl)), List.forall_mem_cons.mpr ⟨(Or.inr (List.mem_of_getElem? (i := 1) rfl)), fun _ h => nomatch h⟩⟩⟩⟩⟩)).tr ?_
    obtain ⟨r13, e14, h⟩ := uu_ob h
    refine ((zc_X8_partEnd hk0 e14).mo (by decide) (by decide) (by decide) (List.forall_mem_cons.mpr ⟨(Or.inr (List.mem_of_getElem? (i := 0) rfl)), fun _ h => nomatch h⟩)).tr ?_
    have hr := Option.some.inj h
    subst hr
    exact agf.rf
set_option maxRecDepth 100000 in
set_option maxHeartbeats 4000000 in
theorem zc_X8_partStart   {k0 : Nat} {x1 : Int32} {s : uS} {r : (uS × Int32)} (hk0 : uSo k0 8) (h : fn_X8_partStart  k0 x1 s = some r) : agf [] [] [] [k0, k0 + 4, k0 + 3, k0 + 1, k0 + 5] s r.1 := by
  unfold fn_X8_partStart at h
  refine (agf_wI (a := k0) (f := 1) (v := 0) (Or.inr (Or.inr (List.mem_of_getElem? (i := 0) rfl)))).tr ?_
  refine (agf_wI (a := k0) (f := 6) (v := 0) (Or.inr (Or.inr (List.mem_of_getElem? (i := 0) rfl)))).tr ?_
  by_cases c1 : x1 = 34
  · replace h := uu_pos c1 h
    obtain ⟨r2, e3, h⟩ := uu_ob h
    refine ((zc_X8_go hk0 e3).mo (by decide) (by decide) (by decide) (List.forall_mem_cons.mpr ⟨(Or.inr (List.mem_of_getElem? (i := 0) rfl)), fun _ h => nomatch h⟩)).tr ?_
    have hr := Option.some.inj h
    subst hr
    exact agf.rf
  · replace h := uu_neg c1 h
    by_cases c4 : x1 = 123
    · replace h := uu_pos c4 h
      obtain ⟨r5, e6, h⟩ := uu_ob h
      refine ((zc_X8_go hk0 e6).mo (by decide) (by decide) (by decide) (List.forall_mem_cons.mpr ⟨(Or.inr (List.mem_of_getElem? (i := 0) rfl)), fun _ h => nomatch h⟩)).tr ?_
      have hr := Option.some.inj h
      subst hr
      exact agf.rf
    · replace h := uu_neg c4 h
      obtain ⟨v7, e8, h⟩ := uu_ob h
      by_cases c9 : v7 = true
      · replace h := uu_pos c9 h
        obtain ⟨r10, e11, h⟩ := uu_ob h
        refine ((zc_X8_inNumber hk0 e11).mo (by decide) (by decide) (by decide) (List.forall_mem_cons.mpr ⟨(Or.inr (List.mem_of_getElem? (i := 0) rfl)), List.forall_mem_cons.mpr ⟨(Or.inr (List.mem_of_getElem? (i := 4) rfl)), List.forall_mem_cons.mpr ⟨(Or.inr (List.mem_of_getElem? (i := 3) rfl)), List.forall_mem_cons.mpr ⟨(Or.inr (List.mem_of_getElem? (i := 2) rfl)), List.forall_mem_cons.mpr ⟨(Or.inr (List.mem_of_getElem? (i := 1) rfl)), fun _ h => nomatch h⟩⟩⟩⟩⟩)).tr ?_
        have hr := Option.some.inj h
        subst hr
        exact agf.rf
      · replace h := uu_neg c9 h
        obtain ⟨r12, e13, h⟩ := uu_ob h
        refine ((zc_X8_passOver hk0 e13).mo (by decide) (by decide) (by decide) (List.forall_mem_cons.mpr ⟨(Or.inr (List.mem_of_getElem? (i := 0) rfl)), fun _ h => nomatch h⟩)).tr ?_
        have hr := Option.some.inj h
        subst hr
        exact agf.rf
set_option maxRecDepth 100000 in
set_option maxHeartbeats 4000000 in
theorem zb_X8_inQuotes_12     {k0 : Nat} {x1 : Int32} {s : uS} {r : (uS × Int32)} (hk0 : uSo k0 8) (h : fb_X8_inQuotes_12   k0 x1 s = some r) : agf [] [] [] [k0, k0 + 1, k0 + 2, k0 + 5, k0 + 3, k0 + 4] s r.1 := by
  unfold fb_X8_inQuotes_12 at h
  obtain ⟨r1, e2, h⟩ := uu_ob h
  refine ((zc_X8_passOver hk0 e2).mo (by decide) (by decide) (by decide) (List.forall_mem_cons.mpr ⟨(Or.inr (List.mem_of_getElem? (i := 0) rfl)), fun _ h => nomatch h⟩)).tr ?_
  have hr := Option.some.inj h
  subst hr
  exact agf.rf
set_option maxRecDepth 100000 in
set_option maxHeartbeats 4000000 in
theorem zb_X8_inQuotes_58     {k0 : Nat} {x1 : Int32} {s : uS} {r : (uS × Int32)} (hk0 : uSo k0 8) (h : fb_X8_inQuotes_58   k0 x1 s = some r) : agf [] [] [] [k0, k0 + 1, k0 + 2, k0 + 5, k0 + 3, k0 + 4] s r.1 := by
  unfold fb_X8_inQuotes_58 at h
  by_cases c1 : ((s.I (k0 + 1) 5) - (s.I (k0 + 1) 4)) = 200
  · replace h := uu_pos c1 h
    obtain ⟨r2, e3, h⟩ := uu_ob h
    refine ((zc_X8_passOver hk0 e3).mo (by decide) (by decide) (by decide) (List.forall_mem_cons.mpr ⟨(Or.inr (List.mem_of_getElem? (i := 0) rfl)), fun _ h => nomatch h⟩)).tr ?_
    have hr := Option.some.inj h
    subst hr
    exact agf.rf
  · replace h := uu_neg c1 h
    obtain ⟨s4, e5, h⟩ := uu_ob h
    refine ((zc_X9_put (so_parts hk0) e5).mo (by decide) (by decide) (by decide) (List.forall_mem_cons.mpr ⟨(Or.inr (List.mem_of_getElem? (i := 2) rfl)), List.forall_mem_cons.mpr ⟨(Or.inr (List.mem_of_getElem? (i := 1) rfl)), fun _ h => nomatch h⟩⟩)).tr ?_
    obtain ⟨r6, e7, h⟩ := uu_ob h
    refine ((zc_X8_go hk0 e7).mo (by decide) (by decide) (by decide) (List.forall_mem_cons.mpr ⟨(Or.inr (List.mem_of_getElem? (i := 0) rfl)), fun _ h => nomatch h⟩)).tr ?_
    have hr := Option.some.inj h
    subst hr
    exact agf.rf
set_option maxRecDepth 100000 in
set_option maxHeartbeats 4000000 in
theorem zb_X8_inQuotes_38     {k0 : Nat} {x1 : Int32} {s : uS} {r : (uS × Int32)} (hk0 : uSo k0 8) (h : fb_X8_inQuotes_38   k0 x1 s = some r) : agf [] [] [] [k0, k0 + 1, k0 + 2, k0 + 5, k0 + 3, k0 + 4] s r.1 := by
  unfold fb_X8_inQuotes_38 at h
  by_cases c1 : (s.I k0 5) = 2
  · replace h := uu_pos c1 h
    by_cases c2 : x1 = 92
    · replace h := uu_pos c2 h
      obtain ⟨r3, e4, h⟩ := uu_ob h
      refine ((zc_X8_go hk0 e4).mo (by decide) (by decide) (by decide) (List.forall_mem_cons.mpr ⟨(Or.inr (List.mem_of_getElem? (i := 0) rfl)), fun _ h => nomatch h⟩)).tr ?_
      have hr := Option.some.inj h
      subst hr
      exact agf.rf
    · replace h := uu_neg c2 h
      exact zb_X8_inQuotes_58 hk0 h
  · replace h := uu_neg c1 h
    exact zb_X8_inQuotes_58 hk0 h
set_option maxRecDepth 100000 in
set_option maxHeartbeats 4000000 in
theorem zc_X8_inQuotes   {k0 : Nat} {x1 : Int32} {s : uS} {r : (uS × Int32)} (hk0 : uSo k0 8) (h : fn_X8_inQuotes  k0 x1 s = some r) : agf [] [] [] [k0, k0 + 1, k0 + 2, k0 + 5, k0 + 3, k0 + 4] s r.1 := by
  unfold fn_X8_inQuotes at h
  by_cases c1 : x1 = 13
  · replace h := uu_pos c1 h
    exact zb_X8_inQuotes_12 hk0 h
  · replace h := uu_neg c1 h
    by_cases c2 : x1 = 10
    · replace h := uu_pos c2 h
      exact zb_X8_inQuotes_12 hk0 h
    · replace h := uu_neg c2 h
      by_cases c3 : (s.I k0 5) = 2
      · replace h := uu_pos c3 h
        by_cases c4 : x1 = 34
        · replace h := uu_pos c4 h
          obtain ⟨r5, e6, h⟩ := uu_ob h
          refine ((zc_X8_closePart hk0 e6).mo (by decide) (by decide) (by decide) (List.forall_mem_cons.mpr ⟨(Or.inr (List.mem_of_getElem? (i := 5) rfl)), List.forall_mem_cons.mpr ⟨(Or.inr (List.mem_of_getElem? (i := 4) rfl)), List.forall_mem_cons.mpr ⟨(Or.inr (List.mem_of_getElem? (i := 1) rfl)), List.forall_mem_cons.mpr ⟨(Or.inr (List.mem_of_getElem? (i := 0) rfl)), List.forall_mem_cons.mpr ⟨(Or.inr (List.mem_of_getElem? (i := 3) rfl)), fun _ h => nomatch h⟩⟩⟩⟩⟩)).tr ?_
          have hr := Option.some.inj h
          subst hr
          exact agf.rf
        · replace h := uu_neg c4 h
          exact zb_X8_inQuotes_38 hk0 h
      · replace h := uu_neg c3 h
        exact zb_X8_inQuotes_38 hk0 h
set_option maxRecDepth 100000 in
set_option maxHeartbeats 4000000 in
theorem zb_X8_aheadOfLiteral_120     {k0 : Nat} {x1 : Int32} {s : uS} {r : (uS × Int32)} (hk0 : uSo k0 8) (h : fb_X8_aheadOfLiteral_120   k0 x1 s = some r) : agf [] [] [] [k0, k0 + 5, k0 + 1, k0 + 3, k0 + 4] s r.1 := by
  unfold fb_X8_aheadOfLiteral_120 at h
  obtain ⟨r1, e2, h⟩ := uu_ob h
  refine ((zc_X8_passOver hk0 e2).mo (by decide) (by decide) (by decide) (List.forall_mem_cons.mpr ⟨(Or.inr (List.mem_of_getElem? (i := 0) rfl)), fun _ h => nomatch h⟩)).tr ?_
  have hr := Option.some.inj h
  subst hr
  exact agf.rf
set_option maxRecDepth 100000 in
set_option maxHeartbeats 4000000 in
theorem zb_X8_aheadOfLiteral_105     {k0 : Nat} {x1 : Int32} {s : uS} {r : (uS × Int32)} (hk0 : uSo k0 8) (h : fb_X8_aheadOfLiteral_105   k0 x1 s = some r) : agf [] [] [] [k0, k0 + 5, k0 + 1, k0 + 3, k0 + 4] s r.1 := by
  unfold fb_X8_aheadOfLiteral_105 at h
  by_cases c1 : (s.I k0 5) = 8
  · replace h := uu_pos c1 h
    by_cases c2 : x1 = 10
    · replace h := uu_pos c2 h
      by_cases c3 : (s.I k0 1) ≤ 2000
      · replace h := uu_pos c3 h
        by_cases c4 : (s.I k0 1) = 0
        · replace h := uu_pos c4 h
          obtain ⟨r5, e6, h⟩ := uu_ob h
          refine ((zc_X8_closePart hk0 e6).mo (by decide) (by decide) (by decide) (List.forall_mem_cons.mpr ⟨(Or.inr (List.mem_of_getElem? (i := 4) rfl)), List.forall_mem_cons.mpr ⟨(Or.inr (List.mem_of_getElem? (i := 3) rfl)), List.forall_mem_cons.mpr ⟨(Or.inr (List.mem_of_getElem? (i := 2) rfl)), List.forall_mem_cons.mpr ⟨(Or.inr (List.mem_of_getElem? (i := 0) rfl)), List.forall_mem_cons.mpr ⟨(Or.inr (List.mem_of_getElem? (i := 1) rfl)), fun _ h => nomatch h⟩⟩⟩⟩⟩)).tr ?_
          have hr := Option.some.inj h
          subst hr
          exact agf.rf
        · replace h := uu_neg c4 h
          obtain ⟨r7, e8, h⟩ := uu_ob h
          refine ((zc_X8_go hk0 e8).mo (by decide) (by decide) (by decide) (List.forall_mem_cons.mpr ⟨(Or.inr (List.mem_of_getElem? (i := 0) rfl)), fun _ h => nomatch h⟩)).tr ?_
          have hr := Option.some.inj h
          subst hr
          exact agf.rf
      · replace h := uu_neg c3 h
        have hr := Option.some.inj h
        subst hr
        exact agf.rf
    · replace h := uu_neg c2 h
      exact zb_X8_aheadOfLiteral_120 hk0 h
  · replace h := uu_neg c1 h
    exact zb_X8_aheadOfLiteral_120 hk0 h
set_option maxRecDepth 100000 in
set_option maxHeartbeats 4000000 in
theorem zb_X8_aheadOfLiteral_83     {k0 : Nat} {x1 : Int32} {s : uS} {r : (uS × Int32)} (hk0 : uSo k0 8) (h : fb_X8_aheadOfLiteral_83   k0 x1 s = some r) : agf [] [] [] [k0, k0 + 5, k0 + 1, k0 + 3, k0 + 4] s r.1 := by
  unfold fb_X8_aheadOfLiteral_83 at h
  by_cases c1 : (s.I k0 5) = 7
  · replace h := uu_pos c1 h
    by_cases c2 : x1 = 13
    · replace h := uu_pos c2 h
      obtain ⟨r3, e4, h⟩ := uu_ob h
      refine ((zc_X8_go hk0 e4).mo (by decide) (by decide) (by decide) (List.forall_mem_cons.mpr ⟨(Or.inr (List.mem_of_getElem? (i := 0) rfl)), fun _ h => nomatch h⟩)).tr ?_
      have hr := Option.some.inj h
      subst hr
      exact agf.rf
    · replace h := uu_neg c2 h
      exact zb_X8_aheadOfLiteral_105 hk0 h
  · replace h := uu_neg c1 h
    exact zb_X8_aheadOfLiteral_105 hk0 h
set_option maxRecDepth 100000 in
set_option maxHeartbeats 4000000 in
theorem zb_X8_aheadOfLiteral_61     {k0 : Nat} {x1 : Int32} {s : uS} {r : (uS × Int32)} (hk0 : uSo k0 8) (h : fb_X8_aheadOfLiteral_61   k0 x1 s = some r) : agf [] [] [] [k0, k0 + 5, k0 + 1, k0 + 3, k0 + 4] s r.1 := by
  unfold fb_X8_aheadOfLiteral_61 at h
  by_cases c1 : (s.I k0 5) = 6
  · replace h := uu_pos c1 h
    by_cases c2 : x1 = 125
    · replace h := uu_pos c2 h
      obtain ⟨r3, e4, h⟩ := uu_ob h
      refine ((zc_X8_go hk0 e4).mo (by decide) (by decide) (by decide) (List.forall_mem_cons.mpr ⟨(Or.inr (List.mem_of_getElem? (i := 0) rfl)), fun _ h => nomatch h⟩)).tr ?_
      have hr := Option.some.inj h
      subst hr
      exact agf.rf
    · replace h := uu_neg c2 h
      exact zb_X8_aheadOfLiteral_83 hk0 h
  · replace h := uu_neg c1 h
    exact zb_X8_aheadOfLiteral_83 hk0 h
set_option maxRecDepth 100000 in
set_option maxHeartbeats 4000000 in
theorem zb_X8_aheadOfLiteral_33     {k0 : Nat} {x1 : Int32} {s : uS} {r : (uS × Int32)} (hk0 : uSo k0 8) (h : fb_X8_aheadOfLiteral_33   k0 x1 s = some r) : agf [] [] [] [k0, k0 + 5, k0 + 1, k0 + 3, k0 + 4] s r.1 := by
  unfold fb_X8_aheadOfLiteral_33 at h
  by_cases c1 : (s.I k0 5) = 5
  · replace h := uu_pos c1 h
    by_cases c2 : x1 = 43
    · replace h := uu_pos c2 h
      by_cases c3 : (s.I k0 6) ≤ 0
      · replace h := uu_pos c3 h
        exact zb_X8_aheadOfLiteral_61 hk0 h
      · replace h := uu_neg c3 h
        obtain ⟨r4, e5, h⟩ := uu_ob h
        refine ((zc_X8_go hk0 e5).mo (by decide) (by decide) (by decide) (List.forall_mem_cons.mpr ⟨(Or.inr (List.mem_of_getElem? (i := 0) rfl)), fun _ h => nomatch h⟩)).tr ?_
        have hr := Option.some.inj h
        subst hr
        exact agf.rf
    · replace h := uu_neg c2 h
      exact zb_X8_aheadOfLiteral_61 hk0 h
  · replace h := uu_neg c1 h
    exact zb_X8_aheadOfLiteral_61 hk0 h
set_option maxRecDepth 100000 in
set_option maxHeartbeats 4000000 in
theorem zc_X8_aheadOfLiteral   {k0 : Nat} {x1 : Int32} {s : uS} {r : (uS × Int32)} (hk0 : uSo k0 8) (h : fn_X8_aheadOfLiteral  k0 x1 s = some r) : agf [] [] [] [k0, k0 + 5, k0 + 1, k0 + 3, k0 + 4] s r.1 := by
  unfold fn_X8_aheadOfLiteral at h
  by_cases c1 : (s.I k0 5) = 5
  · replace h := uu_pos c1 h
    obtain ⟨v2, e3, h⟩ := uu_ob h
    by_cases c4 : v2 = true
    · replace h := uu_pos c4 h
      obtain ⟨r5, e6, h⟩ := uu_ob h
      refine ((zc_X8_addDigit hk0 e6).mo (by decide) (by decide) (by decide) (List.forall_mem_cons.mpr ⟨(Or.inr (List.mem_of_getElem? (i := 0) rfl)), fun _ h => nomatch h⟩)).tr ?_
      by_cases c7 : r5.2 = true
      · replace h := uu_pos c7 h
        have hr := Option.some.inj h
        subst hr
        exact agf.rf
      · replace h := uu_neg c7 h
        obtain ⟨r8, e9, h⟩ := uu_ob h
        refine ((zc_X8_passOver hk0 e9).mo (by decide) (by decide) (by decide) (List.forall_mem_cons.mpr ⟨(Or.inr (List.mem_of_getElem? (i := 0) rfl)), fun _ h => nomatch h⟩)).tr ?_
        have hr := Option.some.inj h
        subst hr
        exact agf.rf
    · replace h := uu_neg c4 h
      exact zb_X8_aheadOfLiteral_33 hk0 h
  · replace h := uu_neg c1 h
    exact zb_X8_aheadOfLiteral_33 hk0 h
set_option maxRecDepth 100000 in
set_option maxHeartbeats 4000000 in
theorem zc_X8_inLiteral   {k0 : Nat} {x1 : Int32} {s : uS} {r : (uS × Int32)} (hk0 : uSo k0 8) (h : fn_X8_inLiteral  k0 x1 s = some r) : agf [] [] [] [k0 + 1, k0 + 2, k0 + 5, k0, k0 + 3, k0 + 4] s r.1 := by
  unfold fn_X8_inLiteral at h
  obtain ⟨s1, e2, h⟩ := uu_ob h
  refine ((zc_X9_put (so_parts hk0) e2).mo (by decide) (by decide) (by decide) (List.forall_mem_cons.mpr ⟨(Or.inr (List.mem_of_getElem? (i := 1) rfl)), List.forall_mem_cons.mpr ⟨(Or.inr (List.mem_of_getElem? (i := 0) rfl)), fun _ h => nomatch h⟩⟩)).tr ?_
  by_cases c3 : ((s1.I (k0 + 1) 5) - (s1.I (k0 + 1) 4)) < (s1.I k0 1)
  · replace h := uu_pos c3 h
    have hr := Option.some.inj h
    subst hr
    exact agf.rf
  · replace h := uu_neg c3 h
    obtain ⟨r4, e5, h⟩ := uu_ob h
    refine ((zc_X8_closePart hk0 e5).mo (by decide) (by decide) (by decide) (List.forall_mem_cons.mpr ⟨(Or.inr (List.mem_of_getElem? (i := 5) rfl)), List.forall_mem_cons.mpr ⟨(Or.inr (List.mem_of_getElem? (i := 4) rfl)), List.forall_mem_cons.mpr ⟨(Or.inr (List.mem_of_getElem? (i := 0) rfl)), List.forall_mem_cons.mpr ⟨(Or.inr (List.mem_of_getElem? (i := 3) rfl)), List.forall_mem_cons.mpr ⟨(Or.inr (List.mem_of_getElem? (i := 2) rfl)), fun _ h => nomatch h⟩⟩⟩⟩⟩)).tr ?_
    have hr := Option.some.inj h
    subst hr
    exact agf.rf
set_option maxRecDepth 100000 in
set_option maxHeartbeats 4000000 in
theorem zb_X8_passingOver_15     {k0 : Nat} {x1 : Int32} {s : uS} {r : (uS × Int32)} (hk0 : uSo k0 8) (h : fb_X8_passingOver_15   k0 x1 s = some r) : agf [] [] [] [k0] s r.1 := by
  unfold fb_X8_passingOver_15 at h
  by_cases c1 : x1 = 13
  · replace h := uu_pos c1 h
    refine (agf_wI (a := k0) (f := 7) (v := 1) (Or.inr (Or.inr (List.mem_of_getElem? (i := 0) rfl)))).tr ?_
    have hr := Option.some.inj h
    subst hr
    exact agf.rf
  · replace h := uu_neg c1 h
    refine (agf_wI (a := k0) (f := 7) (v := 0) (Or.inr (Or.inr (List.mem_of_getElem? (i := 0) rfl)))).tr ?_
    have hr := Option.some.inj h
    subst hr
    exact agf.rf
set_option maxRecDepth 100000 in
set_option maxHeartbeats 4000000 in
theorem zc_X8_passingOver   {k0 : Nat} {x1 : Int32} {s : uS} {r : (uS × Int32)} (hk0 : uSo k0 8) (h : fn_X8_passingOver  k0 x1 s = some r) : agf [] [] [] [k0] s r.1 := by
  unfold fn_X8_passingOver at h
  by_cases c1 : x1 = 10
  · replace h := uu_pos c1 h
    by_cases c2 : (s.I k0 7) = 0
    · replace h := uu_pos c2 h
      exact zb_X8_passingOver_15 hk0 h
    · replace h := uu_neg c2 h
      have hr := Option.some.inj h
      subst hr
      exact agf.rf
  · replace h := uu_neg c1 h
    exact zb_X8_passingOver_15 hk0 h
set_option maxRecDepth 100000 in
set_option maxHeartbeats 4000000 in
theorem zc_X8_take   {k0 : Nat} {x1 : Int32} {s : uS} {r : (uS × Int32)} (hk0 : uSo k0 8) (h : fn_X8_take  k0 x1 s = some r) : agf [] [] [] [k0, k0 + 6, k0 + 5, k0 + 1, k0 + 3, k0 + 4, k0 + 2] s r.1 := by
  unfold fn_X8_take at h
  by_cases c4_0 : (s.I k0 5) = 0
  · replace h := uu_pos c4_0 h
    obtain ⟨r1, e2, h⟩ := uu_ob h
    refine ((zc_X8_inWord hk0 e2).mo (by decide) (by decide) (by decide) (List.forall_mem_cons.mpr ⟨(Or.inr (List.mem_of_getElem? (i := 1) rfl)), List.forall_mem_cons.mpr ⟨(Or.inr (List.mem_of_getElem? (i := 0) rfl)), fun _ h => nomatch h⟩⟩)).tr ?_
    have hr := Option.some.inj h
    subst hr
    exact agf.rf
  replace h := uu_neg c4_0 h
  by_cases c4_1 : (s.I k0 5) = 1
  · replace h := uu_pos c4_1 h
    obtain ⟨r3, e4, h⟩ := uu_ob h
    refine ((zc_X8_partStart hk0 e4).mo (by decide) (by decide) (by decide) (List.forall_mem_cons.mpr ⟨(Or.inr (List.mem_of_getElem? (i := 0) rfl)), List.forall_mem_cons.mpr ⟨(Or.inr (List.mem_of_getElem? (i := 5) rfl)), List.forall_mem_cons.mpr ⟨(Or.inr (List.mem_of_getElem? (i := 4) rfl)), List.forall_mem_cons.mpr ⟨(Or.inr (List.mem_of_getElem? (i := 3) rfl)), List.forall_mem_cons.mpr ⟨(Or.inr (List.mem_of_getElem? (i := 2) rfl)), fun _ h => nomatch h⟩⟩⟩⟩⟩)).tr ?_
    have hr := Option.some.inj h
    subst hr
    exact agf.rf
  replace h := uu_neg c4_1 h
  by_cases c4_2 : (s.I k0 5) = 2
  · replace h := uu_pos c4_2 h
    obtain ⟨r5, e6, h⟩ := uu_ob h
    refine ((zc_X8_inQuotes hk0 e6).mo (by decide) (by decide) (by decide) (List.forall_mem_cons.mpr ⟨(Or.inr (List.mem_of_getElem? (i := 0) rfl)), List.forall_mem_cons.mpr ⟨(Or.inr (List.mem_of_getElem? (i := 3) rfl)), List.forall_mem_cons.mpr ⟨(Or.inr (List.mem_of_getElem? (i := 6) rfl)), List.forall_mem_cons.mpr ⟨(Or.inr (List.mem_of_getElem? (i := 2) rfl)), List.forall_mem_cons.mpr ⟨(Or.inr (List.mem_of_getElem? (i := 4) rfl)), List.forall_mem_cons.mpr ⟨(Or.inr (List.mem_of_getElem? (i := 5) rfl)), fun _ h => nomatch h⟩⟩⟩⟩⟩⟩)).tr ?_
    have hr := Option.some.inj h
    subst hr
    exact agf.rf
  replace h := uu_neg c4_2 h
  by_cases c4_3 : (s.I k0 5) = 3
  · replace h := uu_pos c4_3 h
    obtain ⟨r7, e8, h⟩ := uu_ob h
    refine ((zc_X8_inQuotes hk0 e8).mo (by decide) (by decide) (by decide) (List.forall_mem_cons.mpr ⟨(Or.inr (List.mem_of_getElem? (i := 0) rfl)), List.forall_mem_cons.mpr ⟨(Or.inr (List.mem_of_getElem? (i := 3) rfl)), List.forall_mem_cons.mpr ⟨(Or.inr (List.mem_of_getElem? (i := 6) rfl)), List.forall_mem_cons.mpr ⟨(Or.inr (List.mem_of_getElem? (i := 2) rfl)), List.forall_mem_cons.mpr ⟨(Or.inr (List.mem_of_getElem? (i := 4) rfl)), List.forall_mem_cons.mpr ⟨(Or.inr (List.mem_of_getElem? (i := 5) rfl)), fun _ h => nomatch h⟩⟩⟩⟩⟩⟩)).tr ?_
    have hr := Option.some.inj h
    subst hr
    exact agf.rf
  replace h := uu_neg c4_3 h
  by_cases c4_4 : (s.I k0 5) = 4
  · replace h := uu_pos c4_4 h
    obtain ⟨r9, e10, h⟩ := uu_ob h
    refine ((zc_X8_inNumber hk0 e10).mo (by decide) (by decide) (by decide) (List.forall_mem_cons.mpr ⟨(Or.inr (List.mem_of_getElem? (i := 0) rfl)), List.forall_mem_cons.mpr ⟨(Or.inr (List.mem_of_getElem? (i := 2) rfl)), List.forall_mem_cons.mpr ⟨(Or.inr (List.mem_of_getElem? (i := 3) rfl)), List.forall_mem_cons.mpr ⟨(Or.inr (List.mem_of_getElem? (i := 4) rfl)), List.forall_mem_cons.mpr ⟨(Or.inr (List.mem_of_getElem? (i := 5) rfl)), fun _ h => nomatch h⟩⟩⟩⟩⟩)).tr ?_
    have hr := Option.some.inj h
    subst hr
    exact agf.rf
  replace h := uu_neg c4_4 h
  by_cases c4_5 : (s.I k0 5) = 5
  · replace h := uu_pos c4_5 h
    obtain ⟨r11, e12, h⟩ := uu_ob h
    refine ((zc_X8_aheadOfLiteral hk0 e12).mo (by decide) (by decide) (by decide) (List.forall_mem_cons.mpr ⟨(Or.inr (List.mem_of_getElem? (i := 0) rfl)), List.forall_mem_cons.mpr ⟨(Or.inr (List.mem_of_getElem? (i := 2) rfl)), List.forall_mem_cons.mpr ⟨(Or.inr (List.mem_of_getElem? (i := 3) rfl)), List.forall_mem_cons.mpr ⟨(Or.inr (List.mem_of_getElem? (i := 4) rfl)), List.forall_mem_cons.mpr ⟨(Or.inr (List.mem_of_getElem? (i := 5) rfl)), fun _ h => nomatch h⟩⟩⟩⟩⟩)).tr ?_
    have hr := Option.some.inj h
    subst hr
    exact agf.rf
  replace h := uu_neg c4_5 h
  by_cases c4_6 : (s.I k0 5) = 6
  · replace h := uu_pos c4_6 h
    obtain ⟨r13, e14, h⟩ := uu_ob h
    refine ((zc_X8_aheadOfLiteral hk0 e14).mo (by decide) (by decide) (by decide) (List.forall_mem_cons.mpr ⟨(Or.inr (List.mem_of_getElem? (i := 0) rfl)), List.forall_mem_cons.mpr ⟨(Or.inr (List.mem_of_getElem? (i := 2) rfl)), List.forall_mem_cons.mpr ⟨(Or.inr (List.mem_of_getElem? (i := 3) rfl)), List.forall_mem_cons.mpr ⟨(Or.inr (List.mem_of_getElem? (i := 4) rfl)), List.forall_mem_cons.mpr ⟨(Or.inr (List.mem_of_getElem? (i := 5) rfl)), fun _ h => nomatch h⟩⟩⟩⟩⟩)).tr ?_
    have hr := Option.some.inj h
    subst hr
    exact agf.rf
  replace h := uu_neg c4_6 h
  by_cases c4_7 : (s.I k0 5) = 7
  · replace h := uu_pos c4_7 h
    obtain ⟨r15, e16, h⟩ := uu_ob h
    refine ((zc_X8_aheadOfLiteral hk0 e16).mo (by decide) (by decide) (by decide) (List.forall_mem_cons.mpr ⟨(Or.inr (List.mem_of_getElem? (i := 0) rfl)), List.forall_mem_cons.mpr ⟨(Or.inr (List.mem_of_getElem? (i := 2) rfl)), List.forall_mem_cons.mpr ⟨(Or.inr (List.mem_of_getElem? (i := 3) rfl)), List.forall_mem_cons.mpr ⟨(Or.inr (List.mem_of_getElem? (i := 4) rfl)), List.forall_mem_cons.mpr ⟨(Or.inr (List.mem_of_getElem? (i := 5) rfl)), fun _ h => nomatch h⟩⟩⟩⟩⟩)).tr ?_
    have hr := Option.some.inj h
    subst hr
    exact agf.rf
  replace h := uu_neg c4_7 h
  by_cases c4_8 : (s.I k0 5) = 8
  · replace h := uu_pos c4_8 h
    obtain ⟨r17, e18, h⟩ := uu_ob h
    refine ((zc_X8_aheadOfLiteral hk0 e18).mo (by decide) (by decide) (by decide) (List.forall_mem_cons.mpr ⟨(Or.inr (List.mem_of_getElem? (i := 0) rfl)), List.forall_mem_cons.mpr ⟨(Or.inr (List.mem_of_getElem? (i := 2) rfl)), List.forall_mem_cons.mpr ⟨(Or.inr (List.mem_of_getElem? (i := 3) rfl)), List.forall_mem_cons.mpr ⟨(Or.inr (List.mem_of_getElem? (i := 4) rfl)), List.forall_mem_cons.mpr ⟨(Or.inr (List.mem_of_getElem? (i := 5) rfl)), fun _ h => nomatch h⟩⟩⟩⟩⟩)).tr ?_
    have hr := Option.some.inj h
    subst hr
    exact agf.rf
  replace h := uu_neg c4_8 h
  by_cases c4_9 : (s.I k0 5) = 9
  · replace h := uu_pos c4_9 h
    obtain ⟨r19, e20, h⟩ := uu_ob h
    refine ((zc_X8_inLiteral hk0 e20).mo (by decide) (by decide) (by decide) (List.forall_mem_cons.mpr ⟨(Or.inr (List.mem_of_getElem? (i := 3) rfl)), List.forall_mem_cons.mpr ⟨(Or.inr (List.mem_of_getElem? (i := 6) rfl)), List.forall_mem_cons.mpr ⟨(Or.inr (List.mem_of_getElem? (i := 2) rfl)), List.forall_mem_cons.mpr ⟨(Or.inr (List.mem_of_getElem? (i := 0) rfl)), List.forall_mem_cons.mpr ⟨(Or.inr (List.mem_of_getElem? (i := 4) rfl)), List.forall_mem_cons.mpr ⟨(Or.inr (List.mem_of_getElem? (i := 5) rfl)), fun _ h => nomatch h⟩⟩⟩⟩⟩⟩)).tr ?_
    have hr := Option.some.inj h
    subst hr
    exact agf.rf
  replace h := uu_neg c4_9 h
  by_cases c4_10 : (s.I k0 5) = 10
  · replace h := uu_pos c4_10 h
    obtain ⟨r21, e22, h⟩ := uu_ob h
    refine ((zc_X8_partEnd hk0 e22).mo (by decide) (by decide) (by decide) (List.forall_mem_cons.mpr ⟨(Or.inr (List.mem_of_getElem? (i := 0) rfl)), fun _ h => nomatch h⟩)).tr ?_
    have hr := Option.some.inj h
    subst hr
    exact agf.rf
  replace h := uu_neg c4_10 h
  by_cases c4_11 : (s.I k0 5) = 11
  · replace h := uu_pos c4_11 h
    by_cases c23 : x1 = 10
    · replace h := uu_pos c23 h
      have hr := Option.some.inj h
      subst hr
      exact agf.rf
    · replace h := uu_neg c23 h
      obtain ⟨r24, e25, h⟩ := uu_ob h
      refine ((zc_X8_passOver hk0 e25).mo (by decide) (by decide) (by decide) (List.forall_mem_cons.mpr ⟨(Or.inr (List.mem_of_getElem? (i := 0) rfl)), fun _ h => nomatch h⟩)).tr ?_
      have hr := Option.some.inj h
      subst hr
      exact agf.rf
  replace h := uu_neg c4_11 h
  obtain ⟨r26, e27, h⟩ := uu_ob h
  refine ((zc_X8_passingOver hk0 e27).mo (by decide) (by decide) (by decide) (List.forall_mem_cons.mpr ⟨(Or.inr (List.mem_of_getElem? (i := 0) rfl)), fun _ h => nomatch h⟩)).tr ?_
  have hr := Option.some.inj h
  subst hr
  exact agf.rf
set_option maxRecDepth 100000 in
set_option maxHeartbeats 4000000 in
theorem zc_X9_drop   {k0 : Nat} {s : uS} {r : uS} (hk0 : uSo k0 9) (h : fn_X9_drop  k0 s = some r) : agf [] [] [] [k0] s r := by
  unfold fn_X9_drop at h
  refine (agf_wI (a := k0) (f := 5) (v := s.I k0 4) (Or.inr (Or.inr (List.mem_of_getElem? (i := 0) rfl)))).tr ?_
  have hr := Option.some.inj h
  subst hr
  exact agf.rf
