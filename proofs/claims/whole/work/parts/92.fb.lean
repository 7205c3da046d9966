set_option maxRecDepth 100000 in
set_option maxHeartbeats 4000000 in
theorem zb_X9_raise_25  {K2 : Nat → Int32 → Int32 → Int32 → uS → Option uS} {K25 : Nat → Int32 → Int32 → Int32 → Int32 → uS → Option uS}  (hK2 : ∀ (k0 : Nat) (x1 : Int32) (x2 : Int32) (x3 : Int32) (hk0 : uSo k0 9) (s : uS) (r : uS), K2 k0 x1 x2 x3 s = some r → agf [] [] [] [k0 + 1] s r) (hK25 : ∀ (k0 : Nat) (x1 : Int32) (x2 : Int32) (x3 : Int32) (x4 : Int32) (hk0 : uSo k0 9) (s : uS) (r : uS), K25 k0 x1 x2 x3 x4 s = some r → agf [] [] [] [k0 + 1] s r) {k0 : Nat} {x1 : Int32} {x2 : Int32} {x3 : Int32} {x4 : Int32} {s : uS} {r : uS} (hk0 : uSo k0 9) (h : fb_X9_raise_25  K2 K25 k0 x1 x2 x3 x4 s = some r) : agf [] [] [] [k0 + 1] s r := by
  unfold fb_X9_raise_25 at h
  obtain ⟨v1, e2, h⟩ := uu_ob h
  by_cases c3 : v1 ≤ x4
  · replace h := uu_pos c3 h
    exact hK2 k0 x1 x2 (x3 + 1) hk0 _ _ h
  · replace h := uu_neg c3 h
    obtain ⟨v4, e5, h⟩ := uu_ob h
    obtain ⟨v6, e7, h⟩ := uu_ob h
    obtain ⟨s8, e9, h⟩ := uu_ob h
    refine (agf_iput e9 (Or.inr (Or.inr (List.mem_of_getElem? (i := 0) rfl)))).tr ?_
    exact hK25 k0 x1 x2 x3 (x4 + 1) hk0 _ _ h
set_option maxRecDepth 100000 in
set_option maxHeartbeats 4000000 in
theorem zn_X9_raise_25  {K2 : Nat → Int32 → Int32 → Int32 → uS → Option uS}  (hK2 : ∀ (k0 : Nat) (x1 : Int32) (x2 : Int32) (x3 : Int32) (hk0 : uSo k0 9) (s : uS) (r : uS), K2 k0 x1 x2 x3 s = some r → agf [] [] [] [k0 + 1] s r) : ∀ (n : Nat) (k0 : Nat) (x1 : Int32) (x2 : Int32) (x3 : Int32) (x4 : Int32) (hk0 : uSo k0 9) (s : uS) (r : uS), fn_X9_raise_25  K2 n k0 x1 x2 x3 x4 s = some r → agf [] [] [] [k0 + 1] s r := by
  intro n
  induction n with
  | zero => intro k0 x1 x2 x3 x4 hk0 s r h
            cases h
  | succ n ih => intro k0 x1 x2 x3 x4 hk0 s r h
                 exact zb_X9_raise_25  hK2 ih hk0 h
set_option maxRecDepth 100000 in
set_option maxHeartbeats 4000000 in
theorem zb_X9_raise_2  {K2 : Nat → Int32 → Int32 → Int32 → uS → Option uS}  (hK2 : ∀ (k0 : Nat) (x1 : Int32) (x2 : Int32) (x3 : Int32) (hk0 : uSo k0 9) (s : uS) (r : uS), K2 k0 x1 x2 x3 s = some r → agf [] [] [] [k0 + 1] s r) {k0 : Nat} {x1 : Int32} {x2 : Int32} {x3 : Int32} {s : uS} {r : uS} (hk0 : uSo k0 9) (h : fb_X9_raise_2  K2 k0 x1 x2 x3 s = some r) : agf [] [] [] [k0 + 1] s r := by
  unfold fb_X9_raise_2 at h
  by_cases c1 : (x1 + x2) ≤ x3
  · replace h := uu_pos c1 h
    have hr := Option.some.inj h
    subst hr
    exact agf.rf
  · replace h := uu_neg c1 h
    by_cases c2 : (s.I k0 3) ≤ x3
    · replace h := uu_pos c2 h
      have hr := Option.some.inj h
      subst hr
      exact agf.rf
    · replace h := uu_neg c2 h
      obtain ⟨v3, e4, h⟩ := uu_ob h
      exact zn_X9_raise_25 hK2 _ _ _ _ _ _ hk0 _ _ h
set_option maxRecDepth 100000 in
set_option maxHeartbeats 4000000 in
theorem zn_X9_raise_2     : ∀ (n : Nat) (k0 : Nat) (x1 : Int32) (x2 : Int32) (x3 : Int32) (hk0 : uSo k0 9) (s : uS) (r : uS), fn_X9_raise_2   n k0 x1 x2 x3 s = some r → agf [] [] [] [k0 + 1] s r := by
  intro n
  induction n with
  | zero => intro k0 x1 x2 x3 hk0 s r h
            cases h
  | succ n ih => intro k0 x1 x2 x3 hk0 s r h
                 exact zb_X9_raise_2  ih hk0 h
set_option maxRecDepth 100000 in
set_option maxHeartbeats 4000000 in
theorem zc_X9_raise   {k0 : Nat} {x1 : Int32} {x2 : Int32} {s : uS} {r : uS} (hk0 : uSo k0 9) (h : fn_X9_raise  k0 x1 x2 s = some r) : agf [] [] [] [k0 + 1] s r := by
  unfold fn_X9_raise at h
  exact zn_X9_raise_2  _ _ _ _ _ hk0 _ _ h
set_option maxRecDepth 100000 in
set_option maxHeartbeats 4000000 in
theorem zb_X10_removeScript_4  {K4 : Nat → Option Nat → Int32 → Int32 → uS → Option uS}  (hK4 : ∀ (k0 : Nat) (o1 : Option Nat) (x2 : Int32) (x3 : Int32) (hk0 : uSo k0 10) (s : uS) (r : uS), K4 k0 o1 x2 x3 s = some r → agf [] [] [] [k0, k0 + 1] s r) {k0 : Nat} {o1 : Option Nat} {x2 : Int32} {x3 : Int32} {s : uS} {r : uS} (hk0 : uSo k0 10) (h : fb_X10_removeScript_4  K4 k0 o1 x2 x3 s = some r) : agf [] [] [] [k0, k0 + 1] s r := by
  unfold fb_X10_removeScript_4 at h
  cases o1 with
  | none =>
    by_cases c1 : (s.I k0 3) ≤ x3
    · replace h := uu_pos c1 h
      refine (agf_wI (a := k0) (f := 3) (v := x2) (Or.inr (Or.inr (List.mem_of_getElem? (i := 0) rfl)))).tr ?_
      have hr := Option.some.inj h
      subst hr
      exact agf.rf
    · replace h := uu_neg c1 h
      obtain ⟨j2, e3, h⟩ := uu_ob h
      by_cases c4 : (some j2 : Option Nat) = none
      · replace h := uu_pos c4 h
        exact hK4 k0 none x2 (x3 + 1) hk0 _ _ h
      · replace h := uu_neg c4 h
        obtain ⟨j5, e6, h⟩ := uu_ob h
        obtain ⟨s7, e8, h⟩ := uu_ob h
        refine (agf_pput e8 (Or.inr (Or.inr (List.mem_of_getElem? (i := 1) rfl)))).tr ?_
        exact hK4 k0 none (x2 + 1) (x3 + 1) hk0 _ _ h
  | some ko1 =>
    by_cases c9 : (s.I k0 3) ≤ x3
    · replace h := uu_pos c9 h
      refine (agf_wI (a := k0) (f := 3) (v := x2) (Or.inr (Or.inr (List.mem_of_getElem? (i := 0) rfl)))).tr ?_
      have hr := Option.some.inj h
      subst hr
      exact agf.rf
    · replace h := uu_neg c9 h
      obtain ⟨j10, e11, h⟩ := uu_ob h
      by_cases c12 : (some j10 : Option Nat) = some ko1
      · replace h := uu_pos c12 h
        exact hK4 k0 (some ko1) x2 (x3 + 1) hk0 _ _ h
      · replace h := uu_neg c12 h
        obtain ⟨j13, e14, h⟩ := uu_ob h
        obtain ⟨s15, e16, h⟩ := uu_ob h
        refine (agf_pput e16 (Or.inr (Or.inr (List.mem_of_getElem? (i := 1) rfl)))).tr ?_
        exact hK4 k0 (some ko1) (x2 + 1) (x3 + 1) hk0 _ _ h
set_option maxRecDepth 100000 in
set_option maxHeartbeats 4000000 in
theorem zn_X10_removeScript_4     : ∀ (n : Nat) (k0 : Nat) (o1 : Option Nat) (x2 : Int32) (x3 : Int32) (hk0 : uSo k0 10) (s : uS) (r : uS), fn_X10_removeScript_4   n k0 o1 x2 x3 s = some r → agf [] [] [] [k0, k0 + 1] s r := by
  intro n
  induction n with
  | zero => intro k0 o1 x2 x3 hk0 s r h
            cases h
  | succ n ih => intro k0 o1 x2 x3 hk0 s r h
                 exact zb_X10_removeScript_4  ih hk0 h
set_option maxRecDepth 100000 in
set_option maxHeartbeats 4000000 in
theorem zc_X10_removeScript   {k0 : Nat} {o1 : Option Nat} {s : uS} {r : uS} (hk0 : uSo k0 10) (h : fn_X10_removeScript  k0 o1 s = some r) : agf [] [] [] [k0, k0 + 1] s r := by
  unfold fn_X10_removeScript at h
  cases o1 with
  | none =>
    exact zn_X10_removeScript_4  _ _ _ _ _ hk0 _ _ h
  | some ko1 =>
    exact zn_X10_removeScript_4  _ _ _ _ _ hk0 _ _ h
set_option maxRecDepth 100000 in
set_option maxHeartbeats 4000000 in
theorem zb_X11_addToTape_3  {K3 : Int32 → Int32 → uS → Option uS}  (hK3 : ∀ (x1 : Int32) (x2 : Int32)  (s : uS) (r : uS), K3 x1 x2 s = some r → agf [(0, 9)] [1] [] [] s r) {x1 : Int32} {x2 : Int32} {s : uS} {r : uS}  (h : fb_X11_addToTape_3  K3 x1 x2 s = some r) : agf [(0, 9)] [1] [] [] s r := by
  unfold fb_X11_addToTape_3 at h
  by_cases c1 : x2 < 0
  · replace h := uu_pos c1 h
    have hr := Option.some.inj h
    subst hr
    exact agf.rf
  · replace h := uu_neg c1 h
    by_cases c2 : (6000 : Int32) ≤ (s.I 0 9)
    · replace h := uu_pos c2 h
      have hr := Option.some.inj h
      subst hr
      exact agf.rf
    · replace h := uu_neg c2 h
      obtain ⟨s3, e4, h⟩ := uu_ob h
      refine (agf_iput e4 (Or.inl (by decide))).tr ?_
      refine (agf_wI (a := 0) (f := 9) (v := (s3.I 0 9) + 1) (Or.inl (by decide))).tr ?_
      exact hK3 x1 (x2 + (-8)) _ _ h
set_option maxRecDepth 100000 in
set_option maxHeartbeats 4000000 in
theorem zn_X11_addToTape_3     : ∀ (n : Nat) (x1 : Int32) (x2 : Int32)  (s : uS) (r : uS), fn_X11_addToTape_3   n x1 x2 s = some r → agf [(0, 9)] [1] [] [] s r := by
  intro n
  induction n with
  | zero => intro x1 x2  s r h
            cases h
  | succ n ih => intro x1 x2  s r h
                 exact zb_X11_addToTape_3  ih  h
set_option maxRecDepth 100000 in
set_option maxHeartbeats 4000000 in
theorem zc_X11_addToTape   {x1 : Int32} {s : uS} {r : uS}  (h : fn_X11_addToTape  x1 s = some r) : agf [(0, 9)] [1] [] [] s r := by
  unfold fn_X11_addToTape at h
  exact zn_X11_addToTape_3  _ _ _ _ _ h
set_option maxRecDepth 100000 in
set_option maxHeartbeats 4000000 in
theorem zc_X11_feed   {x1 : Int32} {x2 : Int32} {x3 : Int32} {x4 : Int32} {x5 : Int32} {s : uS} {r : (uS × Bool)}  (h : fn_X11_feed  x1 x2 x3 x4 x5 s = some r) : agf [(0, 9)] [1] [] [] s r.1 := by
  unfold fn_X11_feed at h
  by_cases c1 : (s.I 0 16) = 0
  · replace h := uu_pos c1 h
    have hr := Option.some.inj h
    subst hr
    exact agf.rf
  · replace h := uu_neg c1 h
    by_cases c2 : (s.I 0 9) ≤ 5980
    · replace h := uu_pos c2 h
      obtain ⟨s3, e4, h⟩ := uu_ob h
      refine ((zc_X11_addToTape  e4).mo (by decide) (by decide) (by decide) (fun _ h => nomatch h)).tr ?_
      obtain ⟨s5, e6, h⟩ := uu_ob h
      refine ((zc_X11_addToTape  e6).mo (by decide) (by decide) (by decide) (fun _ h => nomatch h)).tr ?_
      obtain ⟨s7, e8, h⟩ := uu_ob h
      refine ((zc_X11_addToTape  e8).mo (by decide) (by decide) (by decide) (fun _ h => nomatch h)).tr ?_
      obtain ⟨s9, e10, h⟩ := uu_ob h
      refine ((zc_X11_addToTape  e10).mo (by decide) (by decide) (by decide) (fun _ h => nomatch h)).tr ?_
      obtain ⟨s11, e12, h⟩ := uu_ob h
      refine ((zc_X11_addToTape  e12).mo (by decide) (by decide) (by decide) (fun _ h => nomatch h)).tr ?_
      have hr := Option.some.inj h
      subst hr
      exact agf.rf
    · replace h := uu_neg c2 h
      have hr := Option.some.inj h
      subst hr
      exact agf.rf
set_option maxRecDepth 100000 in
set_option maxHeartbeats 4000000 in
theorem zc_X11_connect    {s : uS} {r : (uS × Bool)}  (h : fn_X11_connect   s = some r) : agf [(1042, 4), (1042, 7), (1042, 8), (1042, 9), (1042, 10)] [] [] [1041, 1040, 1043, 1047] s r.1 := by
  unfold fn_X11_connect at h
  by_cases c1 : (s.I 0 16) = 0
  · replace h := uu_pos c1 h
    have hr := Option.some.inj h
    subst hr
    exact agf.rf
  · replace h := uu_neg c1 h
    obtain ⟨s2, e3, h⟩ := uu_ob h
    refine ((zc_X0_open  e3).mo (by decide) (by decide) (by decide) (List.forall_mem_cons.mpr ⟨(Or.inr (List.mem_of_getElem? (i := 3) rfl)), List.forall_mem_cons.mpr ⟨(Or.inr (List.mem_of_getElem? (i := 2) rfl)), List.forall_mem_cons.mpr ⟨(Or.inr (List.mem_of_getElem? (i := 1) rfl)), List.forall_mem_cons.mpr ⟨(Or.inr (List.mem_of_getElem? (i := 0) rfl)), fun _ h => nomatch h⟩⟩⟩⟩)).tr ?_
    have hr := Option.some.inj h
    subst hr
    exact agf.rf
set_option maxRecDepth 100000 in
set_option maxHeartbeats 4000000 in
theorem zc_X11_reply   {x1 : Int32} {s : uS} {r : (uS × Int64)}  (h : fn_X11_reply  x1 s = some r) : agf [] [] [5] [] s r.1 := by
  unfold fn_X11_reply at h
  by_cases c1 : x1 < 0
  · replace h := uu_pos c1 h
    have hr := Option.some.inj h
    subst hr
    exact agf.rf
  · replace h := uu_neg c1 h
    by_cases c2 : x1 ≤ 4
    · replace h := uu_pos c2 h
      obtain ⟨j3, e4, h⟩ := uu_ob h
      obtain ⟨g5, h⟩ := uu_grd h
      obtain ⟨r6, e7, h⟩ := uu_ob h
      refine ((zc_X5_take g5 e7).mo (by decide) (by decide) (by decide) (List.forall_mem_cons.mpr ⟨(Or.inl (by rw [show j3 = j3 + 0 from rfl, rg_X5 (d := 0) g5 (by decide)]; decide)), fun _ h => nomatch h⟩)).tr ?_
      have hr := Option.some.inj h
      subst hr
      exact agf.rf
    · replace h := uu_neg c2 h
      have hr := Option.some.inj h
      subst hr
      exact agf.rf
set_option maxRecDepth 100000 in
set_option maxHeartbeats 4000000 in
theorem zb_X11_losePower_14  {K14 : Int32 → uS → Option uS}  (hK14 : ∀ (x1 : Int32)  (s : uS) (r : uS), K14 x1 s = some r → agf [(0, 16), (1042, 4), (1042, 7), (1042, 8), (1042, 9), (1042, 10)] [] [6] [1047, 1043] s r) {x1 : Int32} {s : uS} {r : uS}  (h : fb_X11_losePower_14  K14 x1 s = some r) : agf [(0, 16), (1042, 4), (1042, 7), (1042, 8), (1042, 9), (1042, 10)] [] [6] [1047, 1043] s r := by
  unfold fb_X11_losePower_14 at h
  by_cases c1 : (4 : Int32) ≤ x1
  · replace h := uu_pos c1 h
    have hr := Option.some.inj h
    subst hr
    exact agf.rf
  · replace h := uu_neg c1 h
    obtain ⟨j2, e3, h⟩ := uu_ob h
    obtain ⟨g4, h⟩ := uu_grd h
    obtain ⟨s5, e6, h⟩ := uu_ob h
    refine ((zc_X8_reset g4 e6).mo (by decide) (by decide) (by decide) (List.forall_mem_cons.mpr ⟨(Or.inl (by rw [rg_X8 (d := 1) g4 (by decide)]; decide)), List.forall_mem_cons.mpr ⟨(Or.inl (by rw [show j2 = j2 + 0 from rfl, rg_X8 (d := 0) g4 (by decide)]; decide)), fun _ h => nomatch h⟩⟩)).tr ?_
    exact hK14 (x1 + 1) _ _ h
set_option maxRecDepth 100000 in
set_option maxHeartbeats 4000000 in
theorem zn_X11_losePower_14     : ∀ (n : Nat) (x1 : Int32)  (s : uS) (r : uS), fn_X11_losePower_14   n x1 s = some r → agf [(0, 16), (1042, 4), (1042, 7), (1042, 8), (1042, 9), (1042, 10)] [] [6] [1047, 1043] s r := by
  intro n
  induction n with
  | zero => intro x1  s r h
            cases h
  | succ n ih => intro x1  s r h
                 exact zb_X11_losePower_14  ih  h
set_option maxRecDepth 100000 in
set_option maxHeartbeats 4000000 in
theorem zc_X11_losePower    {s : uS} {r : uS}  (h : fn_X11_losePower   s = some r) : agf [(0, 16), (1042, 4), (1042, 7), (1042, 8), (1042, 9), (1042, 10)] [] [6] [1047, 1043] s r := by
  unfold fn_X11_losePower at h
  refine (agf_wI (a := 0) (f := 16) (v := 0) (Or.inl (by decide))).tr ?_
  obtain ⟨s1, e2, h⟩ := uu_ob h
  refine ((zc_X0_close  e2).mo (by decide) (by decide) (by decide) (List.forall_mem_cons.mpr ⟨(Or.inr (List.mem_of_getElem? (i := 1) rfl)), List.forall_mem_cons.mpr ⟨(Or.inr (List.mem_of_getElem? (i := 0) rfl)), fun _ h => nomatch h⟩⟩)).tr ?_
  exact zn_X11_losePower_14  _ _ _ _ h
set_option maxRecDepth 100000 in
set_option maxHeartbeats 4000000 in
theorem zc_X11_commit    {s : uS} {r : (uS × Bool)}  (h : fn_X11_commit   s = some r) : agf [(0, 14), (0, 15), (0, 16), (1042, 4), (1042, 7), (1042, 8), (1042, 9), (1042, 10)] [] [6] [1043, 1047] s r.1 := by
  unfold fn_X11_commit at h
  by_cases c1 : (s.I 0 15) = 1
  · replace h := uu_pos c1 h
    refine (agf_wI (a := 0) (f := 15) (v := 0) (Or.inl (by decide))).tr ?_
    obtain ⟨s2, e3, h⟩ := uu_ob h
    refine ((zc_X11_losePower  e3).mo (by decide) (by decide) (by decide) (List.forall_mem_cons.mpr ⟨(Or.inr (List.mem_of_getElem? (i := 1) rfl)), List.forall_mem_cons.mpr ⟨(Or.inr (List.mem_of_getElem? (i := 0) rfl)), fun _ h => nomatch h⟩⟩)).tr ?_
    have hr := Option.some.inj h
    subst hr
    exact agf.rf
  · replace h := uu_neg c1 h
    refine (agf_wI (a := 0) (f := 15) (v := if (0 : Int32) < ((s.I 0 15) - 1) then ((s.I 0 15) - 1) else (0 : Int32)) (Or.inl (by decide))).tr ?_
    refine (agf_wI (a := 0) (f := 14) (v := ((wI s 0 15 (if (0 : Int32) < ((s.I 0 15) - 1) then ((s.I 0 15) - 1) else (0 : Int32))).I 0 14) + 1) (Or.inl (by decide))).tr ?_
    have hr := Option.some.inj h
    subst hr
    exact agf.rf
set_option maxRecDepth 100000 in
set_option maxHeartbeats 4000000 in
theorem zc_X11_tick    {s : uS} {r : (uS × Int32)}  (h : fn_X11_tick   s = some r) : agf [(0, 13), (0, 14), (0, 15), (0, 16), (1042, 4), (1042, 7), (1042, 8), (1042, 9), (1042, 10)] [] [6] [1047, 1043] s r.1 := by
  unfold fn_X11_tick at h
  by_cases c1 : (s.I 0 16) = 0
  · replace h := uu_pos c1 h
    have hr := Option.some.inj h
    subst hr
    exact agf.rf
  · replace h := uu_neg c1 h
    obtain ⟨r2, e3, h⟩ := uu_ob h
    refine ((zc_X11_commit  e3).mo (by decide) (by decide) (by decide) (List.forall_mem_cons.mpr ⟨(Or.inr (List.mem_of_getElem? (i := 1) rfl)), List.forall_mem_cons.mpr ⟨(Or.inr (List.mem_of_getElem? (i := 0) rfl)), fun _ h => nomatch h⟩⟩)).tr ?_
    by_cases c4 : r2.2 = true
    · replace h := uu_pos c4 h
      refine (agf_wI (a := 0) (f := 13) (v := (r2.1.I 0 13) + 1) (Or.inl (by decide))).tr ?_
      have hr := Option.some.inj h
      subst hr
      exact agf.rf
    · replace h := uu_neg c4 h
      have hr := Option.some.inj h
      subst hr
      exact agf.rf
set_option maxRecDepth 100000 in
set_option maxHeartbeats 4000000 in
theorem zc_X11_cut   {x1 : Int32} {s : uS} {r : (uS × Bool)}  (h : fn_X11_cut  x1 s = some r) : agf [(0, 15)] [] [] [] s r.1 := by
  unfold fn_X11_cut at h
  by_cases c1 : x1 < 0
  · replace h := uu_pos c1 h
    have hr := Option.some.inj h
    subst hr
    exact agf.rf
  · replace h := uu_neg c1 h
    by_cases c2 : x1 ≤ 1000
    · replace h := uu_pos c2 h
      refine (agf_wI (a := 0) (f := 15) (v := x1) (Or.inl (by decide))).tr ?_
      have hr := Option.some.inj h
      subst hr
      exact agf.rf
    · replace h := uu_neg c2 h
      have hr := Option.some.inj h
      subst hr
      exact agf.rf
set_option maxRecDepth 100000 in
set_option maxHeartbeats 4000000 in
theorem zc_X11_start    {s : uS} {r : (uS × Int32)}  (h : fn_X11_start   s = some r) : agf [(0, 16)] [] [] [] s r.1 := by
  unfold fn_X11_start at h
  by_cases c1 : (s.I 0 16) = 0
  · replace h := uu_pos c1 h
    refine (agf_wI (a := 0) (f := 16) (v := 1) (Or.inl (by decide))).tr ?_
    have hr := Option.some.inj h
    subst hr
    exact agf.rf
  · replace h := uu_neg c1 h
    have hr := Option.some.inj h
    subst hr
    exact agf.rf
set_option maxRecDepth 100000 in
set_option maxHeartbeats 4000000 in
theorem zc_X11_storeMail   {o1 : Option Nat} {s : uS} {r : uS}  (h : fn_X11_storeMail  o1 s = some r) : agf [(0, 10), (0, 11), (0, 12)] [5] [] [] s r := by
  unfold fn_X11_storeMail at h
  cases o1 with
  | none =>
    obtain ⟨v1, e2, h⟩ := uu_ob h
    by_cases c3 : v1 ≤ (s.I 0 10)
    · replace h := uu_pos c3 h
      have hr := Option.some.inj h
      subst hr
      exact agf.rf
    · replace h := uu_neg c3 h
      cases h
  | some ko1 =>
    obtain ⟨v5, e6, h⟩ := uu_ob h
    by_cases c7 : v5 ≤ (s.I 0 10)
    · replace h := uu_pos c7 h
      have hr := Option.some.inj h
      subst hr
      exact agf.rf
    · replace h := uu_neg c7 h
      obtain ⟨s8, e9, h⟩ := uu_ob h
      refine (agf_pput e9 (Or.inl (by decide))).tr ?_
      refine (agf_wI (a := 0) (f := 10) (v := (s8.I 0 10) + 1) (Or.inl (by decide))).tr ?_
      obtain ⟨g10, h⟩ := uu_grd h
      obtain ⟨j11, e12, h⟩ := uu_ob h
      obtain ⟨v13, e14, h⟩ := uu_ob h
      refine (agf_wI (a := 0) (f := 12) (v := ((wI s8 0 10 ((s8.I 0 10) + 1)).I 0 12) + v13) (Or.inl (by decide))).tr ?_
      obtain ⟨g15, h⟩ := uu_grd h
      by_cases c16 : ((wI (wI s8 0 10 ((s8.I 0 10) + 1)) 0 12 (((wI s8 0 10 ((s8.I 0 10) + 1)).I 0 12) + v13)).I ko1 2) = (-1)
      · replace h := uu_pos c16 h
        refine (agf_wI (a := 0) (f := 11) (v := ((wI (wI s8 0 10 ((s8.I 0 10) + 1)) 0 12 (((wI s8 0 10 ((s8.I 0 10) + 1)).I 0 12) + v13)).I 0 11) + 1) (Or.inl (by decide))).tr ?_
        have hr := Option.some.inj h
        subst hr
        exact agf.rf
      · replace h := uu_neg c16 h
        have hr := Option.some.inj h
        subst hr
        exact agf.rf
set_option maxRecDepth 100000 in
set_option maxHeartbeats 4000000 in
theorem zb_X11_haveSpace_56     {x1 : Int32} {s : uS} {r : uS}  (h : fb_X11_haveSpace_56   x1 s = some r) : agf [] [] [5] [] s r := by
  unfold fb_X11_haveSpace_56 at h
  obtain ⟨j1, e2, h⟩ := uu_ob h
  obtain ⟨g3, h⟩ := uu_grd h
  obtain ⟨s5, e6, h⟩ := uu_ob h
  refine ((zc_X5_refusal g3 e6).mo (by decide) (by decide) (by decide) (List.forall_mem_cons.mpr ⟨(Or.inl (by rw [rg_X5 (d := 1) g3 (by decide)]; decide)), List.forall_mem_cons.mpr ⟨(Or.inl (by rw [show j1 = j1 + 0 from rfl, rg_X5 (d := 0) g3 (by decide)]; decide)), fun _ h => nomatch h⟩⟩)).tr ?_
  have hr := Option.some.inj h
  subst hr
  exact agf.rf
set_option maxRecDepth 100000 in
set_option maxHeartbeats 4000000 in
theorem zb_X11_haveSpace_46     {x1 : Int32} {k2 : Nat} {s : uS} {r : uS} (hk2 : uSo k2 8) (h : fb_X11_haveSpace_46   x1 k2 s = some r) : agf [] [] [5] [] s r := by
  unfold fb_X11_haveSpace_46 at h
  by_cases c1 : (s.I k2 1) ≤ 2000
  · replace h := uu_pos c1 h
    obtain ⟨j2, e3, h⟩ := uu_ob h
    obtain ⟨g4, h⟩ := uu_grd h
    obtain ⟨s6, e7, h⟩ := uu_ob h
    refine ((zc_X5_line g4 e7).mo (by decide) (by decide) (by decide) (List.forall_mem_cons.mpr ⟨(Or.inl (by rw [rg_X5 (d := 1) g4 (by decide)]; decide)), List.forall_mem_cons.mpr ⟨(Or.inl (by rw [show j2 = j2 + 0 from rfl, rg_X5 (d := 0) g4 (by decide)]; decide)), fun _ h => nomatch h⟩⟩)).tr ?_
    have hr := Option.some.inj h
    subst hr
    exact agf.rf
  · replace h := uu_neg c1 h
    exact zb_X11_haveSpace_56  h
set_option maxRecDepth 100000 in
set_option maxHeartbeats 4000000 in
theorem zb_X11_haveSpace_29     {x1 : Int32} {k2 : Nat} {bs0 : Bool} {s : uS} {r : uS} (hk2 : uSo k2 8) (h : fb_X11_haveSpace_29   x1 k2 bs0 s = some r) : agf [] [] [5] [] s r := by
  unfold fb_X11_haveSpace_29 at h
  by_cases c1 : bs0 = true
  · replace h := uu_pos c1 h
    obtain ⟨j2, e3, h⟩ := uu_ob h
    obtain ⟨g4, h⟩ := uu_grd h
    obtain ⟨v5, e6, h⟩ := uu_ob h
    by_cases c7 : v5 = true
    · replace h := uu_pos c7 h
      exact zb_X11_haveSpace_56  h
    · replace h := uu_neg c7 h
      exact zb_X11_haveSpace_46 hk2 h
  · replace h := uu_neg c1 h
    exact zb_X11_haveSpace_46 hk2 h
set_option maxRecDepth 100000 in
set_option maxHeartbeats 4000000 in
theorem zc_X11_haveSpace   {x1 : Int32} {s : uS} {r : uS}  (h : fn_X11_haveSpace  x1 s = some r) : agf [] [] [5] [] s r := by
  unfold fn_X11_haveSpace at h
  obtain ⟨j1, e2, h⟩ := uu_ob h
  obtain ⟨g3, h⟩ := uu_grd h
  obtain ⟨j4, e5, h⟩ := uu_ob h
  obtain ⟨g6, h⟩ := uu_grd h
  obtain ⟨v7, e8, h⟩ := uu_ob h
  cases eo9 : v7 with
  | none =>
    rw [eo9] at h
    exact zb_X11_haveSpace_29 g3 h
  | some j9 =>
    rw [eo9] at h
    exact zb_X11_haveSpace_29 g3 h
set_option maxRecDepth 100000 in
set_option maxHeartbeats 4000000 in
theorem zb_X11_setActive_49     {x1 : Int32} {o3 : Option Nat} {s : uS} {r : uS}  (h : fb_X11_setActive_49   x1 o3 s = some r) : agf [(0, 14), (0, 15), (0, 16), (1042, 4), (1042, 7), (1042, 8), (1042, 9), (1042, 10)] [] [5, 6, 7] [1047, 1043] s r := by
  unfold fb_X11_setActive_49 at h
  cases o3 with
  | none =>
    obtain ⟨r1, e2, h⟩ := uu_ob h
    refine ((zc_X11_commit  e2).mo (by decide) (by decide) (by decide) (List.forall_mem_cons.mpr ⟨(Or.inr (List.mem_of_getElem? (i := 1) rfl)), List.forall_mem_cons.mpr ⟨(Or.inr (List.mem_of_getElem? (i := 0) rfl)), fun _ h => nomatch h⟩⟩)).tr ?_
    by_cases c3 : r1.2 = true
    · replace h := uu_pos c3 h
      obtain ⟨j4, e5, h⟩ := uu_ob h
      obtain ⟨g6, h⟩ := uu_grd h
      refine (agf_wR (a := j4) (f := 5) (v := none) (Or.inr (Or.inl (by rw [show j4 = j4 + 0 from rfl, rg_X10 (d := 0) g6 (by decide)]; decide)))).tr ?_
      obtain ⟨j7, e8, h⟩ := uu_ob h
      obtain ⟨g9, h⟩ := uu_grd h
      obtain ⟨s11, e12, h⟩ := uu_ob h
      refine ((zc_X5_line g9 e12).mo (by decide) (by decide) (by decide) (List.forall_mem_cons.mpr ⟨(Or.inl (by rw [rg_X5 (d := 1) g9 (by decide)]; decide)), List.forall_mem_cons.mpr ⟨(Or.inl (by rw [show j7 = j7 + 0 from rfl, rg_X5 (d := 0) g9 (by decide)]; decide)), fun _ h => nomatch h⟩⟩)).tr ?_
      have hr := Option.some.inj h
      subst hr
      exact agf.rf
    · replace h := uu_neg c3 h
      have hr := Option.some.inj h
      subst hr
      exact agf.rf
  | some ko3 =>
    obtain ⟨r13, e14, h⟩ := uu_ob h
    refine ((zc_X11_commit  e14).mo (by decide) (by decide) (by decide) (List.forall_mem_cons.mpr ⟨(Or.inr (List.mem_of_getElem? (i := 1) rfl)), List.forall_mem_cons.mpr ⟨(Or.inr (List.mem_of_getElem? (i := 0) rfl)), fun _ h => nomatch h⟩⟩)).tr ?_
    by_cases c15 : r13.2 = true
    · replace h := uu_pos c15 h
      obtain ⟨j16, e17, h⟩ := uu_ob h
      obtain ⟨g18, h⟩ := uu_grd h
      refine (agf_wR (a := j16) (f := 5) (v := (some ko3)) (Or.inr (Or.inl (by rw [show j16 = j16 + 0 from rfl, rg_X10 (d := 0) g18 (by decide)]; decide)))).tr ?_
      obtain ⟨j19, e20, h⟩ := uu_ob h
      obtain ⟨g21, h⟩ := uu_grd h
      obtain ⟨s23, e24, h⟩ := uu_ob h
      refine ((zc_X5_line g21 e24).mo (by decide) (by decide) (by decide) (List.forall_mem_cons.mpr ⟨(Or.inl (by rw [rg_X5 (d := 1) g21 (by decide)]; decide)), List.forall_mem_cons.mpr ⟨(Or.inl (by rw [show j19 = j19 + 0 from rfl, rg_X5 (d := 0) g21 (by decide)]; decide)), fun _ h => nomatch h⟩⟩)).tr ?_
      have hr := Option.some.inj h
      subst hr
      exact agf.rf
    · replace h := uu_neg c15 h
      have hr := Option.some.inj h
      subst hr
      exact agf.rf
set_option maxRecDepth 100000 in
set_option maxHeartbeats 4000000 in
theorem zc_X11_setActive   {x1 : Int32} {s : uS} {r : uS}  (h : fn_X11_setActive  x1 s = some r) : agf [(0, 14), (0, 15), (0, 16), (1042, 4), (1042, 7), (1042, 8), (1042, 9), (1042, 10)] [] [5, 6, 7] [1047, 1043] s r := by
  unfold fn_X11_setActive at h
  obtain ⟨j1, e2, h⟩ := uu_ob h
  obtain ⟨g3, h⟩ := uu_grd h
  obtain ⟨j4, e5, h⟩ := uu_ob h
  obtain ⟨g6, h⟩ := uu_grd h
  obtain ⟨v7, e8, h⟩ := uu_ob h
  cases eo9 : v7 with
  | none =>
    rw [eo9] at h
    obtain ⟨v10, e11, h⟩ := uu_ob h
    by_cases c12 : v10 ≤ 0
    · replace h := uu_pos c12 h
      exact zb_X11_setActive_49  h
    · replace h := uu_neg c12 h
      obtain ⟨j13, e14, h⟩ := uu_ob h
      obtain ⟨g15, h⟩ := uu_grd h
      obtain ⟨s17, e18, h⟩ := uu_ob h
      refine ((zc_X5_refusal g15 e18).mo (by decide) (by decide) (by decide) (List.forall_mem_cons.mpr ⟨(Or.inl (by rw [rg_X5 (d := 1) g15 (by decide)]; decide)), List.forall_mem_cons.mpr ⟨(Or.inl (by rw [show j13 = j13 + 0 from rfl, rg_X5 (d := 0) g15 (by decide)]; decide)), fun _ h => nomatch h⟩⟩)).tr ?_
      have hr := Option.some.inj h
      subst hr
      exact agf.rf
  | some j9 =>
    rw [eo9] at h
    exact zb_X11_setActive_49  h
set_option maxRecDepth 100000 in
set_option maxHeartbeats 4000000 in
theorem zc_X11_getScript   {x1 : Int32} {s : uS} {r : uS}  (h : fn_X11_getScript  x1 s = some r) : agf [] [] [5] [] s r := by
  unfold fn_X11_getScript at h
  obtain ⟨j1, e2, h⟩ := uu_ob h
  obtain ⟨g3, h⟩ := uu_grd h
  obtain ⟨j4, e5, h⟩ := uu_ob h
  obtain ⟨g6, h⟩ := uu_grd h
  obtain ⟨v7, e8, h⟩ := uu_ob h
  cases eo9 : v7 with
  | none =>
    rw [eo9] at h
    obtain ⟨j10, e11, h⟩ := uu_ob h
    obtain ⟨g12, h⟩ := uu_grd h
    obtain ⟨s14, e15, h⟩ := uu_ob h
    refine ((zc_X5_refusal g12 e15).mo (by decide) (by decide) (by decide) (List.forall_mem_cons.mpr ⟨(Or.inl (by rw [rg_X5 (d := 1) g12 (by decide)]; decide)), List.forall_mem_cons.mpr ⟨(Or.inl (by rw [show j10 = j10 + 0 from rfl, rg_X5 (d := 0) g12 (by decide)]; decide)), fun _ h => nomatch h⟩⟩)).tr ?_
    have hr := Option.some.inj h
    subst hr
    exact agf.rf
  | some j9 =>
    rw [eo9] at h
    obtain ⟨j16, e17, h⟩ := uu_ob h
    obtain ⟨g18, h⟩ := uu_grd h
    obtain ⟨g19, h⟩ := uu_grd h
    obtain ⟨j20, e21, h⟩ := uu_ob h
    obtain ⟨s22, e23, h⟩ := uu_ob h
    refine ((zc_X5_script g18 e23).mo (by decide) (by decide) (by decide) (List.forall_mem_cons.mpr ⟨(Or.inl (by rw [show j16 = j16 + 0 from rfl, rg_X5 (d := 0) g18 (by decide)]; decide)), List.forall_mem_cons.mpr ⟨(Or.inl (by rw [rg_X5 (d := 1) g18 (by decide)]; decide)), fun _ h => nomatch h⟩⟩)).tr ?_
    obtain ⟨j24, e25, h⟩ := uu_ob h
    obtain ⟨g26, h⟩ := uu_grd h
    obtain ⟨s28, e29, h⟩ := uu_ob h
    refine ((zc_X5_line g26 e29).mo (by decide) (by decide) (by decide) (List.forall_mem_cons.mpr ⟨(Or.inl (by rw [rg_X5 (d := 1) g26 (by decide)]; decide)), List.forall_mem_cons.mpr ⟨(Or.inl (by rw [show j24 = j24 + 0 from rfl, rg_X5 (d := 0) g26 (by decide)]; decide)), fun _ h => nomatch h⟩⟩)).tr ?_
    have hr := Option.some.inj h
    subst hr
    exact agf.rf
set_option maxRecDepth 100000 in
set_option maxHeartbeats 4000000 in
theorem zb_X11_listScripts_63  {K9 : Int32 → Nat → Int32 → uS → Option uS}  (hK9 : ∀ (x1 : Int32) (k2 : Nat) (x3 : Int32) (hk2 : uSo k2 10) (s : uS) (r : uS), K9 x1 k2 x3 s = some r → agf [] [] [5] [] s r) {x1 : Int32} {k2 : Nat} {x3 : Int32} {ws0 : List Nat} {ks1 : Nat} {s : uS} {r : uS} (hk2 : uSo k2 10) (hks1 : uSo ks1 5) (h : fb_X11_listScripts_63  K9 x1 k2 x3 ws0 ks1 s = some r) : agf [] [] [5] [] s r := by
  unfold fb_X11_listScripts_63 at h
  obtain ⟨s1, e2, h⟩ := uu_ob h
  refine ((zc_X5_line hks1 e2).mo (by decide) (by decide) (by decide) (List.forall_mem_cons.mpr ⟨(Or.inl (by rw [rg_X5 (d := 1) hks1 (by decide)]; decide)), List.forall_mem_cons.mpr ⟨(Or.inl (by rw [show ks1 = ks1 + 0 from rfl, rg_X5 (d := 0) hks1 (by decide)]; decide)), fun _ h => nomatch h⟩⟩)).tr ?_
  exact hK9 x1 k2 (x3 + 1) hk2 _ _ h
set_option maxRecDepth 100000 in
set_option maxHeartbeats 4000000 in
theorem zb_X11_listScripts_9  {K9 : Int32 → Nat → Int32 → uS → Option uS}  (hK9 : ∀ (x1 : Int32) (k2 : Nat) (x3 : Int32) (hk2 : uSo k2 10) (s : uS) (r : uS), K9 x1 k2 x3 s = some r → agf [] [] [5] [] s r) {x1 : Int32} {k2 : Nat} {x3 : Int32} {s : uS} {r : uS} (hk2 : uSo k2 10) (h : fb_X11_listScripts_9  K9 x1 k2 x3 s = some r) : agf [] [] [5] [] s r := by
  unfold fb_X11_listScripts_9 at h
  by_cases c1 : (s.I k2 3) ≤ x3
  · replace h := uu_pos c1 h
    obtain ⟨j2, e3, h⟩ := uu_ob h
    obtain ⟨g4, h⟩ := uu_grd h
    obtain ⟨s6, e7, h⟩ := uu_ob h
    refine ((zc_X5_line g4 e7).mo (by decide) (by decide) (by decide) (List.forall_mem_cons.mpr ⟨(Or.inl (by rw [rg_X5 (d := 1) g4 (by decide)]; decide)), List.forall_mem_cons.mpr ⟨(Or.inl (by rw [show j2 = j2 + 0 from rfl, rg_X5 (d := 0) g4 (by decide)]; decide)), fun _ h => nomatch h⟩⟩)).tr ?_
    have hr := Option.some.inj h
    subst hr
    exact agf.rf
  · replace h := uu_neg c1 h
    obtain ⟨j8, e9, h⟩ := uu_ob h
    obtain ⟨j10, e11, h⟩ := uu_ob h
    obtain ⟨g12, h⟩ := uu_grd h
    obtain ⟨g13, h⟩ := uu_grd h
    obtain ⟨j14, e15, h⟩ := uu_ob h
    obtain ⟨g16, h⟩ := uu_grd h
    obtain ⟨s17, e18, h⟩ := uu_ob h
    refine ((zc_X5_quoted g12 e18).mo (by decide) (by decide) (by decide) (List.forall_mem_cons.mpr ⟨(Or.inl (by rw [show j10 = j10 + 0 from rfl, rg_X5 (d := 0) g12 (by decide)]; decide)), List.forall_mem_cons.mpr ⟨(Or.inl (by rw [rg_X5 (d := 1) g12 (by decide)]; decide)), fun _ h => nomatch h⟩⟩)).tr ?_
    obtain ⟨j19, e20, h⟩ := uu_ob h
    obtain ⟨g21, h⟩ := uu_grd h
    cases eo22 : s17.R k2 5 with
    | none =>
      rw [eo22] at h
      by_cases c23 : (some j8 : Option Nat) = none
      · replace h := uu_pos c23 h
        exact zb_X11_listScripts_63 hK9 hk2 g21 h
      · replace h := uu_neg c23 h
        exact zb_X11_listScripts_63 hK9 hk2 g21 h
    | some j22 =>
      rw [eo22] at h
      by_cases c26 : (some j8 : Option Nat) = some j22
      · replace h := uu_pos c26 h
        exact zb_X11_listScripts_63 hK9 hk2 g21 h
      · replace h := uu_neg c26 h
        exact zb_X11_listScripts_63 hK9 hk2 g21 h
set_option maxRecDepth 100000 in
set_option maxHeartbeats 4000000 in
theorem zn_X11_listScripts_9     : ∀ (n : Nat) (x1 : Int32) (k2 : Nat) (x3 : Int32) (hk2 : uSo k2 10) (s : uS) (r : uS), fn_X11_listScripts_9   n x1 k2 x3 s = some r → agf [] [] [5] [] s r := by
  intro n
  induction n with
  | zero => intro x1 k2 x3 hk2 s r h
            cases h
  | succ n ih => intro x1 k2 x3 hk2 s r h
                 exact zb_X11_listScripts_9  ih hk2 h
set_option maxRecDepth 100000 in
set_option maxHeartbeats 4000000 in
theorem zc_X11_listScripts   {x1 : Int32} {s : uS} {r : uS}  (h : fn_X11_listScripts  x1 s = some r) : agf [] [] [5] [] s r := by
  unfold fn_X11_listScripts at h
  obtain ⟨j1, e2, h⟩ := uu_ob h
  obtain ⟨g3, h⟩ := uu_grd h
  exact zn_X11_listScripts_9  _ _ _ _ g3 _ _ h
set_option maxRecDepth 100000 in
set_option maxHeartbeats 4000000 in
theorem zc_X11_deleteScript   {x1 : Int32} {s : uS} {r : uS}  (h : fn_X11_deleteScript  x1 s = some r) : agf [(0, 14), (0, 15), (0, 16), (1042, 4), (1042, 7), (1042, 8), (1042, 9), (1042, 10)] [] [5, 6, 7] [1047, 1043] s r := by
  unfold fn_X11_deleteScript at h
  obtain ⟨j1, e2, h⟩ := uu_ob h
  obtain ⟨g3, h⟩ := uu_grd h
  obtain ⟨j4, e5, h⟩ := uu_ob h
  obtain ⟨g6, h⟩ := uu_grd h
  obtain ⟨v7, e8, h⟩ := uu_ob h
  cases eo9 : v7 with
  | none =>
    rw [eo9] at h
    obtain ⟨j10, e11, h⟩ := uu_ob h
    obtain ⟨g12, h⟩ := uu_grd h
    obtain ⟨s14, e15, h⟩ := uu_ob h
    refine ((zc_X5_refusal g12 e15).mo (by decide) (by decide) (by decide) (List.forall_mem_cons.mpr ⟨(Or.inl (by rw [rg_X5 (d := 1) g12 (by decide)]; decide)), List.forall_mem_cons.mpr ⟨(Or.inl (by rw [show j10 = j10 + 0 from rfl, rg_X5 (d := 0) g12 (by decide)]; decide)), fun _ h => nomatch h⟩⟩)).tr ?_
    have hr := Option.some.inj h
    subst hr
    exact agf.rf
  | some j9 =>
    rw [eo9] at h
    cases eo16 : s.R j1 5 with
    | none =>
      rw [eo16] at h
      by_cases c17 : (some j9 : Option Nat) = none
      · replace h := uu_pos c17 h
        obtain ⟨j18, e19, h⟩ := uu_ob h
        obtain ⟨g20, h⟩ := uu_grd h
        obtain ⟨s22, e23, h⟩ := uu_ob h
        refine ((zc_X5_refusal g20 e23).mo (by decide) (by decide) (by decide) (List.forall_mem_cons.mpr ⟨(Or.inl (by rw [rg_X5 (d := 1) g20 (by decide)]; decide)), List.forall_mem_cons.mpr ⟨(Or.inl (by rw [show j18 = j18 + 0 from rfl, rg_X5 (d := 0) g20 (by decide)]; decide)), fun _ h => nomatch h⟩⟩)).tr ?_
        have hr := Option.some.inj h
        subst hr
        exact agf.rf
      · replace h := uu_neg c17 h
        obtain ⟨r24, e25, h⟩ := uu_ob h
        refine ((zc_X11_commit  e25).mo (by decide) (by decide) (by decide) (List.forall_mem_cons.mpr ⟨(Or.inr (List.mem_of_getElem? (i := 1) rfl)), List.forall_mem_cons.mpr ⟨(Or.inr (List.mem_of_getElem? (i := 0) rfl)), fun _ h => nomatch h⟩⟩)).tr ?_
        by_cases c26 : r24.2 = true
        · replace h := uu_pos c26 h
          obtain ⟨s27, e28, h⟩ := uu_ob h
          refine ((zc_X10_removeScript g3 e28).mo (by decide) (by decide) (by decide) (List.forall_mem_cons.mpr ⟨(Or.inl (by rw [show j1 = j1 + 0 from rfl, rg_X10 (d := 0) g3 (by decide)]; decide)), List.forall_mem_cons.mpr ⟨(Or.inl (by rw [rg_X10 (d := 1) g3 (by decide)]; decide)), fun _ h => nomatch h⟩⟩)).tr ?_
          obtain ⟨j29, e30, h⟩ := uu_ob h
          obtain ⟨g31, h⟩ := uu_grd h
          obtain ⟨s33, e34, h⟩ := uu_ob h
          refine ((zc_X5_line g31 e34).mo (by decide) (by decide) (by decide) (List.forall_mem_cons.mpr ⟨(Or.inl (by rw [rg_X5 (d := 1) g31 (by decide)]; decide)), List.forall_mem_cons.mpr ⟨(Or.inl (by rw [show j29 = j29 + 0 from rfl, rg_X5 (d := 0) g31 (by decide)]; decide)), fun _ h => nomatch h⟩⟩)).tr ?_
          have hr := Option.some.inj h
          subst hr
          exact agf.rf
        · replace h := uu_neg c26 h
          have hr := Option.some.inj h
          subst hr
          exact agf.rf
    | some j16 =>
      rw [eo16] at h
      by_cases c35 : (some j9 : Option Nat) = some j16
      · replace h := uu_pos c35 h
        obtain ⟨j36, e37, h⟩ := uu_ob h
        obtain ⟨g38, h⟩ := uu_grd h
        obtain ⟨s40, e41, h⟩ := uu_ob h
        refine ((zc_X5_refusal g38 e41).mo (by decide) (by decide) (by decide) (List.forall_mem_cons.mpr ⟨(Or.inl (by rw [rg_X5 (d := 1) g38 (by decide)]; decide)), List.forall_mem_cons.mpr ⟨(Or.inl (by rw [show j36 = j36 + 0 from rfl, rg_X5 (d := 0) g38 (by decide)]; decide)), fun _ h => nomatch h⟩⟩)).tr ?_
        have hr := Option.some.inj h
        subst hr
        exact agf.rf
      · replace h := uu_neg c35 h
        obtain ⟨r42, e43, h⟩ := uu_ob h
        refine ((zc_X11_commit  e43).mo (by decide) (by decide) (by decide) (List.forall_mem_cons.mpr ⟨(Or.inr (List.mem_of_getElem? (i := 1) rfl)), List.forall_mem_cons.mpr ⟨(Or.inr (List.mem_of_getElem? (i := 0) rfl)), fun _ h => nomatch h⟩⟩)).tr ?_
        by_cases c44 : r42.2 = true
        · replace h := uu_pos c44 h
          obtain ⟨s45, e46, h⟩ := uu_ob h
          refine ((zc_X10_removeScript g3 e46).mo (by decide) (by decide) (by decide) (List.forall_mem_cons.mpr ⟨(Or.inl (by rw [show j1 = j1 + 0 from rfl, rg_X10 (d := 0) g3 (by decide)]; decide)), List.forall_mem_cons.mpr ⟨(Or.inl (by rw [rg_X10 (d := 1) g3 (by decide)]; decide)), fun _ h => nomatch h⟩⟩)).tr ?_
          obtain ⟨j47, e48, h⟩ := uu_ob h
          obtain ⟨g49, h⟩ := uu_grd h
          obtain ⟨s51, e52, h⟩ := uu_ob h
          refine ((zc_X5_line g49 e52).mo (by decide) (by decide) (by decide) (List.forall_mem_cons.mpr ⟨(Or.inl (by rw [rg_X5 (d := 1) g49 (by decide)]; decide)), List.forall_mem_cons.mpr ⟨(Or.inl (by rw [show j47 = j47 + 0 from rfl, rg_X5 (d := 0) g49 (by decide)]; decide)), fun _ h => nomatch h⟩⟩)).tr ?_
          have hr := Option.some.inj h
          subst hr
          exact agf.rf
        · replace h := uu_neg c44 h
          have hr := Option.some.inj h
          subst hr
          exact agf.rf
set_option maxRecDepth 100000 in
set_option maxHeartbeats 4000000 in
theorem zc_X12_fresh   {x1 : Int32} {s : uS} {r : uS}  (h : fn_X12_fresh  x1 s = some r) : agf [] [1156, 1157, 1160, 1166] [] [] s r := by
  unfold fn_X12_fresh at h
  obtain ⟨s1, e2, h⟩ := uu_ob h
  refine (agf_iput e2 (Or.inl (by decide))).tr ?_
  obtain ⟨s3, e4, h⟩ := uu_ob h
  refine (agf_iput e4 (Or.inl (by decide))).tr ?_
  obtain ⟨s5, e6, h⟩ := uu_ob h
  refine (agf_iput e6 (Or.inl (by decide))).tr ?_
  obtain ⟨s7, e8, h⟩ := uu_ob h
  refine (agf_iput e8 (Or.inl (by decide))).tr ?_
  have hr := Option.some.inj h
  subst hr
  exact agf.rf
set_option maxRecDepth 100000 in
set_option maxHeartbeats 4000000 in
theorem zb_X12_commit_36  {K36 : Int32 → uS → Option (uS × Bool)}  (hK36 : ∀ (x1 : Int32)  (s : uS) (r : (uS × Bool)), K36 x1 s = some r → agf [(1079, 0), (1079, 2), (1079, 3), (1079, 113)] [1156, 1157, 1160, 1166] [] [] s r.1) {x1 : Int32} {s : uS} {r : (uS × Bool)}  (h : fb_X12_commit_36  K36 x1 s = some r) : agf [(1079, 0), (1079, 2), (1079, 3), (1079, 113)] [1156, 1157, 1160, 1166] [] [] s r.1 := by
  unfold fb_X12_commit_36 at h
  by_cases c1 : (4 : Int32) ≤ x1
  · replace h := uu_pos c1 h
    have hr := Option.some.inj h
    subst hr
    exact agf.rf
  · replace h := uu_neg c1 h
    obtain ⟨s2, e3, h⟩ := uu_ob h
    refine ((zc_X12_fresh  e3).mo (by decide) (by decide) (by decide) (fun _ h => nomatch h)).tr ?_
    exact hK36 (x1 + 1) _ _ h
set_option maxRecDepth 100000 in
set_option maxHeartbeats 4000000 in
theorem zn_X12_commit_36     : ∀ (n : Nat) (x1 : Int32)  (s : uS) (r : (uS × Bool)), fn_X12_commit_36   n x1 s = some r → agf [(1079, 0), (1079, 2), (1079, 3), (1079, 113)] [1156, 1157, 1160, 1166] [] [] s r.1 := by
  intro n
  induction n with
  | zero => intro x1  s r h
            cases h
  | succ n ih => intro x1  s r h
                 exact zb_X12_commit_36  ih  h
set_option maxRecDepth 100000 in
set_option maxHeartbeats 4000000 in
theorem zb_X12_commit_54      {s : uS} {r : (uS × Bool)}  (h : fb_X12_commit_54    s = some r) : agf [(1079, 0), (1079, 2), (1079, 3), (1079, 113)] [1156, 1157, 1160, 1166] [] [] s r.1 := by
  unfold fb_X12_commit_54 at h
  refine (agf_wI (a := 1079) (f := 2) (v := (s.I 1079 2) + 1) (Or.inl (by decide))).tr ?_
  have hr := Option.some.inj h
  subst hr
  exact agf.rf
set_option maxRecDepth 100000 in
set_option maxHeartbeats 4000000 in
theorem zc_X12_commit    {s : uS} {r : (uS × Bool)}  (h : fn_X12_commit   s = some r) : agf [(1079, 0), (1079, 2), (1079, 3), (1079, 113)] [1156, 1157, 1160, 1166] [] [] s r.1 := by
  unfold fn_X12_commit at h
  by_cases c1 : (s.I 1079 3) ≤ 0
  · replace h := uu_pos c1 h
    exact zb_X12_commit_54  h
  · replace h := uu_neg c1 h
    refine (agf_wI (a := 1079) (f := 3) (v := (s.I 1079 3) - 1) (Or.inl (by decide))).tr ?_
    by_cases c2 : ((wI s 1079 3 ((s.I 1079 3) - 1)).I 1079 3) = 0
    · replace h := uu_pos c2 h
      refine (agf_wI (a := 1079) (f := 0) (v := 0) (Or.inl (by decide))).tr ?_
      refine (agf_wI (a := 1079) (f := 113) (v := 0) (Or.inl (by decide))).tr ?_
      exact zn_X12_commit_36  _ _ _ _ h
    · replace h := uu_neg c2 h
      exact zb_X12_commit_54  h
set_option maxRecDepth 100000 in
set_option maxHeartbeats 4000000 in
theorem zb_X12_lay_2  {K2 : Int32 → Int32 → uS → Option uS}  (hK2 : ∀ (x1 : Int32) (x2 : Int32)  (s : uS) (r : uS), K2 x1 x2 s = some r → agf [(1079, 5)] [1080] [] [] s r) {x1 : Int32} {x2 : Int32} {s : uS} {r : uS}  (h : fb_X12_lay_2  K2 x1 x2 s = some r) : agf [(1079, 5)] [1080] [] [] s r := by
  unfold fb_X12_lay_2 at h
  by_cases c1 : (4 : Int32) ≤ x2
  · replace h := uu_pos c1 h
    refine (agf_wI (a := 1079) (f := 5) (v := (s.I 1079 5) + 4) (Or.inl (by decide))).tr ?_
    have hr := Option.some.inj h
    subst hr
    exact agf.rf
  · replace h := uu_neg c1 h
    obtain ⟨s2, e3, h⟩ := uu_ob h
    refine (agf_iput e3 (Or.inl (by decide))).tr ?_
    exact hK2 x1 (x2 + 1) _ _ h
set_option maxRecDepth 100000 in
set_option maxHeartbeats 4000000 in
theorem zn_X12_lay_2     : ∀ (n : Nat) (x1 : Int32) (x2 : Int32)  (s : uS) (r : uS), fn_X12_lay_2   n x1 x2 s = some r → agf [(1079, 5)] [1080] [] [] s r := by
  intro n
  induction n with
  | zero => intro x1 x2  s r h
            cases h
  | succ n ih => intro x1 x2  s r h
                 exact zb_X12_lay_2  ih  h
set_option maxRecDepth 100000 in
set_option maxHeartbeats 4000000 in
theorem zc_X12_lay   {x1 : Int32} {s : uS} {r : uS}  (h : fn_X12_lay  x1 s = some r) : agf [(1079, 5)] [1080] [] [] s r := by
  unfold fn_X12_lay at h
  exact zn_X12_lay_2  _ _ _ _ _ h
set_option maxRecDepth 100000 in
set_option maxHeartbeats 4000000 in
theorem zc_X12_feed   {x1 : Int32} {x2 : Int32} {x3 : Int32} {x4 : Int32} {x5 : Int32} {s : uS} {r : (uS × Bool)}  (h : fn_X12_feed  x1 x2 x3 x4 x5 s = some r) : agf [(1079, 5)] [1080] [] [] s r.1 := by
  unfold fn_X12_feed at h
  by_cases c1 : (s.I 1079 0) = 0
  · replace h := uu_pos c1 h
    have hr := Option.some.inj h
    subst hr
    exact agf.rf
  · replace h := uu_neg c1 h
    by_cases c2 : ((s.I 1079 5) + 20) ≤ 6000
    · replace h := uu_pos c2 h
      obtain ⟨s3, e4, h⟩ := uu_ob h
      refine ((zc_X12_lay  e4).mo (by decide) (by decide) (by decide) (fun _ h => nomatch h)).tr ?_
      obtain ⟨s5, e6, h⟩ := uu_ob h
      refine ((zc_X12_lay  e6).mo (by decide) (by decide) (by decide) (fun _ h => nomatch h)).tr ?_
      obtain ⟨s7, e8, h⟩ := uu_ob h
      refine ((zc_X12_lay  e8).mo (by decide) (by decide) (by decide) (fun _ h => nomatch h)).tr ?_
      obtain ⟨s9, e10, h⟩ := uu_ob h
      refine ((zc_X12_lay  e10).mo (by decide) (by decide) (by decide) (fun _ h => nomatch h)).tr ?_
      obtain ⟨s11, e12, h⟩ := uu_ob h
      refine ((zc_X12_lay  e12).mo (by decide) (by decide) (by decide) (fun _ h => nomatch h)).tr ?_
      have hr := Option.some.inj h
      subst hr
      exact agf.rf
    · replace h := uu_neg c2 h
      have hr := Option.some.inj h
      subst hr
      exact agf.rf
set_option maxRecDepth 100000 in
set_option maxHeartbeats 4000000 in
theorem zc_X12_say   {x1 : Int32} {x2 : Int32} {s : uS} {r : uS}  (h : fn_X12_say  x1 x2 s = some r) : agf [] [1081, 1082, 1083, 1084, 1085, 1086] [] [] s r := by
  unfold fn_X12_say at h
  obtain ⟨v1, e2, h⟩ := uu_ob h
  by_cases c3 : v1 = 10000
  · replace h := uu_pos c3 h
    have hr := Option.some.inj h
    subst hr
    exact agf.rf
  · replace h := uu_neg c3 h
    obtain ⟨s4, e5, h⟩ := uu_ob h
    refine (agf_iput e5 (Or.inl (by decide))).tr ?_
    by_cases c25_0 : x1 = 0
    · replace h := uu_pos c25_0 h
      obtain ⟨s6, e7, h⟩ := uu_ob h
      refine (agf_iput e7 (Or.inl (by decide))).tr ?_
      have hr := Option.some.inj h
      subst hr
      exact agf.rf
    replace h := uu_neg c25_0 h
    by_cases c25_1 : x1 = 1
    · replace h := uu_pos c25_1 h
      obtain ⟨s8, e9, h⟩ := uu_ob h
      refine (agf_iput e9 (Or.inl (by decide))).tr ?_
      have hr := Option.some.inj h
      subst hr
      exact agf.rf
    replace h := uu_neg c25_1 h
    by_cases c25_2 : x1 = 2
    · replace h := uu_pos c25_2 h
      obtain ⟨s10, e11, h⟩ := uu_ob h
      refine (agf_iput e11 (Or.inl (by decide))).tr ?_
      have hr := Option.some.inj h
      subst hr
      exact agf.rf
    replace h := uu_neg c25_2 h
    by_cases c25_3 : x1 = 3
    · replace h := uu_pos c25_3 h
      obtain ⟨s12, e13, h⟩ := uu_ob h
      refine (agf_iput e13 (Or.inl (by decide))).tr ?_
      have hr := Option.some.inj h
      subst hr
      exact agf.rf
    replace h := uu_neg c25_3 h
    obtain ⟨s14, e15, h⟩ := uu_ob h
    refine (agf_iput e15 (Or.inl (by decide))).tr ?_
    have hr := Option.some.inj h
    subst hr
    exact agf.rf
set_option maxRecDepth 100000 in
set_option maxHeartbeats 4000000 in
theorem zb_X12_forget_19  {K19 : Int32 → Int32 → Int32 → Int32 → uS → Option uS}  (hK19 : ∀ (x1 : Int32) (x2 : Int32) (x3 : Int32) (x4 : Int32)  (s : uS) (r : uS), K19 x1 x2 x3 x4 s = some r → agf [] [1081, 1082, 1083, 1084, 1085, 1086] [] [] s r) {x1 : Int32} {x2 : Int32} {x3 : Int32} {x4 : Int32} {s : uS} {r : uS}  (h : fb_X12_forget_19  K19 x1 x2 x3 x4 s = some r) : agf [] [1081, 1082, 1083, 1084, 1085, 1086] [] [] s r := by
  unfold fb_X12_forget_19 at h
  by_cases c1 : x3 ≤ x4
  · replace h := uu_pos c1 h
    have hr := Option.some.inj h
    subst hr
    exact agf.rf
  · replace h := uu_neg c1 h
    obtain ⟨v2, e3, h⟩ := uu_ob h
    obtain ⟨s4, e5, h⟩ := uu_ob h
    refine ((zc_X12_say  e5).mo (by decide) (by decide) (by decide) (fun _ h => nomatch h)).tr ?_
    exact hK19 x1 x2 x3 (x4 + 1) _ _ h
set_option maxRecDepth 100000 in
set_option maxHeartbeats 4000000 in
theorem zn_X12_forget_19     : ∀ (n : Nat) (x1 : Int32) (x2 : Int32) (x3 : Int32) (x4 : Int32)  (s : uS) (r : uS), fn_X12_forget_19   n x1 x2 x3 x4 s = some r → agf [] [1081, 1082, 1083, 1084, 1085, 1086] [] [] s r := by
  intro n
  induction n with
  | zero => intro x1 x2 x3 x4  s r h
            cases h
  | succ n ih => intro x1 x2 x3 x4  s r h
                 exact zb_X12_forget_19  ih  h
set_option maxRecDepth 100000 in
set_option maxHeartbeats 4000000 in
theorem zc_X12_forget   {x1 : Int32} {x2 : Int32} {s : uS} {r : uS}  (h : fn_X12_forget  x1 x2 s = some r) : agf [] [1081, 1082, 1083, 1084, 1085, 1086] [] [] s r := by
  unfold fn_X12_forget at h
  obtain ⟨v1, e2, h⟩ := uu_ob h
  obtain ⟨s3, e4, h⟩ := uu_ob h
  refine (agf_iput e4 (Or.inl (by decide))).tr ?_
  exact zn_X12_forget_19  _ _ _ _ _ _ _ h
set_option maxRecDepth 100000 in
set_option maxHeartbeats 4000000 in
theorem zb_X12_tell_2  {K2 : Int32 → List Nat → Int32 → uS → Option uS}  (hK2 : ∀ (x1 : Int32) (w2 : List Nat) (x3 : Int32)  (s : uS) (r : uS), K2 x1 w2 x3 s = some r → agf [] [1081, 1082, 1083, 1084, 1085, 1086] [] [] s r) {x1 : Int32} {w2 : List Nat} {x3 : Int32} {s : uS} {r : uS}  (h : fb_X12_tell_2  K2 x1 w2 x3 s = some r) : agf [] [1081, 1082, 1083, 1084, 1085, 1086] [] [] s r := by
  unfold fb_X12_tell_2 at h
  by_cases c1 : (nI w2.length) ≤ x3
  · replace h := uu_pos c1 h
    have hr := Option.some.inj h
    subst hr
    exact agf.rf
  · replace h := uu_neg c1 h
    obtain ⟨v2, e3, h⟩ := uu_ob h
    obtain ⟨s4, e5, h⟩ := uu_ob h
    refine ((zc_X12_say  e5).mo (by decide) (by decide) (by decide) (fun _ h => nomatch h)).tr ?_
    exact hK2 x1 w2 (x3 + 1) _ _ h
set_option maxRecDepth 100000 in
set_option maxHeartbeats 4000000 in
theorem zn_X12_tell_2     : ∀ (n : Nat) (x1 : Int32) (w2 : List Nat) (x3 : Int32)  (s : uS) (r : uS), fn_X12_tell_2   n x1 w2 x3 s = some r → agf [] [1081, 1082, 1083, 1084, 1085, 1086] [] [] s r := by
  intro n
  induction n with
  | zero => intro x1 w2 x3  s r h
            cases h
  | succ n ih => intro x1 w2 x3  s r h
                 exact zb_X12_tell_2  ih  h
set_option maxRecDepth 100000 in
set_option maxHeartbeats 4000000 in
theorem zc_X12_tell   {x1 : Int32} {w2 : List Nat} {s : uS} {r : uS}  (h : fn_X12_tell  x1 w2 s = some r) : agf [] [1081, 1082, 1083, 1084, 1085, 1086] [] [] s r := by
  unfold fn_X12_tell at h
  exact zn_X12_tell_2  _ _ _ _ _ _ h
set_option maxRecDepth 100000 in
set_option maxHeartbeats 4000000 in
theorem zc_X12_line   {x1 : Int32} {w2 : List Nat} {s : uS} {r : uS}  (h : fn_X12_line  x1 w2 s = some r) : agf [] [1081, 1082, 1083, 1084, 1085, 1086] [] [] s r := by
  unfold fn_X12_line at h
  obtain ⟨s1, e2, h⟩ := uu_ob h
  refine ((zc_X12_tell  e2).mo (by decide) (by decide) (by decide) (fun _ h => nomatch h)).tr ?_
  obtain ⟨s3, e4, h⟩ := uu_ob h
  refine ((zc_X12_say  e4).mo (by decide) (by decide) (by decide) (fun _ h => nomatch h)).tr ?_
  obtain ⟨s5, e6, h⟩ := uu_ob h
  refine ((zc_X12_say  e6).mo (by decide) (by decide) (by decide) (fun _ h => nomatch h)).tr ?_
  have hr := Option.some.inj h
  subst hr
  exact agf.rf
set_option maxRecDepth 100000 in
set_option maxHeartbeats 4000000 in
theorem zb_X12_reply_49  {K49 : Int32 → Int32 → Int64 → Int32 → uS → Option (uS × Int64)}  (hK49 : ∀ (x1 : Int32) (x2 : Int32) (l3 : Int64) (x5 : Int32)  (s : uS) (r : (uS × Int64)), K49 x1 x2 l3 x5 s = some r → agf [] [1081, 1082, 1083, 1084, 1085, 1086] [] [] s r.1) {x1 : Int32} {x2 : Int32} {l3 : Int64} {x5 : Int32} {s : uS} {r : (uS × Int64)}  (h : fb_X12_reply_49  K49 x1 x2 l3 x5 s = some r) : agf [] [1081, 1082, 1083, 1084, 1085, 1086] [] [] s r.1 := by
  unfold fb_X12_reply_49 at h
  by_cases c1 : x2 ≤ x5
  · replace h := uu_pos c1 h
    obtain ⟨s2, e3, h⟩ := uu_ob h
    refine ((zc_X12_forget  e3).mo (by decide) (by decide) (by decide) (fun _ h => nomatch h)).tr ?_
    have hr := Option.some.inj h
    subst hr
    exact agf.rf
  · replace h := uu_neg c1 h
    obtain ⟨v4, e5, h⟩ := uu_ob h
    exact hK49 x1 x2 (l3 ||| (v4.toInt64 <<< (((48 : Int32) - ((8 : Int32) * x5)).toInt64 &&& 63))) (x5 + 1) _ _ h
set_option maxRecDepth 100000 in
set_option maxHeartbeats 4000000 in
theorem zn_X12_reply_49     : ∀ (n : Nat) (x1 : Int32) (x2 : Int32) (l3 : Int64) (x5 : Int32)  (s : uS) (r : (uS × Int64)), fn_X12_reply_49   n x1 x2 l3 x5 s = some r → agf [] [1081, 1082, 1083, 1084, 1085, 1086] [] [] s r.1 := by
  intro n
  induction n with
  | zero => intro x1 x2 l3 x5  s r h
            cases h
  | succ n ih => intro x1 x2 l3 x5  s r h
                 exact zb_X12_reply_49  ih  h
set_option maxRecDepth 100000 in
set_option maxHeartbeats 4000000 in
theorem zb_X12_reply_33     {x1 : Int32} {xs0 : Int32} {s : uS} {r : (uS × Int64)}  (h : fb_X12_reply_33   x1 xs0 s = some r) : agf [] [1081, 1082, 1083, 1084, 1085, 1086] [] [] s r.1 := by
  unfold fb_X12_reply_33 at h
  by_cases c1 : xs0 = 0
  · replace h := uu_pos c1 h
    have hr := Option.some.inj h
    subst hr
    exact agf.rf
  · replace h := uu_neg c1 h
    exact zn_X12_reply_49  _ _ _ _ _ _ _ h
set_option maxRecDepth 100000 in
set_option maxHeartbeats 4000000 in
theorem zc_X12_reply   {x1 : Int32} {s : uS} {r : (uS × Int64)}  (h : fn_X12_reply  x1 s = some r) : agf [] [1081, 1082, 1083, 1084, 1085, 1086] [] [] s r.1 := by
  unfold fn_X12_reply at h
  by_cases c1 : x1 < 0
  · replace h := uu_pos c1 h
    have hr := Option.some.inj h
    subst hr
    exact agf.rf
  · replace h := uu_neg c1 h
    by_cases c2 : x1 ≤ 4
    · replace h := uu_pos c2 h
      obtain ⟨v3, e4, h⟩ := uu_ob h
      by_cases c5 : (7 : Int32) ≤ v3
      · replace h := uu_pos c5 h
        exact zb_X12_reply_33  h
      · replace h := uu_neg c5 h
        obtain ⟨v6, e7, h⟩ := uu_ob h
        exact zb_X12_reply_33  h
    · replace h := uu_neg c2 h
      have hr := Option.some.inj h
      subst hr
      exact agf.rf
set_option maxRecDepth 100000 in
set_option maxHeartbeats 4000000 in
theorem zb_X12_mailByte_20      {s : uS} {r : uS}  (h : fb_X12_mailByte_20    s = some r) : agf [(1079, 13)] [1087] [] [] s r := by
  unfold fb_X12_mailByte_20 at h
  by_cases c1 : (1000000 : Int32) ≤ (s.I 1079 13)
  · replace h := uu_pos c1 h
    refine (agf_wI (a := 1079) (f := 13) (v := s.I 1079 13) (Or.inl (by decide))).tr ?_
    have hr := Option.some.inj h
    subst hr
    exact agf.rf
  · replace h := uu_neg c1 h
    refine (agf_wI (a := 1079) (f := 13) (v := (s.I 1079 13) + 1) (Or.inl (by decide))).tr ?_
    have hr := Option.some.inj h
    subst hr
    exact agf.rf
set_option maxRecDepth 100000 in
set_option maxHeartbeats 4000000 in
theorem zc_X12_mailByte   {x1 : Int32} {s : uS} {r : uS}  (h : fn_X12_mailByte  x1 s = some r) : agf [(1079, 13)] [1087] [] [] s r := by
  unfold fn_X12_mailByte at h
  by_cases c1 : (4000 : Int32) ≤ (s.I 1079 13)
  · replace h := uu_pos c1 h
    exact zb_X12_mailByte_20  h
  · replace h := uu_neg c1 h
    obtain ⟨s2, e3, h⟩ := uu_ob h
    refine (agf_iput e3 (Or.inl (by decide))).tr ?_
    exact zb_X12_mailByte_20  h
set_option maxRecDepth 100000 in
set_option maxHeartbeats 4000000 in
theorem zb_X12_fieldOf_119     {x1 : Int32} {x3 : Int32} {x4 : Int32} {bs0 : Bool} {s : uS} {r : (uS × Int32)}  (h : fb_X12_fieldOf_119   x1 x3 x4 bs0 s = some r) : agf [] [1088, 1089] [] [] s r.1 := by
  unfold fb_X12_fieldOf_119 at h
  by_cases c1 : bs0 = true
  · replace h := uu_pos c1 h
    obtain ⟨s2, e3, h⟩ := uu_ob h
    refine (agf_iput e3 (Or.inl (by decide))).tr ?_
    obtain ⟨s4, e5, h⟩ := uu_ob h
    refine (agf_iput e5 (Or.inl (by decide))).tr ?_
    have hr := Option.some.inj h
    subst hr
    exact agf.rf
  · replace h := uu_neg c1 h
    have hr := Option.some.inj h
    subst hr
    exact agf.rf
set_option maxRecDepth 100000 in
set_option maxHeartbeats 4000000 in
theorem zb_X12_fieldOf_86     {x1 : Int32} {x2 : Int32} {x3 : Int32} {x4 : Int32} {s : uS} {r : (uS × Int32)}  (h : fb_X12_fieldOf_86   x1 x2 x3 x4 s = some r) : agf [] [1088, 1089] [] [] s r.1 := by
  unfold fb_X12_fieldOf_86 at h
  by_cases c1 : x4 ≤ 0
  · replace h := uu_pos c1 h
    exact zb_X12_fieldOf_119  h
  · replace h := uu_neg c1 h
    by_cases c2 : (60 : Int32) < x4
    · replace h := uu_pos c2 h
      exact zb_X12_fieldOf_119  h
    · replace h := uu_neg c2 h
      by_cases c3 : x2 ≤ x3
      · replace h := uu_pos c3 h
        exact zb_X12_fieldOf_119  h
      · replace h := uu_neg c3 h
        obtain ⟨v4, e5, h⟩ := uu_ob h
        by_cases c6 : v4 = 58
        · replace h := uu_pos c6 h
          exact zb_X12_fieldOf_119  h
        · replace h := uu_neg c6 h
          exact zb_X12_fieldOf_119  h
set_option maxRecDepth 100000 in
set_option maxHeartbeats 4000000 in
theorem zb_X12_fieldOf_52  {K52 : Int32 → Int32 → Int32 → Int32 → uS → Option (uS × Int32)}  (hK52 : ∀ (x1 : Int32) (x2 : Int32) (x3 : Int32) (x4 : Int32)  (s : uS) (r : (uS × Int32)), K52 x1 x2 x3 x4 s = some r → agf [] [1088, 1089] [] [] s r.1) {x1 : Int32} {x2 : Int32} {x3 : Int32} {x4 : Int32} {s : uS} {r : (uS × Int32)}  (h : fb_X12_fieldOf_52  K52 x1 x2 x3 x4 s = some r) : agf [] [1088, 1089] [] [] s r.1 := by
  unfold fb_X12_fieldOf_52 at h
  by_cases c1 : x2 ≤ x3
  · replace h := uu_pos c1 h
    exact zb_X12_fieldOf_86  h
  · replace h := uu_neg c1 h
    obtain ⟨v2, e3, h⟩ := uu_ob h
    by_cases c4 : v2 = 32
    · replace h := uu_pos c4 h
      exact hK52 x1 x2 (x3 + 1) x4 _ _ h
    · replace h := uu_neg c4 h
      obtain ⟨v5, e6, h⟩ := uu_ob h
      by_cases c7 : v5 = 9
      · replace h := uu_pos c7 h
        exact hK52 x1 x2 (x3 + 1) x4 _ _ h
      · replace h := uu_neg c7 h
        exact zb_X12_fieldOf_86  h
set_option maxRecDepth 100000 in
set_option maxHeartbeats 4000000 in
theorem zn_X12_fieldOf_52     : ∀ (n : Nat) (x1 : Int32) (x2 : Int32) (x3 : Int32) (x4 : Int32)  (s : uS) (r : (uS × Int32)), fn_X12_fieldOf_52   n x1 x2 x3 x4 s = some r → agf [] [1088, 1089] [] [] s r.1 := by
  intro n
  induction n with
  | zero => intro x1 x2 x3 x4  s r h
            cases h
  | succ n ih => intro x1 x2 x3 x4  s r h
                 exact zb_X12_fieldOf_52  ih  h
set_option maxRecDepth 100000 in
set_option maxHeartbeats 4000000 in
theorem zb_X12_fieldOf_2  {K2 : Int32 → Int32 → Int32 → uS → Option (uS × Int32)}  (hK2 : ∀ (x1 : Int32) (x2 : Int32) (x3 : Int32)  (s : uS) (r : (uS × Int32)), K2 x1 x2 x3 s = some r → agf [] [1088, 1089] [] [] s r.1) {x1 : Int32} {x2 : Int32} {x3 : Int32} {s : uS} {r : (uS × Int32)}  (h : fb_X12_fieldOf_2  K2 x1 x2 x3 s = some r) : agf [] [1088, 1089] [] [] s r.1 := by
  unfold fb_X12_fieldOf_2 at h
  by_cases c1 : x2 ≤ x3
  · replace h := uu_pos c1 h
    exact zn_X12_fieldOf_52  _ _ _ _ _ _ _ h
  · replace h := uu_neg c1 h
    obtain ⟨v2, e3, h⟩ := uu_ob h
    by_cases c4 : v2 ≤ 32
    · replace h := uu_pos c4 h
      exact zn_X12_fieldOf_52  _ _ _ _ _ _ _ h
    · replace h := uu_neg c4 h
      obtain ⟨v5, e6, h⟩ := uu_ob h
      by_cases c7 : (127 : Int32) ≤ v5
      · replace h := uu_pos c7 h
        exact zn_X12_fieldOf_52  _ _ _ _ _ _ _ h
      · replace h := uu_neg c7 h
        obtain ⟨v8, e9, h⟩ := uu_ob h
        by_cases c10 : v8 = 58
        · replace h := uu_pos c10 h
          exact zn_X12_fieldOf_52  _ _ _ _ _ _ _ h
        · replace h := uu_neg c10 h
          exact hK2 x1 x2 (x3 + 1) _ _ h
set_option maxRecDepth 100000 in
set_option maxHeartbeats 4000000 in
theorem zn_X12_fieldOf_2     : ∀ (n : Nat) (x1 : Int32) (x2 : Int32) (x3 : Int32)  (s : uS) (r : (uS × Int32)), fn_X12_fieldOf_2   n x1 x2 x3 s = some r → agf [] [1088, 1089] [] [] s r.1 := by
  intro n
  induction n with
  | zero => intro x1 x2 x3  s r h
            cases h
  | succ n ih => intro x1 x2 x3  s r h
                 exact zb_X12_fieldOf_2  ih  h
set_option maxRecDepth 100000 in
set_option maxHeartbeats 4000000 in
theorem zc_X12_fieldOf   {x1 : Int32} {x2 : Int32} {s : uS} {r : (uS × Int32)}  (h : fn_X12_fieldOf  x1 x2 s = some r) : agf [] [1088, 1089] [] [] s r.1 := by
  unfold fn_X12_fieldOf at h
  exact zn_X12_fieldOf_2  _ _ _ _ _ _ h
set_option maxRecDepth 100000 in
set_option maxHeartbeats 4000000 in
theorem zb_X12_trim_84     {x2 : Int32} {x3 : Int32} {s : uS} {r : uS}  (h : fb_X12_trim_84   x2 x3 s = some r) : agf [] [1090, 1091] [] [] s r := by
  unfold fb_X12_trim_84 at h
  obtain ⟨s1, e2, h⟩ := uu_ob h
  refine (agf_iput e2 (Or.inl (by decide))).tr ?_
  obtain ⟨s3, e4, h⟩ := uu_ob h
  refine (agf_iput e4 (Or.inl (by decide))).tr ?_
  have hr := Option.some.inj h
  subst hr
  exact agf.rf
set_option maxRecDepth 100000 in
set_option maxHeartbeats 4000000 in
theorem zb_X12_trim_46  {K46 : Int32 → Int32 → uS → Option uS}  (hK46 : ∀ (x2 : Int32) (x3 : Int32)  (s : uS) (r : uS), K46 x2 x3 s = some r → agf [] [1090, 1091] [] [] s r) {x2 : Int32} {x3 : Int32} {s : uS} {r : uS}  (h : fb_X12_trim_46  K46 x2 x3 s = some r) : agf [] [1090, 1091] [] [] s r := by
  unfold fb_X12_trim_46 at h
  by_cases c1 : x3 ≤ x2
  · replace h := uu_pos c1 h
    exact zb_X12_trim_84  h
  · replace h := uu_neg c1 h
    obtain ⟨v2, e3, h⟩ := uu_ob h
    by_cases c4 : v2 = 32
    · replace h := uu_pos c4 h
      exact hK46 x2 (x3 - 1) _ _ h
    · replace h := uu_neg c4 h
      obtain ⟨v5, e6, h⟩ := uu_ob h
      by_cases c7 : v5 = 9
      · replace h := uu_pos c7 h
        exact hK46 x2 (x3 - 1) _ _ h
      · replace h := uu_neg c7 h
        exact zb_X12_trim_84  h
set_option maxRecDepth 100000 in
set_option maxHeartbeats 4000000 in
theorem zn_X12_trim_46     : ∀ (n : Nat) (x2 : Int32) (x3 : Int32)  (s : uS) (r : uS), fn_X12_trim_46   n x2 x3 s = some r → agf [] [1090, 1091] [] [] s r := by
  intro n
  induction n with
  | zero => intro x2 x3  s r h
            cases h
  | succ n ih => intro x2 x3  s r h
                 exact zb_X12_trim_46  ih  h
set_option maxRecDepth 100000 in
set_option maxHeartbeats 4000000 in
theorem zb_X12_trim_12  {K12 : Int32 → Int32 → uS → Option uS}  (hK12 : ∀ (x2 : Int32) (x3 : Int32)  (s : uS) (r : uS), K12 x2 x3 s = some r → agf [] [1090, 1091] [] [] s r) {x2 : Int32} {x3 : Int32} {s : uS} {r : uS}  (h : fb_X12_trim_12  K12 x2 x3 s = some r) : agf [] [1090, 1091] [] [] s r := by
  unfold fb_X12_trim_12 at h
  by_cases c1 : x3 ≤ x2
  · replace h := uu_pos c1 h
    exact zn_X12_trim_46  _ _ _ _ _ h
  · replace h := uu_neg c1 h
    obtain ⟨v2, e3, h⟩ := uu_ob h
    by_cases c4 : v2 = 32
    · replace h := uu_pos c4 h
      exact hK12 (x2 + 1) x3 _ _ h
    · replace h := uu_neg c4 h
      obtain ⟨v5, e6, h⟩ := uu_ob h
      by_cases c7 : v5 = 9
      · replace h := uu_pos c7 h
        exact hK12 (x2 + 1) x3 _ _ h
      · replace h := uu_neg c7 h
        exact zn_X12_trim_46  _ _ _ _ _ h
set_option maxRecDepth 100000 in
set_option maxHeartbeats 4000000 in
theorem zn_X12_trim_12     : ∀ (n : Nat) (x2 : Int32) (x3 : Int32)  (s : uS) (r : uS), fn_X12_trim_12   n x2 x3 s = some r → agf [] [1090, 1091] [] [] s r := by
  intro n
  induction n with
  | zero => intro x2 x3  s r h
            cases h
  | succ n ih => intro x2 x3  s r h
                 exact zb_X12_trim_12  ih  h
set_option maxRecDepth 100000 in
set_option maxHeartbeats 4000000 in
theorem zc_X12_trim   {x1 : Int32} {s : uS} {r : uS}  (h : fn_X12_trim  x1 s = some r) : agf [] [1090, 1091] [] [] s r := by
  unfold fn_X12_trim at h
  obtain ⟨v1, e2, h⟩ := uu_ob h
  exact zn_X12_trim_12  _ _ _ _ _ h
set_option maxRecDepth 100000 in
set_option maxHeartbeats 4000000 in
theorem zb_X12_readHeader_194  {K11 : Int32 → Int32 → Bool → uS → Option uS}  (hK11 : ∀ (x1 : Int32) (x2 : Int32) (b3 : Bool)  (s : uS) (r : uS), K11 x1 x2 b3 s = some r → agf [(1079, 14)] [1088, 1089, 1090, 1091, 1092] [] [] s r) {x1 : Int32} {x2 : Int32} {b3 : Bool} {s : uS} {r : uS}  (h : fb_X12_readHeader_194  K11 x1 x2 b3 s = some r) : agf [(1079, 14)] [1088, 1089, 1090, 1091, 1092] [] [] s r := by
  unfold fb_X12_readHeader_194 at h
  obtain ⟨s1, e2, h⟩ := uu_ob h
  refine ((zc_X12_trim  e2).mo (by decide) (by decide) (by decide) (fun _ h => nomatch h)).tr ?_
  refine (agf_wI (a := 1079) (f := 14) (v := (s1.I 1079 14) + 1) (Or.inl (by decide))).tr ?_
  exact hK11 x1 x2 b3 _ _ h
set_option maxRecDepth 100000 in
set_option maxHeartbeats 4000000 in
theorem zb_X12_readHeader_156  {K11 : Int32 → Int32 → Bool → uS → Option uS} {K116 : Int32 → Int32 → Bool → uS → Option uS} {K156 : Int32 → Bool → Int32 → Int32 → uS → Option uS}  (hK11 : ∀ (x1 : Int32) (x2 : Int32) (b3 : Bool)  (s : uS) (r : uS), K11 x1 x2 b3 s = some r → agf [(1079, 14)] [1088, 1089, 1090, 1091, 1092] [] [] s r) (hK116 : ∀ (x1 : Int32) (x2 : Int32) (b3 : Bool)  (s : uS) (r : uS), K116 x1 x2 b3 s = some r → agf [(1079, 14)] [1088, 1089, 1090, 1091, 1092] [] [] s r) (hK156 : ∀ (x1 : Int32) (b3 : Bool) (x6 : Int32) (x7 : Int32)  (s : uS) (r : uS), K156 x1 b3 x6 x7 s = some r → agf [(1079, 14)] [1088, 1089, 1090, 1091, 1092] [] [] s r) {x1 : Int32} {b3 : Bool} {x6 : Int32} {x7 : Int32} {s : uS} {r : uS}  (h : fb_X12_readHeader_156  K11 K116 K156 x1 b3 x6 x7 s = some r) : agf [(1079, 14)] [1088, 1089, 1090, 1091, 1092] [] [] s r := by
  unfold fb_X12_readHeader_156 at h
  by_cases c1 : x6 ≤ x7
  · replace h := uu_pos c1 h
    exact hK116 x1 (x6 + 2) b3 _ _ h
  · replace h := uu_neg c1 h
    obtain ⟨v2, e3, h⟩ := uu_ob h
    obtain ⟨s4, e5, h⟩ := uu_ob h
    refine (agf_iput e5 (Or.inl (by decide))).tr ?_
    exact hK156 (x1 + 1) b3 x6 (x7 + 1) _ _ h
set_option maxRecDepth 100000 in
set_option maxHeartbeats 4000000 in
theorem zn_X12_readHeader_156  {K11 : Int32 → Int32 → Bool → uS → Option uS} {K116 : Int32 → Int32 → Bool → uS → Option uS}  (hK11 : ∀ (x1 : Int32) (x2 : Int32) (b3 : Bool)  (s : uS) (r : uS), K11 x1 x2 b3 s = some r → agf [(1079, 14)] [1088, 1089, 1090, 1091, 1092] [] [] s r) (hK116 : ∀ (x1 : Int32) (x2 : Int32) (b3 : Bool)  (s : uS) (r : uS), K116 x1 x2 b3 s = some r → agf [(1079, 14)] [1088, 1089, 1090, 1091, 1092] [] [] s r) : ∀ (n : Nat) (x1 : Int32) (b3 : Bool) (x6 : Int32) (x7 : Int32)  (s : uS) (r : uS), fn_X12_readHeader_156  K11 K116 n x1 b3 x6 x7 s = some r → agf [(1079, 14)] [1088, 1089, 1090, 1091, 1092] [] [] s r := by
  intro n
  induction n with
  | zero => intro x1 b3 x6 x7  s r h
            cases h
  | succ n ih => intro x1 b3 x6 x7  s r h
                 exact zb_X12_readHeader_156  hK11 hK116 ih  h
set_option maxRecDepth 100000 in
set_option maxHeartbeats 4000000 in
theorem zb_X12_readHeader_146  {K11 : Int32 → Int32 → Bool → uS → Option uS} {K116 : Int32 → Int32 → Bool → uS → Option uS}  (hK11 : ∀ (x1 : Int32) (x2 : Int32) (b3 : Bool)  (s : uS) (r : uS), K11 x1 x2 b3 s = some r → agf [(1079, 14)] [1088, 1089, 1090, 1091, 1092] [] [] s r) (hK116 : ∀ (x1 : Int32) (x2 : Int32) (b3 : Bool)  (s : uS) (r : uS), K116 x1 x2 b3 s = some r → agf [(1079, 14)] [1088, 1089, 1090, 1091, 1092] [] [] s r) {x1 : Int32} {x2 : Int32} {b3 : Bool} {s : uS} {r : uS}  (h : fb_X12_readHeader_146  K11 K116 x1 x2 b3 s = some r) : agf [(1079, 14)] [1088, 1089, 1090, 1091, 1092] [] [] s r := by
  unfold fb_X12_readHeader_146 at h
  obtain ⟨v1, e2, h⟩ := uu_ob h
  exact zn_X12_readHeader_156 hK11 hK116 _ _ _ _ _ _ _ h
set_option maxRecDepth 100000 in
set_option maxHeartbeats 4000000 in
theorem zb_X12_readHeader_116  {K11 : Int32 → Int32 → Bool → uS → Option uS} {K116 : Int32 → Int32 → Bool → uS → Option uS}  (hK11 : ∀ (x1 : Int32) (x2 : Int32) (b3 : Bool)  (s : uS) (r : uS), K11 x1 x2 b3 s = some r → agf [(1079, 14)] [1088, 1089, 1090, 1091, 1092] [] [] s r) (hK116 : ∀ (x1 : Int32) (x2 : Int32) (b3 : Bool)  (s : uS) (r : uS), K116 x1 x2 b3 s = some r → agf [(1079, 14)] [1088, 1089, 1090, 1091, 1092] [] [] s r) {x1 : Int32} {x2 : Int32} {b3 : Bool} {s : uS} {r : uS}  (h : fb_X12_readHeader_116  K11 K116 x1 x2 b3 s = some r) : agf [(1079, 14)] [1088, 1089, 1090, 1091, 1092] [] [] s r := by
  unfold fb_X12_readHeader_116 at h
  by_cases c1 : (s.I 1079 13) ≤ x2
  · replace h := uu_pos c1 h
    exact zb_X12_readHeader_194 hK11 h
  · replace h := uu_neg c1 h
    obtain ⟨v2, e3, h⟩ := uu_ob h
    by_cases c4 : v2 = 32
    · replace h := uu_pos c4 h
      exact zb_X12_readHeader_146 hK11 hK116 h
    · replace h := uu_neg c4 h
      obtain ⟨v5, e6, h⟩ := uu_ob h
      by_cases c7 : v5 = 9
      · replace h := uu_pos c7 h
        exact zb_X12_readHeader_146 hK11 hK116 h
      · replace h := uu_neg c7 h
        exact zb_X12_readHeader_194 hK11 h
set_option maxRecDepth 100000 in
set_option maxHeartbeats 4000000 in
theorem zn_X12_readHeader_116  {K11 : Int32 → Int32 → Bool → uS → Option uS}  (hK11 : ∀ (x1 : Int32) (x2 : Int32) (b3 : Bool)  (s : uS) (r : uS), K11 x1 x2 b3 s = some r → agf [(1079, 14)] [1088, 1089, 1090, 1091, 1092] [] [] s r) : ∀ (n : Nat) (x1 : Int32) (x2 : Int32) (b3 : Bool)  (s : uS) (r : uS), fn_X12_readHeader_116  K11 n x1 x2 b3 s = some r → agf [(1079, 14)] [1088, 1089, 1090, 1091, 1092] [] [] s r := by
  intro n
  induction n with
  | zero => intro x1 x2 b3  s r h
            cases h
  | succ n ih => intro x1 x2 b3  s r h
                 exact zb_X12_readHeader_116  hK11 ih  h
set_option maxRecDepth 100000 in
set_option maxHeartbeats 4000000 in
theorem zb_X12_readHeader_81  {K11 : Int32 → Int32 → Bool → uS → Option uS} {K81 : Int32 → Bool → Int32 → Int32 → uS → Option uS}  (hK11 : ∀ (x1 : Int32) (x2 : Int32) (b3 : Bool)  (s : uS) (r : uS), K11 x1 x2 b3 s = some r → agf [(1079, 14)] [1088, 1089, 1090, 1091, 1092] [] [] s r) (hK81 : ∀ (x1 : Int32) (b3 : Bool) (x4 : Int32) (x6 : Int32)  (s : uS) (r : uS), K81 x1 b3 x4 x6 s = some r → agf [(1079, 14)] [1088, 1089, 1090, 1091, 1092] [] [] s r) {x1 : Int32} {b3 : Bool} {x4 : Int32} {x6 : Int32} {s : uS} {r : uS}  (h : fb_X12_readHeader_81  K11 K81 x1 b3 x4 x6 s = some r) : agf [(1079, 14)] [1088, 1089, 1090, 1091, 1092] [] [] s r := by
  unfold fb_X12_readHeader_81 at h
  by_cases c1 : x4 ≤ x6
  · replace h := uu_pos c1 h
    exact zn_X12_readHeader_116 hK11 _ _ _ _ _ _ h
  · replace h := uu_neg c1 h
    obtain ⟨v2, e3, h⟩ := uu_ob h
    obtain ⟨s4, e5, h⟩ := uu_ob h
    refine (agf_iput e5 (Or.inl (by decide))).tr ?_
    exact hK81 (x1 + 1) b3 x4 (x6 + 1) _ _ h
set_option maxRecDepth 100000 in
set_option maxHeartbeats 4000000 in
theorem zn_X12_readHeader_81  {K11 : Int32 → Int32 → Bool → uS → Option uS}  (hK11 : ∀ (x1 : Int32) (x2 : Int32) (b3 : Bool)  (s : uS) (r : uS), K11 x1 x2 b3 s = some r → agf [(1079, 14)] [1088, 1089, 1090, 1091, 1092] [] [] s r) : ∀ (n : Nat) (x1 : Int32) (b3 : Bool) (x4 : Int32) (x6 : Int32)  (s : uS) (r : uS), fn_X12_readHeader_81  K11 n x1 b3 x4 x6 s = some r → agf [(1079, 14)] [1088, 1089, 1090, 1091, 1092] [] [] s r := by
  intro n
  induction n with
  | zero => intro x1 b3 x4 x6  s r h
            cases h
  | succ n ih => intro x1 b3 x4 x6  s r h
                 exact zb_X12_readHeader_81  hK11 ih  h
set_option maxRecDepth 100000 in
set_option maxHeartbeats 4000000 in
theorem zb_X12_readHeader_59  {K11 : Int32 → Int32 → Bool → uS → Option uS}  (hK11 : ∀ (x1 : Int32) (x2 : Int32) (b3 : Bool)  (s : uS) (r : uS), K11 x1 x2 b3 s = some r → agf [(1079, 14)] [1088, 1089, 1090, 1091, 1092] [] [] s r) {x1 : Int32} {x4 : Int32} {x5 : Int32} {bs0 : Bool} {s : uS} {r : uS}  (h : fb_X12_readHeader_59  K11 x1 x4 x5 bs0 s = some r) : agf [(1079, 14)] [1088, 1089, 1090, 1091, 1092] [] [] s r := by
  unfold fb_X12_readHeader_59 at h
  by_cases c1 : bs0 = true
  · replace h := uu_pos c1 h
    obtain ⟨s2, e3, h⟩ := uu_ob h
    refine (agf_iput e3 (Or.inl (by decide))).tr ?_
    exact zn_X12_readHeader_81 hK11 _ _ _ _ _ _ _ h
  · replace h := uu_neg c1 h
    have hr := Option.some.inj h
    subst hr
    exact agf.rf
set_option maxRecDepth 100000 in
set_option maxHeartbeats 4000000 in
theorem zb_X12_readHeader_47  {K11 : Int32 → Int32 → Bool → uS → Option uS}  (hK11 : ∀ (x1 : Int32) (x2 : Int32) (b3 : Bool)  (s : uS) (r : uS), K11 x1 x2 b3 s = some r → agf [(1079, 14)] [1088, 1089, 1090, 1091, 1092] [] [] s r) {x1 : Int32} {x4 : Int32} {xs0 : Int32} {s : uS} {r : uS}  (h : fb_X12_readHeader_47  K11 x1 x4 xs0 s = some r) : agf [(1079, 14)] [1088, 1089, 1090, 1091, 1092] [] [] s r := by
  unfold fb_X12_readHeader_47 at h
  by_cases c1 : xs0 < 0
  · replace h := uu_pos c1 h
    exact zb_X12_readHeader_59 hK11 h
  · replace h := uu_neg c1 h
    exact zb_X12_readHeader_59 hK11 h
set_option maxRecDepth 100000 in
set_option maxHeartbeats 4000000 in
theorem zb_X12_readHeader_11  {K11 : Int32 → Int32 → Bool → uS → Option uS}  (hK11 : ∀ (x1 : Int32) (x2 : Int32) (b3 : Bool)  (s : uS) (r : uS), K11 x1 x2 b3 s = some r → agf [(1079, 14)] [1088, 1089, 1090, 1091, 1092] [] [] s r) {x1 : Int32} {x2 : Int32} {b3 : Bool} {s : uS} {r : uS}  (h : fb_X12_readHeader_11  K11 x1 x2 b3 s = some r) : agf [(1079, 14)] [1088, 1089, 1090, 1091, 1092] [] [] s r := by
  unfold fb_X12_readHeader_11 at h
  by_cases c1 : b3 = true
  · replace h := uu_pos c1 h
    by_cases c2 : (s.I 1079 13) ≤ x2
    · replace h := uu_pos c2 h
      have hr := Option.some.inj h
      subst hr
      exact agf.rf
    · replace h := uu_neg c2 h
      obtain ⟨v3, e4, h⟩ := uu_ob h
      by_cases c5 : v3 ≤ x2
      · replace h := uu_pos c5 h
        exact zb_X12_readHeader_47 hK11 h
      · replace h := uu_neg c5 h
        obtain ⟨r6, e7, h⟩ := uu_ob h
        refine ((zc_X12_fieldOf  e7).mo (by decide) (by decide) (by decide) (fun _ h => nomatch h)).tr ?_
        exact zb_X12_readHeader_47 hK11 h
  · replace h := uu_neg c1 h
    have hr := Option.some.inj h
    subst hr
    exact agf.rf
set_option maxRecDepth 100000 in
set_option maxHeartbeats 4000000 in
theorem zn_X12_readHeader_11     : ∀ (n : Nat) (x1 : Int32) (x2 : Int32) (b3 : Bool)  (s : uS) (r : uS), fn_X12_readHeader_11   n x1 x2 b3 s = some r → agf [(1079, 14)] [1088, 1089, 1090, 1091, 1092] [] [] s r := by
  intro n
  induction n with
  | zero => intro x1 x2 b3  s r h
            cases h
  | succ n ih => intro x1 x2 b3  s r h
                 exact zb_X12_readHeader_11  ih  h
set_option maxRecDepth 100000 in
set_option maxHeartbeats 4000000 in
theorem zc_X12_readHeader    {s : uS} {r : uS}  (h : fn_X12_readHeader   s = some r) : agf [(1079, 14)] [1088, 1089, 1090, 1091, 1092] [] [] s r := by
  unfold fn_X12_readHeader at h
  refine (agf_wI (a := 1079) (f := 14) (v := 0) (Or.inl (by decide))).tr ?_
  exact zn_X12_readHeader_11  _ _ _ _ _ _ h
set_option maxRecDepth 100000 in
set_option maxHeartbeats 4000000 in
theorem zb_X12_twoWord_10  {K10 : List Nat → Int32 → uS → Option uS}  (hK10 : ∀ (w1 : List Nat) (x2 : Int32)  (s : uS) (r : uS), K10 w1 x2 s = some r → agf [(1079, 23)] [1094] [] [] s r) {w1 : List Nat} {x2 : Int32} {s : uS} {r : uS}  (h : fb_X12_twoWord_10  K10 w1 x2 s = some r) : agf [(1079, 23)] [1094] [] [] s r := by
  unfold fb_X12_twoWord_10 at h
  by_cases c1 : (s.I 1079 23) ≤ x2
  · replace h := uu_pos c1 h
    have hr := Option.some.inj h
    subst hr
    exact agf.rf
  · replace h := uu_neg c1 h
    obtain ⟨v2, e3, h⟩ := uu_ob h
    obtain ⟨s4, e5, h⟩ := uu_ob h
    refine (agf_iput e5 (Or.inl (by decide))).tr ?_
    exact hK10 w1 (x2 + 1) _ _ h
set_option maxRecDepth 100000 in
set_option maxHeartbeats 4000000 in
theorem zn_X12_twoWord_10     : ∀ (n : Nat) (w1 : List Nat) (x2 : Int32)  (s : uS) (r : uS), fn_X12_twoWord_10   n w1 x2 s = some r → agf [(1079, 23)] [1094] [] [] s r := by
  intro n
  induction n with
  | zero => intro w1 x2  s r h
            cases h
  | succ n ih => intro w1 x2  s r h
                 exact zb_X12_twoWord_10  ih  h
set_option maxRecDepth 100000 in
set_option maxHeartbeats 4000000 in
theorem zc_X12_twoWord   {w1 : List Nat} {s : uS} {r : uS}  (h : fn_X12_twoWord  w1 s = some r) : agf [(1079, 23)] [1094] [] [] s r := by
  unfold fn_X12_twoWord at h
  refine (agf_wI (a := 1079) (f := 23) (v := nI w1.length) (Or.inl (by decide))).tr ?_
  exact zn_X12_twoWord_10  _ _ _ _ _ h
set_option maxRecDepth 100000 in
set_option maxHeartbeats 4000000 in
theorem zc_X12_oneIs   {w1 : List Nat} {s : uS} {r : (uS × Bool)}  (h : fn_X12_oneIs  w1 s = some r) : agf [(1079, 23)] [1094] [] [] s r.1 := by
  unfold fn_X12_oneIs at h
  obtain ⟨s1, e2, h⟩ := uu_ob h
  refine ((zc_X12_twoWord  e2).mo (by decide) (by decide) (by decide) (fun _ h => nomatch h)).tr ?_
  obtain ⟨v3, e4, h⟩ := uu_ob h
  have hr := Option.some.inj h
  subst hr
  exact agf.rf
set_option maxRecDepth 100000 in
set_option maxHeartbeats 4000000 in
theorem zb_X12_oneName_12  {K12 : Int32 → Int32 → uS → Option uS}  (hK12 : ∀ (x1 : Int32) (x2 : Int32)  (s : uS) (r : uS), K12 x1 x2 s = some r → agf [(1079, 21)] [1093] [] [] s r) {x1 : Int32} {x2 : Int32} {s : uS} {r : uS}  (h : fb_X12_oneName_12  K12 x1 x2 s = some r) : agf [(1079, 21)] [1093] [] [] s r := by
  unfold fb_X12_oneName_12 at h
  by_cases c1 : (s.I 1079 21) ≤ x2
  · replace h := uu_pos c1 h
    have hr := Option.some.inj h
    subst hr
    exact agf.rf
  · replace h := uu_neg c1 h
    obtain ⟨v2, e3, h⟩ := uu_ob h
    obtain ⟨v4, e5, h⟩ := uu_ob h
    obtain ⟨s6, e7, h⟩ := uu_ob h
    refine (agf_iput e7 (Or.inl (by decide))).tr ?_
    exact hK12 x1 (x2 + 1) _ _ h
set_option maxRecDepth 100000 in
set_option maxHeartbeats 4000000 in
theorem zn_X12_oneName_12     : ∀ (n : Nat) (x1 : Int32) (x2 : Int32)  (s : uS) (r : uS), fn_X12_oneName_12   n x1 x2 s = some r → agf [(1079, 21)] [1093] [] [] s r := by
  intro n
  induction n with
  | zero => intro x1 x2  s r h
            cases h
  | succ n ih => intro x1 x2  s r h
                 exact zb_X12_oneName_12  ih  h
set_option maxRecDepth 100000 in
set_option maxHeartbeats 4000000 in
theorem zc_X12_oneName   {x1 : Int32} {s : uS} {r : uS}  (h : fn_X12_oneName  x1 s = some r) : agf [(1079, 21)] [1093] [] [] s r := by
  unfold fn_X12_oneName at h
  obtain ⟨v1, e2, h⟩ := uu_ob h
  refine (agf_wI (a := 1079) (f := 21) (v := v1) (Or.inl (by decide))).tr ?_
  exact zn_X12_oneName_12  _ _ _ _ _ h
set_option maxRecDepth 100000 in
set_option maxHeartbeats 4000000 in
theorem zb_X12_oneValue_12  {K12 : Int32 → Int32 → uS → Option uS}  (hK12 : ∀ (x1 : Int32) (x2 : Int32)  (s : uS) (r : uS), K12 x1 x2 s = some r → agf [(1079, 21)] [1093] [] [] s r) {x1 : Int32} {x2 : Int32} {s : uS} {r : uS}  (h : fb_X12_oneValue_12  K12 x1 x2 s = some r) : agf [(1079, 21)] [1093] [] [] s r := by
  unfold fb_X12_oneValue_12 at h
  by_cases c1 : (s.I 1079 21) ≤ x2
  · replace h := uu_pos c1 h
    have hr := Option.some.inj h
    subst hr
    exact agf.rf
  · replace h := uu_neg c1 h
    obtain ⟨v2, e3, h⟩ := uu_ob h
    obtain ⟨v4, e5, h⟩ := uu_ob h
    obtain ⟨s6, e7, h⟩ := uu_ob h
    refine (agf_iput e7 (Or.inl (by decide))).tr ?_
    exact hK12 x1 (x2 + 1) _ _ h
set_option maxRecDepth 100000 in
set_option maxHeartbeats 4000000 in
theorem zn_X12_oneValue_12     : ∀ (n : Nat) (x1 : Int32) (x2 : Int32)  (s : uS) (r : uS), fn_X12_oneValue_12   n x1 x2 s = some r → agf [(1079, 21)] [1093] [] [] s r := by
  intro n
  induction n with
  | zero => intro x1 x2  s r h
            cases h
  | succ n ih => intro x1 x2  s r h
                 exact zb_X12_oneValue_12  ih  h
set_option maxRecDepth 100000 in
set_option maxHeartbeats 4000000 in
theorem zc_X12_oneValue   {x1 : Int32} {s : uS} {r : uS}  (h : fn_X12_oneValue  x1 s = some r) : agf [(1079, 21)] [1093] [] [] s r := by
  unfold fn_X12_oneValue at h
  obtain ⟨v1, e2, h⟩ := uu_ob h
  refine (agf_wI (a := 1079) (f := 21) (v := v1) (Or.inl (by decide))).tr ?_
  exact zn_X12_oneValue_12  _ _ _ _ _ h
set_option maxRecDepth 100000 in
set_option maxHeartbeats 4000000 in
theorem zb_X12_userOf_39  {K2 : Int32 → uS → Option (uS × Int32)}  (hK2 : ∀ (x1 : Int32)  (s : uS) (r : (uS × Int32)), K2 x1 s = some r → agf [(1079, 23)] [1094] [] [] s r.1) {x1 : Int32} {ws0 : List Nat} {s : uS} {r : (uS × Int32)}  (h : fb_X12_userOf_39  K2 x1 ws0 s = some r) : agf [(1079, 23)] [1094] [] [] s r.1 := by
  unfold fb_X12_userOf_39 at h
  obtain ⟨r1, e2, h⟩ := uu_ob h
  refine ((zc_X12_oneIs  e2).mo (by decide) (by decide) (by decide) (fun _ h => nomatch h)).tr ?_
  by_cases c3 : r1.2 = true
  · replace h := uu_pos c3 h
    have hr := Option.some.inj h
    subst hr
    exact agf.rf
  · replace h := uu_neg c3 h
    exact hK2 (x1 + 1) _ _ h
set_option maxRecDepth 100000 in
set_option maxHeartbeats 4000000 in
theorem zb_X12_userOf_2  {K2 : Int32 → uS → Option (uS × Int32)}  (hK2 : ∀ (x1 : Int32)  (s : uS) (r : (uS × Int32)), K2 x1 s = some r → agf [(1079, 23)] [1094] [] [] s r.1) {x1 : Int32} {s : uS} {r : (uS × Int32)}  (h : fb_X12_userOf_2  K2 x1 s = some r) : agf [(1079, 23)] [1094] [] [] s r.1 := by
  unfold fb_X12_userOf_2 at h
  by_cases c1 : (4 : Int32) ≤ x1
  · replace h := uu_pos c1 h
    have hr := Option.some.inj h
    subst hr
    exact agf.rf
  · replace h := uu_neg c1 h
    by_cases c2 : x1 = 0
    · replace h := uu_pos c2 h
      exact zb_X12_userOf_39 hK2 h
    · replace h := uu_neg c2 h
      by_cases c4 : x1 = 1
      · replace h := uu_pos c4 h
        exact zb_X12_userOf_39 hK2 h
      · replace h := uu_neg c4 h
        by_cases c6 : x1 = 2
        · replace h := uu_pos c6 h
          exact zb_X12_userOf_39 hK2 h
        · replace h := uu_neg c6 h
          exact zb_X12_userOf_39 hK2 h
set_option maxRecDepth 100000 in
set_option maxHeartbeats 4000000 in
theorem zn_X12_userOf_2     : ∀ (n : Nat) (x1 : Int32)  (s : uS) (r : (uS × Int32)), fn_X12_userOf_2   n x1 s = some r → agf [(1079, 23)] [1094] [] [] s r.1 := by
  intro n
  induction n with
  | zero => intro x1  s r h
            cases h
  | succ n ih => intro x1  s r h
                 exact zb_X12_userOf_2  ih  h
set_option maxRecDepth 100000 in
set_option maxHeartbeats 4000000 in
theorem zc_X12_userOf    {s : uS} {r : (uS × Int32)}  (h : fn_X12_userOf   s = some r) : agf [(1079, 23)] [1094] [] [] s r.1 := by
  unfold fn_X12_userOf at h
  exact zn_X12_userOf_2  _ _ _ _ h
set_option maxRecDepth 100000 in
set_option maxHeartbeats 4000000 in
theorem zc_X12_beginParts    {s : uS} {r : uS}  (h : fn_X12_beginParts   s = some r) : agf [(1079, 24), (1079, 25)] [] [] [] s r := by
  unfold fn_X12_beginParts at h
  refine (agf_wI (a := 1079) (f := 24) (v := 0) (Or.inl (by decide))).tr ?_
  refine (agf_wI (a := 1079) (f := 25) (v := 1) (Or.inl (by decide))).tr ?_
  have hr := Option.some.inj h
  subst hr
  exact agf.rf
set_option maxRecDepth 100000 in
set_option maxHeartbeats 4000000 in
theorem zb_X12_keepWhole_10  {K10 : Int32 → uS → Option uS}  (hK10 : ∀ (x1 : Int32)  (s : uS) (r : uS), K10 x1 s = some r → agf [(1079, 27)] [1095] [] [] s r) {x1 : Int32} {s : uS} {r : uS}  (h : fb_X12_keepWhole_10  K10 x1 s = some r) : agf [(1079, 27)] [1095] [] [] s r := by
  unfold fb_X12_keepWhole_10 at h
  by_cases c1 : (s.I 1079 21) ≤ x1
  · replace h := uu_pos c1 h
    have hr := Option.some.inj h
    subst hr
    exact agf.rf
  · replace h := uu_neg c1 h
    obtain ⟨v2, e3, h⟩ := uu_ob h
    obtain ⟨s4, e5, h⟩ := uu_ob h
    refine (agf_iput e5 (Or.inl (by decide))).tr ?_
    exact hK10 (x1 + 1) _ _ h
set_option maxRecDepth 100000 in
set_option maxHeartbeats 4000000 in
theorem zn_X12_keepWhole_10     : ∀ (n : Nat) (x1 : Int32)  (s : uS) (r : uS), fn_X12_keepWhole_10   n x1 s = some r → agf [(1079, 27)] [1095] [] [] s r := by
  intro n
  induction n with
  | zero => intro x1  s r h
            cases h
  | succ n ih => intro x1  s r h
                 exact zb_X12_keepWhole_10  ih  h
set_option maxRecDepth 100000 in
set_option maxHeartbeats 4000000 in
theorem zc_X12_keepWhole    {s : uS} {r : uS}  (h : fn_X12_keepWhole   s = some r) : agf [(1079, 27)] [1095] [] [] s r := by
  unfold fn_X12_keepWhole at h
  refine (agf_wI (a := 1079) (f := 27) (v := s.I 1079 21) (Or.inl (by decide))).tr ?_
  exact zn_X12_keepWhole_10  _ _ _ _ h
set_option maxRecDepth 100000 in
set_option maxHeartbeats 4000000 in
theorem zc_X12_add   {x1 : Int32} {s : uS} {r : uS}  (h : fn_X12_add  x1 s = some r) : agf [(1079, 21)] [1093] [] [] s r := by
  unfold fn_X12_add at h
  obtain ⟨s1, e2, h⟩ := uu_ob h
  refine (agf_iput e2 (Or.inl (by decide))).tr ?_
  refine (agf_wI (a := 1079) (f := 21) (v := (s1.I 1079 21) + 1) (Or.inl (by decide))).tr ?_
  have hr := Option.some.inj h
  subst hr
  exact agf.rf
set_option maxRecDepth 100000 in
set_option maxHeartbeats 4000000 in
theorem zb_X12_nextPart_384     {x1 : Int32} {b3 : Bool} {bs0 : Bool} {s : uS} {r : (uS × Bool)}  (h : fb_X12_nextPart_384   x1 b3 bs0 s = some r) : agf [(1079, 21), (1079, 24), (1079, 25)] [1093] [] [] s r.1 := by
  unfold fb_X12_nextPart_384 at h
  refine (agf_wI (a := 1079) (f := 25) (v := bI bs0) (Or.inl (by decide))).tr ?_
  refine (agf_wI (a := 1079) (f := 24) (v := x1 + 1) (Or.inl (by decide))).tr ?_
  by_cases c1 : b3 = true
  · replace h := uu_pos c1 h
    refine (agf_wI (a := 1079) (f := 21) (v := 0) (Or.inl (by decide))).tr ?_
    have hr := Option.some.inj h
    subst hr
    exact agf.rf
  · replace h := uu_neg c1 h
    refine (agf_wI (a := 1079) (f := 21) (v := (wI (wI s 1079 25 (bI bs0)) 1079 24 (x1 + 1)).I 1079 21) (Or.inl (by decide))).tr ?_
    have hr := Option.some.inj h
    subst hr
    exact agf.rf
set_option maxRecDepth 100000 in
set_option maxHeartbeats 4000000 in
theorem zb_X12_nextPart_370     {x1 : Int32} {b3 : Bool} {s : uS} {r : (uS × Bool)}  (h : fb_X12_nextPart_370   x1 b3 s = some r) : agf [(1079, 21), (1079, 24), (1079, 25)] [1093] [] [] s r.1 := by
  unfold fb_X12_nextPart_370 at h
  by_cases c1 : (s.I 1079 27) ≤ x1
  · replace h := uu_pos c1 h
    exact zb_X12_nextPart_384  h
  · replace h := uu_neg c1 h
    exact zb_X12_nextPart_384  h
set_option maxRecDepth 100000 in
set_option maxHeartbeats 4000000 in
theorem zb_X12_nextPart_188  {K29 : Int32 → Bool → Bool → Bool → Int32 → uS → Option (uS × Bool)}  (hK29 : ∀ (x1 : Int32) (b2 : Bool) (b3 : Bool) (b4 : Bool) (x5 : Int32)  (s : uS) (r : (uS × Bool)), K29 x1 b2 b3 b4 x5 s = some r → agf [(1079, 21), (1079, 24), (1079, 25)] [1093] [] [] s r.1) {x1 : Int32} {b3 : Bool} {b4 : Bool} {x5 : Int32} {bs0 : Bool} {s : uS} {r : (uS × Bool)}  (h : fb_X12_nextPart_188  K29 x1 b3 b4 x5 bs0 s = some r) : agf [(1079, 21), (1079, 24), (1079, 25)] [1093] [] [] s r.1 := by
  unfold fb_X12_nextPart_188 at h
  exact hK29 (x1 + 1) bs0 b3 b4 x5 _ _ h
set_option maxRecDepth 100000 in
set_option maxHeartbeats 4000000 in
theorem zb_X12_nextPart_178  {K29 : Int32 → Bool → Bool → Bool → Int32 → uS → Option (uS × Bool)}  (hK29 : ∀ (x1 : Int32) (b2 : Bool) (b3 : Bool) (b4 : Bool) (x5 : Int32)  (s : uS) (r : (uS × Bool)), K29 x1 b2 b3 b4 x5 s = some r → agf [(1079, 21), (1079, 24), (1079, 25)] [1093] [] [] s r.1) {x1 : Int32} {b3 : Bool} {b4 : Bool} {x5 : Int32} {b9 : Bool} {s : uS} {r : (uS × Bool)}  (h : fb_X12_nextPart_178  K29 x1 b3 b4 x5 b9 s = some r) : agf [(1079, 21), (1079, 24), (1079, 25)] [1093] [] [] s r.1 := by
  unfold fb_X12_nextPart_178 at h
  by_cases c1 : b9 = true
  · replace h := uu_pos c1 h
    exact zb_X12_nextPart_188 hK29 h
  · replace h := uu_neg c1 h
    exact zb_X12_nextPart_188 hK29 h
set_option maxRecDepth 100000 in
set_option maxHeartbeats 4000000 in
theorem zb_X12_nextPart_148  {K29 : Int32 → Bool → Bool → Bool → Int32 → uS → Option (uS × Bool)}  (hK29 : ∀ (x1 : Int32) (b2 : Bool) (b3 : Bool) (b4 : Bool) (x5 : Int32)  (s : uS) (r : (uS × Bool)), K29 x1 b2 b3 b4 x5 s = some r → agf [(1079, 21), (1079, 24), (1079, 25)] [1093] [] [] s r.1) {x1 : Int32} {b3 : Bool} {b4 : Bool} {x5 : Int32} {b8 : Bool} {b9 : Bool} {s : uS} {r : (uS × Bool)}  (h : fb_X12_nextPart_148  K29 x1 b3 b4 x5 b8 b9 s = some r) : agf [(1079, 21), (1079, 24), (1079, 25)] [1093] [] [] s r.1 := by
  unfold fb_X12_nextPart_148 at h
  by_cases c1 : b8 = true
  · replace h := uu_pos c1 h
    obtain ⟨v2, e3, h⟩ := uu_ob h
    by_cases c4 : v2 = true
    · replace h := uu_pos c4 h
      obtain ⟨v5, e6, h⟩ := uu_ob h
      obtain ⟨s7, e8, h⟩ := uu_ob h
      refine ((zc_X12_add  e8).mo (by decide) (by decide) (by decide) (fun _ h => nomatch h)).tr ?_
      exact zb_X12_nextPart_178 hK29 h
    · replace h := uu_neg c4 h
      exact zb_X12_nextPart_178 hK29 h
  · replace h := uu_neg c1 h
    exact zb_X12_nextPart_178 hK29 h
set_option maxRecDepth 100000 in
set_option maxHeartbeats 4000000 in
theorem zb_X12_nextPart_129  {K29 : Int32 → Bool → Bool → Bool → Int32 → uS → Option (uS × Bool)}  (hK29 : ∀ (x1 : Int32) (b2 : Bool) (b3 : Bool) (b4 : Bool) (x5 : Int32)  (s : uS) (r : (uS × Bool)), K29 x1 b2 b3 b4 x5 s = some r → agf [(1079, 21), (1079, 24), (1079, 25)] [1093] [] [] s r.1) {x1 : Int32} {b3 : Bool} {b4 : Bool} {x5 : Int32} {x6 : Int32} {b8 : Bool} {bs0 : Bool} {s : uS} {r : (uS × Bool)}  (h : fb_X12_nextPart_129  K29 x1 b3 b4 x5 x6 b8 bs0 s = some r) : agf [(1079, 21), (1079, 24), (1079, 25)] [1093] [] [] s r.1 := by
  unfold fb_X12_nextPart_129 at h
  obtain ⟨v1, e2, h⟩ := uu_ob h
  by_cases c3 : v1 = true
  · replace h := uu_pos c3 h
    obtain ⟨s4, e5, h⟩ := uu_ob h
    refine ((zc_X12_add  e5).mo (by decide) (by decide) (by decide) (fun _ h => nomatch h)).tr ?_
    exact zb_X12_nextPart_148 hK29 h
  · replace h := uu_neg c3 h
    exact zb_X12_nextPart_148 hK29 h
set_option maxRecDepth 100000 in
set_option maxHeartbeats 4000000 in
theorem zb_X12_nextPart_332  {K29 : Int32 → Bool → Bool → Bool → Int32 → uS → Option (uS × Bool)}  (hK29 : ∀ (x1 : Int32) (b2 : Bool) (b3 : Bool) (b4 : Bool) (x5 : Int32)  (s : uS) (r : (uS × Bool)), K29 x1 b2 b3 b4 x5 s = some r → agf [(1079, 21), (1079, 24), (1079, 25)] [1093] [] [] s r.1) {x1 : Int32} {b2 : Bool} {b3 : Bool} {b4 : Bool} {x5 : Int32} {x6 : Int32} {s : uS} {r : (uS × Bool)}  (h : fb_X12_nextPart_332  K29 x1 b2 b3 b4 x5 x6 s = some r) : agf [(1079, 21), (1079, 24), (1079, 25)] [1093] [] [] s r.1 := by
  unfold fb_X12_nextPart_332 at h
  by_cases c1 : x6 = 32
  · replace h := uu_pos c1 h
    exact hK29 (x1 + 1) b2 b3 b4 x5 _ _ h
  · replace h := uu_neg c1 h
    by_cases c2 : x6 = 9
    · replace h := uu_pos c2 h
      exact hK29 (x1 + 1) b2 b3 b4 x5 _ _ h
    · replace h := uu_neg c2 h
      obtain ⟨v3, e4, h⟩ := uu_ob h
      by_cases c5 : v3 = true
      · replace h := uu_pos c5 h
        obtain ⟨s6, e7, h⟩ := uu_ob h
        refine ((zc_X12_add  e7).mo (by decide) (by decide) (by decide) (fun _ h => nomatch h)).tr ?_
        exact hK29 (x1 + 1) b2 b3 b4 x5 _ _ h
      · replace h := uu_neg c5 h
        exact hK29 (x1 + 1) b2 b3 b4 x5 _ _ h
set_option maxRecDepth 100000 in
set_option maxHeartbeats 4000000 in
theorem zb_X12_nextPart_316  {K29 : Int32 → Bool → Bool → Bool → Int32 → uS → Option (uS × Bool)}  (hK29 : ∀ (x1 : Int32) (b2 : Bool) (b3 : Bool) (b4 : Bool) (x5 : Int32)  (s : uS) (r : (uS × Bool)), K29 x1 b2 b3 b4 x5 s = some r → agf [(1079, 21), (1079, 24), (1079, 25)] [1093] [] [] s r.1) {x1 : Int32} {b2 : Bool} {b3 : Bool} {b4 : Bool} {x5 : Int32} {x6 : Int32} {s : uS} {r : (uS × Bool)}  (h : fb_X12_nextPart_316  K29 x1 b2 b3 b4 x5 x6 s = some r) : agf [(1079, 21), (1079, 24), (1079, 25)] [1093] [] [] s r.1 := by
  unfold fb_X12_nextPart_316 at h
  by_cases c1 : x6 = 62
  · replace h := uu_pos c1 h
    by_cases c2 : b3 = true
    · replace h := uu_pos c2 h
      exact hK29 (x1 + 1) b2 false b4 x5 _ _ h
    · replace h := uu_neg c2 h
      exact zb_X12_nextPart_332 hK29 h
  · replace h := uu_neg c1 h
    exact zb_X12_nextPart_332 hK29 h
set_option maxRecDepth 100000 in
set_option maxHeartbeats 4000000 in
theorem zb_X12_nextPart_241  {K29 : Int32 → Bool → Bool → Bool → Int32 → uS → Option (uS × Bool)}  (hK29 : ∀ (x1 : Int32) (b2 : Bool) (b3 : Bool) (b4 : Bool) (x5 : Int32)  (s : uS) (r : (uS × Bool)), K29 x1 b2 b3 b4 x5 s = some r → agf [(1079, 21), (1079, 24), (1079, 25)] [1093] [] [] s r.1) {b2 : Bool} {b3 : Bool} {b4 : Bool} {x5 : Int32} {xs0 : Int32} {s : uS} {r : (uS × Bool)}  (h : fb_X12_nextPart_241  K29 b2 b3 b4 x5 xs0 s = some r) : agf [(1079, 21), (1079, 24), (1079, 25)] [1093] [] [] s r.1 := by
  unfold fb_X12_nextPart_241 at h
  exact hK29 (xs0 + 1) b2 b3 b4 x5 _ _ h
set_option maxRecDepth 100000 in
set_option maxHeartbeats 4000000 in
theorem zb_X12_nextPart_227  {K29 : Int32 → Bool → Bool → Bool → Int32 → uS → Option (uS × Bool)}  (hK29 : ∀ (x1 : Int32) (b2 : Bool) (b3 : Bool) (b4 : Bool) (x5 : Int32)  (s : uS) (r : (uS × Bool)), K29 x1 b2 b3 b4 x5 s = some r → agf [(1079, 21), (1079, 24), (1079, 25)] [1093] [] [] s r.1) {x1 : Int32} {b2 : Bool} {b3 : Bool} {b4 : Bool} {b8 : Bool} {xs0 : Int32} {s : uS} {r : (uS × Bool)}  (h : fb_X12_nextPart_227  K29 x1 b2 b3 b4 b8 xs0 s = some r) : agf [(1079, 21), (1079, 24), (1079, 25)] [1093] [] [] s r.1 := by
  unfold fb_X12_nextPart_227 at h
  by_cases c1 : b8 = true
  · replace h := uu_pos c1 h
    exact zb_X12_nextPart_241 hK29 h
  · replace h := uu_neg c1 h
    exact zb_X12_nextPart_241 hK29 h
set_option maxRecDepth 100000 in
set_option maxHeartbeats 4000000 in
theorem zb_X12_nextPart_111  {K29 : Int32 → Bool → Bool → Bool → Int32 → uS → Option (uS × Bool)}  (hK29 : ∀ (x1 : Int32) (b2 : Bool) (b3 : Bool) (b4 : Bool) (x5 : Int32)  (s : uS) (r : (uS × Bool)), K29 x1 b2 b3 b4 x5 s = some r → agf [(1079, 21), (1079, 24), (1079, 25)] [1093] [] [] s r.1) {x1 : Int32} {b2 : Bool} {b3 : Bool} {b4 : Bool} {x5 : Int32} {x6 : Int32} {bs0 : Bool} {s : uS} {r : (uS × Bool)}  (h : fb_X12_nextPart_111  K29 x1 b2 b3 b4 x5 x6 bs0 s = some r) : agf [(1079, 21), (1079, 24), (1079, 25)] [1093] [] [] s r.1 := by
  unfold fb_X12_nextPart_111 at h
  by_cases c1 : b2 = true
  · replace h := uu_pos c1 h
    by_cases c2 : x6 = 34
    · replace h := uu_pos c2 h
      exact zb_X12_nextPart_129 hK29 h
    · replace h := uu_neg c2 h
      exact zb_X12_nextPart_129 hK29 h
  · replace h := uu_neg c1 h
    by_cases c3 : x5 ≤ 0
    · replace h := uu_pos c3 h
      by_cases c4 : x6 = 40
      · replace h := uu_pos c4 h
        exact hK29 (x1 + 1) b2 b3 b4 1 _ _ h
      · replace h := uu_neg c4 h
        by_cases c5 : x6 = 34
        · replace h := uu_pos c5 h
          obtain ⟨v6, e7, h⟩ := uu_ob h
          by_cases c8 : v6 = true
          · replace h := uu_pos c8 h
            obtain ⟨s9, e10, h⟩ := uu_ob h
            refine ((zc_X12_add  e10).mo (by decide) (by decide) (by decide) (fun _ h => nomatch h)).tr ?_
            exact hK29 (x1 + 1) true b3 b4 x5 _ _ h
          · replace h := uu_neg c8 h
            exact hK29 (x1 + 1) true b3 b4 x5 _ _ h
        · replace h := uu_neg c5 h
          by_cases c11 : x6 = 60
          · replace h := uu_pos c11 h
            by_cases c12 : b3 = true
            · replace h := uu_pos c12 h
              exact zb_X12_nextPart_316 hK29 h
            · replace h := uu_neg c12 h
              by_cases c13 : b4 = true
              · replace h := uu_pos c13 h
                exact zb_X12_nextPart_316 hK29 h
              · replace h := uu_neg c13 h
                refine (agf_wI (a := 1079) (f := 21) (v := 0) (Or.inl (by decide))).tr ?_
                exact hK29 (x1 + 1) b2 true true x5 _ _ h
          · replace h := uu_neg c11 h
            exact zb_X12_nextPart_316 hK29 h
    · replace h := uu_neg c3 h
      by_cases c14 : x6 = 40
      · replace h := uu_pos c14 h
        exact zb_X12_nextPart_227 hK29 h
      · replace h := uu_neg c14 h
        by_cases c15 : x6 = 41
        · replace h := uu_pos c15 h
          exact zb_X12_nextPart_227 hK29 h
        · replace h := uu_neg c15 h
          exact zb_X12_nextPart_227 hK29 h
set_option maxRecDepth 100000 in
set_option maxHeartbeats 4000000 in
theorem zb_X12_nextPart_96  {K29 : Int32 → Bool → Bool → Bool → Int32 → uS → Option (uS × Bool)}  (hK29 : ∀ (x1 : Int32) (b2 : Bool) (b3 : Bool) (b4 : Bool) (x5 : Int32)  (s : uS) (r : (uS × Bool)), K29 x1 b2 b3 b4 x5 s = some r → agf [(1079, 21), (1079, 24), (1079, 25)] [1093] [] [] s r.1) {x1 : Int32} {b2 : Bool} {b3 : Bool} {b4 : Bool} {x5 : Int32} {x6 : Int32} {s : uS} {r : (uS × Bool)}  (h : fb_X12_nextPart_96  K29 x1 b2 b3 b4 x5 x6 s = some r) : agf [(1079, 21), (1079, 24), (1079, 25)] [1093] [] [] s r.1 := by
  unfold fb_X12_nextPart_96 at h
  by_cases c1 : (s.I 1079 27) ≤ (x1 + 1)
  · replace h := uu_pos c1 h
    exact zb_X12_nextPart_111 hK29 h
  · replace h := uu_neg c1 h
    exact zb_X12_nextPart_111 hK29 h
set_option maxRecDepth 100000 in
set_option maxHeartbeats 4000000 in
theorem zb_X12_nextPart_70  {K29 : Int32 → Bool → Bool → Bool → Int32 → uS → Option (uS × Bool)}  (hK29 : ∀ (x1 : Int32) (b2 : Bool) (b3 : Bool) (b4 : Bool) (x5 : Int32)  (s : uS) (r : (uS × Bool)), K29 x1 b2 b3 b4 x5 s = some r → agf [(1079, 21), (1079, 24), (1079, 25)] [1093] [] [] s r.1) {x1 : Int32} {b2 : Bool} {b3 : Bool} {b4 : Bool} {x5 : Int32} {x6 : Int32} {bs0 : Bool} {s : uS} {r : (uS × Bool)}  (h : fb_X12_nextPart_70  K29 x1 b2 b3 b4 x5 x6 bs0 s = some r) : agf [(1079, 21), (1079, 24), (1079, 25)] [1093] [] [] s r.1 := by
  unfold fb_X12_nextPart_70 at h
  by_cases c1 : bs0 = true
  · replace h := uu_pos c1 h
    exact zb_X12_nextPart_370  h
  · replace h := uu_neg c1 h
    by_cases c2 : x6 = 92
    · replace h := uu_pos c2 h
      by_cases c3 : b2 = true
      · replace h := uu_pos c3 h
        exact zb_X12_nextPart_96 hK29 h
      · replace h := uu_neg c3 h
        by_cases c4 : x5 ≤ 0
        · replace h := uu_pos c4 h
          exact zb_X12_nextPart_111 hK29 h
        · replace h := uu_neg c4 h
          exact zb_X12_nextPart_96 hK29 h
    · replace h := uu_neg c2 h
      exact zb_X12_nextPart_111 hK29 h
set_option maxRecDepth 100000 in
set_option maxHeartbeats 4000000 in
theorem zb_X12_nextPart_29  {K29 : Int32 → Bool → Bool → Bool → Int32 → uS → Option (uS × Bool)}  (hK29 : ∀ (x1 : Int32) (b2 : Bool) (b3 : Bool) (b4 : Bool) (x5 : Int32)  (s : uS) (r : (uS × Bool)), K29 x1 b2 b3 b4 x5 s = some r → agf [(1079, 21), (1079, 24), (1079, 25)] [1093] [] [] s r.1) {x1 : Int32} {b2 : Bool} {b3 : Bool} {b4 : Bool} {x5 : Int32} {s : uS} {r : (uS × Bool)}  (h : fb_X12_nextPart_29  K29 x1 b2 b3 b4 x5 s = some r) : agf [(1079, 21), (1079, 24), (1079, 25)] [1093] [] [] s r.1 := by
  unfold fb_X12_nextPart_29 at h
  by_cases c1 : (s.I 1079 27) ≤ x1
  · replace h := uu_pos c1 h
    exact zb_X12_nextPart_370  h
  · replace h := uu_neg c1 h
    obtain ⟨v2, e3, h⟩ := uu_ob h
    by_cases c4 : v2 = 44
    · replace h := uu_pos c4 h
      by_cases c5 : b2 = true
      · replace h := uu_pos c5 h
        exact zb_X12_nextPart_70 hK29 h
      · replace h := uu_neg c5 h
        by_cases c6 : b3 = true
        · replace h := uu_pos c6 h
          exact zb_X12_nextPart_70 hK29 h
        · replace h := uu_neg c6 h
          by_cases c7 : x5 = 0
          · replace h := uu_pos c7 h
            exact zb_X12_nextPart_70 hK29 h
          · replace h := uu_neg c7 h
            exact zb_X12_nextPart_70 hK29 h
    · replace h := uu_neg c4 h
      exact zb_X12_nextPart_70 hK29 h
set_option maxRecDepth 100000 in
set_option maxHeartbeats 4000000 in
theorem zn_X12_nextPart_29     : ∀ (n : Nat) (x1 : Int32) (b2 : Bool) (b3 : Bool) (b4 : Bool) (x5 : Int32)  (s : uS) (r : (uS × Bool)), fn_X12_nextPart_29   n x1 b2 b3 b4 x5 s = some r → agf [(1079, 21), (1079, 24), (1079, 25)] [1093] [] [] s r.1 := by
  intro n
  induction n with
  | zero => intro x1 b2 b3 b4 x5  s r h
            cases h
  | succ n ih => intro x1 b2 b3 b4 x5  s r h
                 exact zb_X12_nextPart_29  ih  h
set_option maxRecDepth 100000 in
set_option maxHeartbeats 4000000 in
theorem zc_X12_nextPart    {s : uS} {r : (uS × Bool)}  (h : fn_X12_nextPart   s = some r) : agf [(1079, 21), (1079, 24), (1079, 25)] [1093] [] [] s r.1 := by
  unfold fn_X12_nextPart at h
  by_cases c1 : (s.I 1079 25) = 0
  · replace h := uu_pos c1 h
    have hr := Option.some.inj h
    subst hr
    exact agf.rf
  · replace h := uu_neg c1 h
    refine (agf_wI (a := 1079) (f := 21) (v := 0) (Or.inl (by decide))).tr ?_
    exact zn_X12_nextPart_29  _ _ _ _ _ _ _ _ h
set_option maxRecDepth 100000 in
set_option maxHeartbeats 4000000 in
theorem zb_X12_skip_36  {K2 : Bool → uS → Option (uS × Bool)}  (hK2 : ∀ (b1 : Bool)  (s : uS) (r : (uS × Bool)), K2 b1 s = some r → agf [(1079, 30)] [] [] [] s r.1) {b1 : Bool} {s : uS} {r : (uS × Bool)}  (h : fb_X12_skip_36  K2 b1 s = some r) : agf [(1079, 30)] [] [] [] s r.1 := by
  unfold fb_X12_skip_36 at h
  refine (agf_wI (a := 1079) (f := 30) (v := (s.I 1079 30) + 1) (Or.inl (by decide))).tr ?_
  exact hK2 b1 _ _ h
set_option maxRecDepth 100000 in
set_option maxHeartbeats 4000000 in
theorem zb_X12_skip_55  {K2 : Bool → uS → Option (uS × Bool)} {K55 : Bool → uS → Option (uS × Bool)}  (hK2 : ∀ (b1 : Bool)  (s : uS) (r : (uS × Bool)), K2 b1 s = some r → agf [(1079, 30)] [] [] [] s r.1) (hK55 : ∀ (b1 : Bool)  (s : uS) (r : (uS × Bool)), K55 b1 s = some r → agf [(1079, 30)] [] [] [] s r.1) {b1 : Bool} {s : uS} {r : (uS × Bool)}  (h : fb_X12_skip_55  K2 K55 b1 s = some r) : agf [(1079, 30)] [] [] [] s r.1 := by
  unfold fb_X12_skip_55 at h
  obtain ⟨v1, e2, h⟩ := uu_ob h
  by_cases c3 : v1 < 0
  · replace h := uu_pos c3 h
    exact hK2 b1 _ _ h
  · replace h := uu_neg c3 h
    obtain ⟨v4, e5, h⟩ := uu_ob h
    by_cases c6 : v4 = 10
    · replace h := uu_pos c6 h
      exact hK2 b1 _ _ h
    · replace h := uu_neg c6 h
      refine (agf_wI (a := 1079) (f := 30) (v := (s.I 1079 30) + 1) (Or.inl (by decide))).tr ?_
      exact hK55 b1 _ _ h
set_option maxRecDepth 100000 in
set_option maxHeartbeats 4000000 in
theorem zn_X12_skip_55  {K2 : Bool → uS → Option (uS × Bool)}  (hK2 : ∀ (b1 : Bool)  (s : uS) (r : (uS × Bool)), K2 b1 s = some r → agf [(1079, 30)] [] [] [] s r.1) : ∀ (n : Nat) (b1 : Bool)  (s : uS) (r : (uS × Bool)), fn_X12_skip_55  K2 n b1 s = some r → agf [(1079, 30)] [] [] [] s r.1 := by
  intro n
  induction n with
  | zero => intro b1  s r h
            cases h
  | succ n ih => intro b1  s r h
                 exact zb_X12_skip_55  hK2 ih  h
set_option maxRecDepth 100000 in
set_option maxHeartbeats 4000000 in
theorem zb_X12_skip_150  {K2 : Bool → uS → Option (uS × Bool)}  (hK2 : ∀ (b1 : Bool)  (s : uS) (r : (uS × Bool)), K2 b1 s = some r → agf [(1079, 30)] [] [] [] s r.1) {b1 : Bool} {x3 : Int32} {s : uS} {r : (uS × Bool)}  (h : fb_X12_skip_150  K2 b1 x3 s = some r) : agf [(1079, 30)] [] [] [] s r.1 := by
  unfold fb_X12_skip_150 at h
  by_cases c1 : (x3 + 1) < (s.I 1079 29)
  · replace h := uu_pos c1 h
    refine (agf_wI (a := 1079) (f := 30) (v := x3 + 2) (Or.inl (by decide))).tr ?_
    exact hK2 b1 _ _ h
  · replace h := uu_neg c1 h
    have hr := Option.some.inj h
    subst hr
    exact agf.rf
set_option maxRecDepth 100000 in
set_option maxHeartbeats 4000000 in
theorem zb_X12_skip_109  {K2 : Bool → uS → Option (uS × Bool)} {K109 : Bool → Int32 → uS → Option (uS × Bool)}  (hK2 : ∀ (b1 : Bool)  (s : uS) (r : (uS × Bool)), K2 b1 s = some r → agf [(1079, 30)] [] [] [] s r.1) (hK109 : ∀ (b1 : Bool) (x3 : Int32)  (s : uS) (r : (uS × Bool)), K109 b1 x3 s = some r → agf [(1079, 30)] [] [] [] s r.1) {b1 : Bool} {x3 : Int32} {s : uS} {r : (uS × Bool)}  (h : fb_X12_skip_109  K2 K109 b1 x3 s = some r) : agf [(1079, 30)] [] [] [] s r.1 := by
  unfold fb_X12_skip_109 at h
  by_cases c1 : (s.I 1079 29) ≤ (x3 + 1)
  · replace h := uu_pos c1 h
    exact zb_X12_skip_150 hK2 h
  · replace h := uu_neg c1 h
    obtain ⟨v2, e3, h⟩ := uu_ob h
    by_cases c4 : v2 = 42
    · replace h := uu_pos c4 h
      obtain ⟨v5, e6, h⟩ := uu_ob h
      by_cases c7 : v5 = 47
      · replace h := uu_pos c7 h
        exact zb_X12_skip_150 hK2 h
      · replace h := uu_neg c7 h
        exact hK109 b1 (x3 + 1) _ _ h
    · replace h := uu_neg c4 h
      exact hK109 b1 (x3 + 1) _ _ h
set_option maxRecDepth 100000 in
set_option maxHeartbeats 4000000 in
theorem zn_X12_skip_109  {K2 : Bool → uS → Option (uS × Bool)}  (hK2 : ∀ (b1 : Bool)  (s : uS) (r : (uS × Bool)), K2 b1 s = some r → agf [(1079, 30)] [] [] [] s r.1) : ∀ (n : Nat) (b1 : Bool) (x3 : Int32)  (s : uS) (r : (uS × Bool)), fn_X12_skip_109  K2 n b1 x3 s = some r → agf [(1079, 30)] [] [] [] s r.1 := by
  intro n
  induction n with
  | zero => intro b1 x3  s r h
            cases h
  | succ n ih => intro b1 x3  s r h
                 exact zb_X12_skip_109  hK2 ih  h
set_option maxRecDepth 100000 in
set_option maxHeartbeats 4000000 in
theorem zb_X12_skip_2  {K2 : Bool → uS → Option (uS × Bool)}  (hK2 : ∀ (b1 : Bool)  (s : uS) (r : (uS × Bool)), K2 b1 s = some r → agf [(1079, 30)] [] [] [] s r.1) {b1 : Bool} {s : uS} {r : (uS × Bool)}  (h : fb_X12_skip_2  K2 b1 s = some r) : agf [(1079, 30)] [] [] [] s r.1 := by
  unfold fb_X12_skip_2 at h
  by_cases c1 : b1 = true
  · replace h := uu_pos c1 h
    obtain ⟨v2, e3, h⟩ := uu_ob h
    by_cases c4 : v2 = 9
    · replace h := uu_pos c4 h
      exact zb_X12_skip_36 hK2 h
    · replace h := uu_neg c4 h
      by_cases c5 : v2 = 10
      · replace h := uu_pos c5 h
        exact zb_X12_skip_36 hK2 h
      · replace h := uu_neg c5 h
        by_cases c6 : v2 = 13
        · replace h := uu_pos c6 h
          exact zb_X12_skip_36 hK2 h
        · replace h := uu_neg c6 h
          by_cases c7 : v2 = 32
          · replace h := uu_pos c7 h
            exact zb_X12_skip_36 hK2 h
          · replace h := uu_neg c7 h
            by_cases c8 : v2 = 35
            · replace h := uu_pos c8 h
              exact zn_X12_skip_55 hK2 _ _ _ _ h
            · replace h := uu_neg c8 h
              by_cases c9 : v2 = 47
              · replace h := uu_pos c9 h
                obtain ⟨v10, e11, h⟩ := uu_ob h
                by_cases c12 : v10 = 42
                · replace h := uu_pos c12 h
                  exact zn_X12_skip_109 hK2 _ _ _ _ _ h
                · replace h := uu_neg c12 h
                  exact hK2 false _ _ h
              · replace h := uu_neg c9 h
                exact hK2 false _ _ h
  · replace h := uu_neg c1 h
    have hr := Option.some.inj h
    subst hr
    exact agf.rf
set_option maxRecDepth 100000 in
set_option maxHeartbeats 4000000 in
theorem zn_X12_skip_2     : ∀ (n : Nat) (b1 : Bool)  (s : uS) (r : (uS × Bool)), fn_X12_skip_2   n b1 s = some r → agf [(1079, 30)] [] [] [] s r.1 := by
  intro n
  induction n with
  | zero => intro b1  s r h
            cases h
  | succ n ih => intro b1  s r h
                 exact zb_X12_skip_2  ih  h
set_option maxRecDepth 100000 in
set_option maxHeartbeats 4000000 in
theorem zc_X12_skip    {s : uS} {r : (uS × Bool)}  (h : fn_X12_skip   s = some r) : agf [(1079, 30)] [] [] [] s r.1 := by
  unfold fn_X12_skip at h
  exact zn_X12_skip_2  _ _ _ _ h
set_option maxRecDepth 100000 in
set_option maxHeartbeats 4000000 in
theorem zc_X12_into   {x1 : Int32} {x2 : Int32} {s : uS} {r : (uS × Bool)}  (h : fn_X12_into  x1 x2 s = some r) : agf [(1079, 37)] [1097] [] [] s r.1 := by
  unfold fn_X12_into at h
  by_cases c1 : ((s.I 1079 37) - (s.I 1079 38)) = x2
  · replace h := uu_pos c1 h
    have hr := Option.some.inj h
    subst hr
    exact agf.rf
  · replace h := uu_neg c1 h
    obtain ⟨s2, e3, h⟩ := uu_ob h
    refine (agf_iput e3 (Or.inl (by decide))).tr ?_
    refine (agf_wI (a := 1079) (f := 37) (v := (s2.I 1079 37) + 1) (Or.inl (by decide))).tr ?_
    have hr := Option.some.inj h
    subst hr
    exact agf.rf
set_option maxRecDepth 100000 in
set_option maxHeartbeats 4000000 in
theorem zb_X12_quoted_48  {K18 : uS → Option (uS × Int32)}  (hK18 : ∀   (s : uS) (r : (uS × Int32)), K18  s = some r → agf [(1079, 30), (1079, 37), (1079, 38), (1079, 39)] [1097] [] [] s r.1)  {s : uS} {r : (uS × Int32)}  (h : fb_X12_quoted_48  K18  s = some r) : agf [(1079, 30), (1079, 37), (1079, 38), (1079, 39)] [1097] [] [] s r.1 := by
  unfold fb_X12_quoted_48 at h
  obtain ⟨v1, e2, h⟩ := uu_ob h
  by_cases c3 : v1 < 0
  · replace h := uu_pos c3 h
    have hr := Option.some.inj h
    subst hr
    exact agf.rf
  · replace h := uu_neg c3 h
    obtain ⟨v4, e5, h⟩ := uu_ob h
    obtain ⟨r6, e7, h⟩ := uu_ob h
    refine ((zc_X12_into  e7).mo (by decide) (by decide) (by decide) (fun _ h => nomatch h)).tr ?_
    by_cases c8 : r6.2 = true
    · replace h := uu_pos c8 h
      refine (agf_wI (a := 1079) (f := 30) (v := (r6.1.I 1079 30) + 1) (Or.inl (by decide))).tr ?_
      exact hK18  _ _ h
    · replace h := uu_neg c8 h
      have hr := Option.some.inj h
      subst hr
      exact agf.rf
set_option maxRecDepth 100000 in
set_option maxHeartbeats 4000000 in
theorem zb_X12_quoted_18  {K18 : uS → Option (uS × Int32)}  (hK18 : ∀   (s : uS) (r : (uS × Int32)), K18  s = some r → agf [(1079, 30), (1079, 37), (1079, 38), (1079, 39)] [1097] [] [] s r.1)  {s : uS} {r : (uS × Int32)}  (h : fb_X12_quoted_18  K18  s = some r) : agf [(1079, 30), (1079, 37), (1079, 38), (1079, 39)] [1097] [] [] s r.1 := by
  unfold fb_X12_quoted_18 at h
  obtain ⟨v1, e2, h⟩ := uu_ob h
  by_cases c3 : v1 = 34
  · replace h := uu_pos c3 h
    refine (agf_wI (a := 1079) (f := 30) (v := (s.I 1079 30) + 1) (Or.inl (by decide))).tr ?_
    refine (agf_wI (a := 1079) (f := 39) (v := ((wI s 1079 30 ((s.I 1079 30) + 1)).I 1079 37) - ((wI s 1079 30 ((s.I 1079 30) + 1)).I 1079 38)) (Or.inl (by decide))).tr ?_
    have hr := Option.some.inj h
    subst hr
    exact agf.rf
  · replace h := uu_neg c3 h
    obtain ⟨v4, e5, h⟩ := uu_ob h
    by_cases c6 : v4 = 92
    · replace h := uu_pos c6 h
      refine (agf_wI (a := 1079) (f := 30) (v := (s.I 1079 30) + 1) (Or.inl (by decide))).tr ?_
      exact zb_X12_quoted_48 hK18 h
    · replace h := uu_neg c6 h
      exact zb_X12_quoted_48 hK18 h
set_option maxRecDepth 100000 in
set_option maxHeartbeats 4000000 in
theorem zn_X12_quoted_18     : ∀ (n : Nat)   (s : uS) (r : (uS × Int32)), fn_X12_quoted_18   n  s = some r → agf [(1079, 30), (1079, 37), (1079, 38), (1079, 39)] [1097] [] [] s r.1 := by
  intro n
  induction n with
  | zero => intro   s r h
            cases h
  | succ n ih => intro   s r h
                 exact zb_X12_quoted_18  ih  h
set_option maxRecDepth 100000 in
set_option maxHeartbeats 4000000 in
theorem zc_X12_quoted    {s : uS} {r : (uS × Int32)}  (h : fn_X12_quoted   s = some r) : agf [(1079, 30), (1079, 37), (1079, 38), (1079, 39)] [1097] [] [] s r.1 := by
  unfold fn_X12_quoted at h
  refine (agf_wI (a := 1079) (f := 30) (v := (s.I 1079 30) + 1) (Or.inl (by decide))).tr ?_
  refine (agf_wI (a := 1079) (f := 38) (v := (wI s 1079 30 ((s.I 1079 30) + 1)).I 1079 37) (Or.inl (by decide))).tr ?_
  exact zn_X12_quoted_18  _ _ _ h
set_option maxRecDepth 100000 in
set_option maxHeartbeats 4000000 in
theorem zb_X12_digits_41  {K2 : Int64 → uS → Option (uS × Int32)}  (hK2 : ∀ (l1 : Int64)  (s : uS) (r : (uS × Int32)), K2 l1 s = some r → agf [(1079, 30), (1079, 35)] [] [] [] s r.1) {ls0 : Int64} {s : uS} {r : (uS × Int32)}  (h : fb_X12_digits_41  K2 ls0 s = some r) : agf [(1079, 30), (1079, 35)] [] [] [] s r.1 := by
  unfold fb_X12_digits_41 at h
  refine (agf_wI (a := 1079) (f := 30) (v := (s.I 1079 30) + 1) (Or.inl (by decide))).tr ?_
  exact hK2 ls0 _ _ h
set_option maxRecDepth 100000 in
set_option maxHeartbeats 4000000 in
theorem zb_X12_digits_133     {l1 : Int64} {s : uS} {r : (uS × Int32)}  (h : fb_X12_digits_133   l1 s = some r) : agf [(1079, 30), (1079, 35)] [] [] [] s r.1 := by
  unfold fb_X12_digits_133 at h
  obtain ⟨v1, e2, h⟩ := uu_ob h
  obtain ⟨v3, e4, h⟩ := uu_ob h
  by_cases c5 : v3 = true
  · replace h := uu_pos c5 h
    have hr := Option.some.inj h
    subst hr
    exact agf.rf
  · replace h := uu_neg c5 h
    by_cases c6 : (lg_cmp l1 2147483647) ≤ 0
    · replace h := uu_pos c6 h
      refine (agf_wI (a := 1079) (f := 35) (v := l1.toInt32) (Or.inl (by decide))).tr ?_
      have hr := Option.some.inj h
      subst hr
      exact agf.rf
    · replace h := uu_neg c6 h
      have hr := Option.some.inj h
      subst hr
      exact agf.rf
set_option maxRecDepth 100000 in
set_option maxHeartbeats 4000000 in
theorem zb_X12_digits_107     {x3 : Int32} {ls0 : Int64} {s : uS} {r : (uS × Int32)}  (h : fb_X12_digits_107   x3 ls0 s = some r) : agf [(1079, 30), (1079, 35)] [] [] [] s r.1 := by
  unfold fb_X12_digits_107 at h
  by_cases c1 : x3 = 107
  · replace h := uu_pos c1 h
    exact zb_X12_digits_133  h
  · replace h := uu_neg c1 h
    by_cases c2 : x3 = 109
    · replace h := uu_pos c2 h
      exact zb_X12_digits_133  h
    · replace h := uu_neg c2 h
      exact zb_X12_digits_133  h
set_option maxRecDepth 100000 in
set_option maxHeartbeats 4000000 in
theorem zb_X12_digits_82     {l1 : Int64} {x3 : Int32} {s : uS} {r : (uS × Int32)}  (h : fb_X12_digits_82   l1 x3 s = some r) : agf [(1079, 30), (1079, 35)] [] [] [] s r.1 := by
  unfold fb_X12_digits_82 at h
  refine (agf_wI (a := 1079) (f := 30) (v := (s.I 1079 30) + 1) (Or.inl (by decide))).tr ?_
  by_cases c1 : 0 ≤ (lg_cmp l1 4294967296)
  · replace h := uu_pos c1 h
    exact zb_X12_digits_107  h
  · replace h := uu_neg c1 h
    exact zb_X12_digits_107  h
set_option maxRecDepth 100000 in
set_option maxHeartbeats 4000000 in
theorem zb_X12_digits_2  {K2 : Int64 → uS → Option (uS × Int32)}  (hK2 : ∀ (l1 : Int64)  (s : uS) (r : (uS × Int32)), K2 l1 s = some r → agf [(1079, 30), (1079, 35)] [] [] [] s r.1) {l1 : Int64} {s : uS} {r : (uS × Int32)}  (h : fb_X12_digits_2  K2 l1 s = some r) : agf [(1079, 30), (1079, 35)] [] [] [] s r.1 := by
  unfold fb_X12_digits_2 at h
  obtain ⟨v1, e2, h⟩ := uu_ob h
  obtain ⟨v3, e4, h⟩ := uu_ob h
  by_cases c5 : v3 = true
  · replace h := uu_pos c5 h
    by_cases c6 : 0 ≤ (lg_cmp l1 10000000000)
    · replace h := uu_pos c6 h
      exact zb_X12_digits_41 hK2 h
    · replace h := uu_neg c6 h
      obtain ⟨v7, e8, h⟩ := uu_ob h
      exact zb_X12_digits_41 hK2 h
  · replace h := uu_neg c5 h
    obtain ⟨v9, e10, h⟩ := uu_ob h
    obtain ⟨v11, e12, h⟩ := uu_ob h
    by_cases c13 : v11 = 107
    · replace h := uu_pos c13 h
      exact zb_X12_digits_82  h
    · replace h := uu_neg c13 h
      by_cases c14 : v11 = 109
      · replace h := uu_pos c14 h
        exact zb_X12_digits_82  h
      · replace h := uu_neg c14 h
        by_cases c15 : v11 = 103
        · replace h := uu_pos c15 h
          exact zb_X12_digits_82  h
        · replace h := uu_neg c15 h
          exact zb_X12_digits_133  h
set_option maxRecDepth 100000 in
set_option maxHeartbeats 4000000 in
theorem zn_X12_digits_2     : ∀ (n : Nat) (l1 : Int64)  (s : uS) (r : (uS × Int32)), fn_X12_digits_2   n l1 s = some r → agf [(1079, 30), (1079, 35)] [] [] [] s r.1 := by
  intro n
  induction n with
  | zero => intro l1  s r h
            cases h
  | succ n ih => intro l1  s r h
                 exact zb_X12_digits_2  ih  h
set_option maxRecDepth 100000 in
set_option maxHeartbeats 4000000 in
theorem zc_X12_digits    {s : uS} {r : (uS × Int32)}  (h : fn_X12_digits   s = some r) : agf [(1079, 30), (1079, 35)] [] [] [] s r.1 := by
  unfold fn_X12_digits at h
  exact zn_X12_digits_2  _ _ _ _ h
set_option maxRecDepth 100000 in
set_option maxHeartbeats 4000000 in
theorem zb_X12_wordOf_8  {K8 : uS → Option uS}  (hK8 : ∀   (s : uS) (r : uS), K8  s = some r → agf [(1079, 30), (1079, 33), (1079, 34)] [] [] [] s r)  {s : uS} {r : uS}  (h : fb_X12_wordOf_8  K8  s = some r) : agf [(1079, 30), (1079, 33), (1079, 34)] [] [] [] s r := by
  unfold fb_X12_wordOf_8 at h
  obtain ⟨v1, e2, h⟩ := uu_ob h
  obtain ⟨v3, e4, h⟩ := uu_ob h
  by_cases c5 : v3 = true
  · replace h := uu_pos c5 h
    refine (agf_wI (a := 1079) (f := 30) (v := (s.I 1079 30) + 1) (Or.inl (by decide))).tr ?_
    exact hK8  _ _ h
  · replace h := uu_neg c5 h
    refine (agf_wI (a := 1079) (f := 34) (v := (s.I 1079 30) - (s.I 1079 33)) (Or.inl (by decide))).tr ?_
    have hr := Option.some.inj h
    subst hr
    exact agf.rf
set_option maxRecDepth 100000 in
set_option maxHeartbeats 4000000 in
theorem zn_X12_wordOf_8     : ∀ (n : Nat)   (s : uS) (r : uS), fn_X12_wordOf_8   n  s = some r → agf [(1079, 30), (1079, 33), (1079, 34)] [] [] [] s r := by
  intro n
  induction n with
  | zero => intro   s r h
            cases h
  | succ n ih => intro   s r h
                 exact zb_X12_wordOf_8  ih  h
set_option maxRecDepth 100000 in
set_option maxHeartbeats 4000000 in
theorem zc_X12_wordOf    {s : uS} {r : uS}  (h : fn_X12_wordOf   s = some r) : agf [(1079, 30), (1079, 33), (1079, 34)] [] [] [] s r := by
  unfold fn_X12_wordOf at h
  refine (agf_wI (a := 1079) (f := 33) (v := s.I 1079 30) (Or.inl (by decide))).tr ?_
  exact zn_X12_wordOf_8  _ _ _ h
set_option maxRecDepth 100000 in
set_option maxHeartbeats 4000000 in
theorem zb_X12_lines_30  {K10 : uS → Option (uS × Int32)}  (hK10 : ∀   (s : uS) (r : (uS × Int32)), K10  s = some r → agf [(1079, 30), (1079, 37), (1079, 38), (1079, 39)] [1097] [] [] s r.1)  {s : uS} {r : (uS × Int32)}  (h : fb_X12_lines_30  K10  s = some r) : agf [(1079, 30), (1079, 37), (1079, 38), (1079, 39)] [1097] [] [] s r.1 := by
  unfold fb_X12_lines_30 at h
  refine (agf_wI (a := 1079) (f := 30) (v := (s.I 1079 30) + 1) (Or.inl (by decide))).tr ?_
  exact hK10  _ _ h
set_option maxRecDepth 100000 in
set_option maxHeartbeats 4000000 in
theorem zb_X12_lines_200  {K81 : uS → Option (uS × Int32)} {K200 : Int32 → Int32 → uS → Option (uS × Int32)}  (hK81 : ∀   (s : uS) (r : (uS × Int32)), K81  s = some r → agf [(1079, 30), (1079, 37), (1079, 38), (1079, 39)] [1097] [] [] s r.1) (hK200 : ∀ (x1 : Int32) (x2 : Int32)  (s : uS) (r : (uS × Int32)), K200 x1 x2 s = some r → agf [(1079, 30), (1079, 37), (1079, 38), (1079, 39)] [1097] [] [] s r.1) {x1 : Int32} {x2 : Int32} {s : uS} {r : (uS × Int32)}  (h : fb_X12_lines_200  K81 K200 x1 x2 s = some r) : agf [(1079, 30), (1079, 37), (1079, 38), (1079, 39)] [1097] [] [] s r.1 := by
  unfold fb_X12_lines_200 at h
  by_cases c1 : x1 ≤ x2
  · replace h := uu_pos c1 h
    exact hK81  _ _ h
  · replace h := uu_neg c1 h
    obtain ⟨v2, e3, h⟩ := uu_ob h
    obtain ⟨r4, e5, h⟩ := uu_ob h
    refine ((zc_X12_into  e5).mo (by decide) (by decide) (by decide) (fun _ h => nomatch h)).tr ?_
    by_cases c6 : r4.2 = true
    · replace h := uu_pos c6 h
      refine (agf_wI (a := 1079) (f := 30) (v := (r4.1.I 1079 30) + 1) (Or.inl (by decide))).tr ?_
      exact hK200 x1 (x2 + 1) _ _ h
    · replace h := uu_neg c6 h
      have hr := Option.some.inj h
      subst hr
      exact agf.rf
set_option maxRecDepth 100000 in
set_option maxHeartbeats 4000000 in
theorem zn_X12_lines_200  {K81 : uS → Option (uS × Int32)}  (hK81 : ∀   (s : uS) (r : (uS × Int32)), K81  s = some r → agf [(1079, 30), (1079, 37), (1079, 38), (1079, 39)] [1097] [] [] s r.1) : ∀ (n : Nat) (x1 : Int32) (x2 : Int32)  (s : uS) (r : (uS × Int32)), fn_X12_lines_200  K81 n x1 x2 s = some r → agf [(1079, 30), (1079, 37), (1079, 38), (1079, 39)] [1097] [] [] s r.1 := by
  intro n
  induction n with
  | zero => intro x1 x2  s r h
            cases h
  | succ n ih => intro x1 x2  s r h
                 exact zb_X12_lines_200  hK81 ih  h
set_option maxRecDepth 100000 in
set_option maxHeartbeats 4000000 in
theorem zb_X12_lines_183  {K81 : uS → Option (uS × Int32)}  (hK81 : ∀   (s : uS) (r : (uS × Int32)), K81  s = some r → agf [(1079, 30), (1079, 37), (1079, 38), (1079, 39)] [1097] [] [] s r.1)  {s : uS} {r : (uS × Int32)}  (h : fb_X12_lines_183  K81  s = some r) : agf [(1079, 30), (1079, 37), (1079, 38), (1079, 39)] [1097] [] [] s r.1 := by
  unfold fb_X12_lines_183 at h
  obtain ⟨v1, e2, h⟩ := uu_ob h
  by_cases c3 : v1 = 0
  · replace h := uu_pos c3 h
    have hr := Option.some.inj h
    subst hr
    exact agf.rf
  · replace h := uu_neg c3 h
    exact zn_X12_lines_200 hK81 _ _ _ _ _ h
set_option maxRecDepth 100000 in
set_option maxHeartbeats 4000000 in
theorem zb_X12_lines_134  {K81 : uS → Option (uS × Int32)} {K134 : uS → Option (uS × Int32)}  (hK81 : ∀   (s : uS) (r : (uS × Int32)), K81  s = some r → agf [(1079, 30), (1079, 37), (1079, 38), (1079, 39)] [1097] [] [] s r.1) (hK134 : ∀   (s : uS) (r : (uS × Int32)), K134  s = some r → agf [(1079, 30), (1079, 37), (1079, 38), (1079, 39)] [1097] [] [] s r.1)  {s : uS} {r : (uS × Int32)}  (h : fb_X12_lines_134  K81 K134  s = some r) : agf [(1079, 30), (1079, 37), (1079, 38), (1079, 39)] [1097] [] [] s r.1 := by
  unfold fb_X12_lines_134 at h
  obtain ⟨v1, e2, h⟩ := uu_ob h
  by_cases c3 : v1 < 0
  · replace h := uu_pos c3 h
    exact zb_X12_lines_183 hK81 h
  · replace h := uu_neg c3 h
    obtain ⟨v4, e5, h⟩ := uu_ob h
    by_cases c6 : v4 = 0
    · replace h := uu_pos c6 h
      obtain ⟨v7, e8, h⟩ := uu_ob h
      obtain ⟨r9, e10, h⟩ := uu_ob h
      refine ((zc_X12_into  e10).mo (by decide) (by decide) (by decide) (fun _ h => nomatch h)).tr ?_
      by_cases c11 : r9.2 = true
      · replace h := uu_pos c11 h
        refine (agf_wI (a := 1079) (f := 30) (v := (r9.1.I 1079 30) + 1) (Or.inl (by decide))).tr ?_
        exact hK134  _ _ h
      · replace h := uu_neg c11 h
        have hr := Option.some.inj h
        subst hr
        exact agf.rf
    · replace h := uu_neg c6 h
      exact zb_X12_lines_183 hK81 h
set_option maxRecDepth 100000 in
set_option maxHeartbeats 4000000 in
theorem zn_X12_lines_134  {K81 : uS → Option (uS × Int32)}  (hK81 : ∀   (s : uS) (r : (uS × Int32)), K81  s = some r → agf [(1079, 30), (1079, 37), (1079, 38), (1079, 39)] [1097] [] [] s r.1) : ∀ (n : Nat)   (s : uS) (r : (uS × Int32)), fn_X12_lines_134  K81 n  s = some r → agf [(1079, 30), (1079, 37), (1079, 38), (1079, 39)] [1097] [] [] s r.1 := by
  intro n
  induction n with
  | zero => intro   s r h
            cases h
  | succ n ih => intro   s r h
                 exact zb_X12_lines_134  hK81 ih  h
set_option maxRecDepth 100000 in
set_option maxHeartbeats 4000000 in
theorem zb_X12_lines_104  {K81 : uS → Option (uS × Int32)}  (hK81 : ∀   (s : uS) (r : (uS × Int32)), K81  s = some r → agf [(1079, 30), (1079, 37), (1079, 38), (1079, 39)] [1097] [] [] s r.1)  {s : uS} {r : (uS × Int32)}  (h : fb_X12_lines_104  K81  s = some r) : agf [(1079, 30), (1079, 37), (1079, 38), (1079, 39)] [1097] [] [] s r.1 := by
  unfold fb_X12_lines_104 at h
  obtain ⟨v1, e2, h⟩ := uu_ob h
  by_cases c3 : v1 = 46
  · replace h := uu_pos c3 h
    obtain ⟨v4, e5, h⟩ := uu_ob h
    by_cases c6 : v4 = 46
    · replace h := uu_pos c6 h
      refine (agf_wI (a := 1079) (f := 30) (v := (s.I 1079 30) + 1) (Or.inl (by decide))).tr ?_
      exact zn_X12_lines_134 hK81 _ _ _ h
    · replace h := uu_neg c6 h
      exact zn_X12_lines_134 hK81 _ _ _ h
  · replace h := uu_neg c3 h
    exact zn_X12_lines_134 hK81 _ _ _ h
set_option maxRecDepth 100000 in
set_option maxHeartbeats 4000000 in
theorem zb_X12_lines_81  {K81 : uS → Option (uS × Int32)}  (hK81 : ∀   (s : uS) (r : (uS × Int32)), K81  s = some r → agf [(1079, 30), (1079, 37), (1079, 38), (1079, 39)] [1097] [] [] s r.1)  {s : uS} {r : (uS × Int32)}  (h : fb_X12_lines_81  K81  s = some r) : agf [(1079, 30), (1079, 37), (1079, 38), (1079, 39)] [1097] [] [] s r.1 := by
  unfold fb_X12_lines_81 at h
  obtain ⟨v1, e2, h⟩ := uu_ob h
  by_cases c3 : v1 = 46
  · replace h := uu_pos c3 h
    obtain ⟨v4, e5, h⟩ := uu_ob h
    by_cases c6 : 0 < v4
    · replace h := uu_pos c6 h
      obtain ⟨v7, e8, h⟩ := uu_ob h
      refine (agf_wI (a := 1079) (f := 30) (v := ((s.I 1079 30) + 1) + v7) (Or.inl (by decide))).tr ?_
      refine (agf_wI (a := 1079) (f := 39) (v := ((wI s 1079 30 (((s.I 1079 30) + 1) + v7)).I 1079 37) - ((wI s 1079 30 (((s.I 1079 30) + 1) + v7)).I 1079 38)) (Or.inl (by decide))).tr ?_
      have hr := Option.some.inj h
      subst hr
      exact agf.rf
    · replace h := uu_neg c6 h
      exact zb_X12_lines_104 hK81 h
  · replace h := uu_neg c3 h
    exact zb_X12_lines_104 hK81 h
set_option maxRecDepth 100000 in
set_option maxHeartbeats 4000000 in
theorem zn_X12_lines_81     : ∀ (n : Nat)   (s : uS) (r : (uS × Int32)), fn_X12_lines_81   n  s = some r → agf [(1079, 30), (1079, 37), (1079, 38), (1079, 39)] [1097] [] [] s r.1 := by
  intro n
  induction n with
  | zero => intro   s r h
            cases h
  | succ n ih => intro   s r h
                 exact zb_X12_lines_81  ih  h
set_option maxRecDepth 100000 in
set_option maxHeartbeats 4000000 in
theorem zb_X12_lines_10  {K10 : uS → Option (uS × Int32)}  (hK10 : ∀   (s : uS) (r : (uS × Int32)), K10  s = some r → agf [(1079, 30), (1079, 37), (1079, 38), (1079, 39)] [1097] [] [] s r.1)  {s : uS} {r : (uS × Int32)}  (h : fb_X12_lines_10  K10  s = some r) : agf [(1079, 30), (1079, 37), (1079, 38), (1079, 39)] [1097] [] [] s r.1 := by
  unfold fb_X12_lines_10 at h
  obtain ⟨v1, e2, h⟩ := uu_ob h
  by_cases c3 : v1 = 32
  · replace h := uu_pos c3 h
    exact zb_X12_lines_30 hK10 h
  · replace h := uu_neg c3 h
    obtain ⟨v4, e5, h⟩ := uu_ob h
    by_cases c6 : v4 = 9
    · replace h := uu_pos c6 h
      exact zb_X12_lines_30 hK10 h
    · replace h := uu_neg c6 h
      obtain ⟨v7, e8, h⟩ := uu_ob h
      by_cases c9 : v7 = 0
      · replace h := uu_pos c9 h
        have hr := Option.some.inj h
        subst hr
        exact agf.rf
      · replace h := uu_neg c9 h
        obtain ⟨v10, e11, h⟩ := uu_ob h
        refine (agf_wI (a := 1079) (f := 30) (v := (s.I 1079 30) + v10) (Or.inl (by decide))).tr ?_
        refine (agf_wI (a := 1079) (f := 38) (v := (wI s 1079 30 ((s.I 1079 30) + v10)).I 1079 37) (Or.inl (by decide))).tr ?_
        exact zn_X12_lines_81  _ _ _ h
set_option maxRecDepth 100000 in
set_option maxHeartbeats 4000000 in
theorem zn_X12_lines_10     : ∀ (n : Nat)   (s : uS) (r : (uS × Int32)), fn_X12_lines_10   n  s = some r → agf [(1079, 30), (1079, 37), (1079, 38), (1079, 39)] [1097] [] [] s r.1 := by
  intro n
  induction n with
  | zero => intro   s r h
            cases h
  | succ n ih => intro   s r h
                 exact zb_X12_lines_10  ih  h
set_option maxRecDepth 100000 in
set_option maxHeartbeats 4000000 in
theorem zc_X12_lines    {s : uS} {r : (uS × Int32)}  (h : fn_X12_lines   s = some r) : agf [(1079, 30), (1079, 37), (1079, 38), (1079, 39)] [1097] [] [] s r.1 := by
  unfold fn_X12_lines at h
  refine (agf_wI (a := 1079) (f := 30) (v := (s.I 1079 30) + 1) (Or.inl (by decide))).tr ?_
  exact zn_X12_lines_10  _ _ _ h
set_option maxRecDepth 100000 in
set_option maxHeartbeats 4000000 in
theorem zc_X12_word    {s : uS} {r : (uS × Int32)}  (h : fn_X12_word   s = some r) : agf [(1079, 30), (1079, 33), (1079, 34), (1079, 37), (1079, 38), (1079, 39)] [1097] [] [] s r.1 := by
  unfold fn_X12_word at h
  obtain ⟨s1, e2, h⟩ := uu_ob h
  refine ((zc_X12_wordOf  e2).mo (by decide) (by decide) (by decide) (fun _ h => nomatch h)).tr ?_
  obtain ⟨v4, e5, h⟩ := uu_ob h
  by_cases c6 : v4 = true
  · replace h := uu_pos c6 h
    obtain ⟨v7, e8, h⟩ := uu_ob h
    by_cases c9 : v7 = 58
    · replace h := uu_pos c9 h
      obtain ⟨r10, e11, h⟩ := uu_ob h
      refine ((zc_X12_lines  e11).mo (by decide) (by decide) (by decide) (fun _ h => nomatch h)).tr ?_
      have hr := Option.some.inj h
      subst hr
      exact agf.rf
    · replace h := uu_neg c9 h
      have hr := Option.some.inj h
      subst hr
      exact agf.rf
  · replace h := uu_neg c6 h
    have hr := Option.some.inj h
    subst hr
    exact agf.rf
set_option maxRecDepth 100000 in
set_option maxHeartbeats 4000000 in
theorem zb_X12_token_25      {s : uS} {r : (uS × Int32)}  (h : fb_X12_token_25    s = some r) : agf [(1079, 30), (1079, 33), (1079, 34), (1079, 35), (1079, 37), (1079, 38), (1079, 39)] [1097] [] [] s r.1 := by
  unfold fb_X12_token_25 at h
  obtain ⟨r1, e2, h⟩ := uu_ob h
  refine ((zc_X12_word  e2).mo (by decide) (by decide) (by decide) (fun _ h => nomatch h)).tr ?_
  have hr := Option.some.inj h
  subst hr
  exact agf.rf
set_option maxRecDepth 100000 in
set_option maxHeartbeats 4000000 in
theorem zb_X12_token_59      {s : uS} {r : (uS × Int32)}  (h : fb_X12_token_59    s = some r) : agf [(1079, 30), (1079, 33), (1079, 34), (1079, 35), (1079, 37), (1079, 38), (1079, 39)] [1097] [] [] s r.1 := by
  unfold fb_X12_token_59 at h
  refine (agf_wI (a := 1079) (f := 30) (v := (s.I 1079 30) + 1) (Or.inl (by decide))).tr ?_
  obtain ⟨s1, e2, h⟩ := uu_ob h
  refine ((zc_X12_wordOf  e2).mo (by decide) (by decide) (by decide) (fun _ h => nomatch h)).tr ?_
  have hr := Option.some.inj h
  subst hr
  exact agf.rf
set_option maxRecDepth 100000 in
set_option maxHeartbeats 4000000 in
theorem zb_X12_token_151     {x1 : Int32} {bs0 : Bool} {s : uS} {r : (uS × Int32)}  (h : fb_X12_token_151   x1 bs0 s = some r) : agf [(1079, 30), (1079, 33), (1079, 34), (1079, 35), (1079, 37), (1079, 38), (1079, 39)] [1097] [] [] s r.1 := by
  unfold fb_X12_token_151 at h
  by_cases c1 : bs0 = true
  · replace h := uu_pos c1 h
    refine (agf_wI (a := 1079) (f := 30) (v := (s.I 1079 30) + 1) (Or.inl (by decide))).tr ?_
    have hr := Option.some.inj h
    subst hr
    exact agf.rf
  · replace h := uu_neg c1 h
    have hr := Option.some.inj h
    subst hr
    exact agf.rf
set_option maxRecDepth 100000 in
set_option maxHeartbeats 4000000 in
theorem zc_X12_token    {s : uS} {r : (uS × Int32)}  (h : fn_X12_token   s = some r) : agf [(1079, 30), (1079, 33), (1079, 34), (1079, 35), (1079, 37), (1079, 38), (1079, 39)] [1097] [] [] s r.1 := by
  unfold fn_X12_token at h
  obtain ⟨v1, e2, h⟩ := uu_ob h
  by_cases c3 : 0 ≤ v1
  · replace h := uu_pos c3 h
    obtain ⟨v4, e5, h⟩ := uu_ob h
    by_cases c6 : v4 = true
    · replace h := uu_pos c6 h
      exact zb_X12_token_25  h
    · replace h := uu_neg c6 h
      by_cases c7 : v1 = 95
      · replace h := uu_pos c7 h
        exact zb_X12_token_25  h
      · replace h := uu_neg c7 h
        by_cases c8 : v1 = 58
        · replace h := uu_pos c8 h
          obtain ⟨v9, e10, h⟩ := uu_ob h
          obtain ⟨v11, e12, h⟩ := uu_ob h
          by_cases c13 : v11 = true
          · replace h := uu_pos c13 h
            exact zb_X12_token_59  h
          · replace h := uu_neg c13 h
            obtain ⟨v14, e15, h⟩ := uu_ob h
            by_cases c16 : v14 = 95
            · replace h := uu_pos c16 h
              exact zb_X12_token_59  h
            · replace h := uu_neg c16 h
              have hr := Option.some.inj h
              subst hr
              exact agf.rf
        · replace h := uu_neg c8 h
          obtain ⟨v17, e18, h⟩ := uu_ob h
          by_cases c19 : v17 = true
          · replace h := uu_pos c19 h
            obtain ⟨r20, e21, h⟩ := uu_ob h
            refine ((zc_X12_digits  e21).mo (by decide) (by decide) (by decide) (fun _ h => nomatch h)).tr ?_
            have hr := Option.some.inj h
            subst hr
            exact agf.rf
          · replace h := uu_neg c19 h
            by_cases c22 : v1 = 34
            · replace h := uu_pos c22 h
              obtain ⟨r23, e24, h⟩ := uu_ob h
              refine ((zc_X12_quoted  e24).mo (by decide) (by decide) (by decide) (fun _ h => nomatch h)).tr ?_
              have hr := Option.some.inj h
              subst hr
              exact agf.rf
            · replace h := uu_neg c22 h
              by_cases c25 : v1 = 59
              · replace h := uu_pos c25 h
                exact zb_X12_token_151  h
              · replace h := uu_neg c25 h
                by_cases c26 : v1 = 44
                · replace h := uu_pos c26 h
                  exact zb_X12_token_151  h
                · replace h := uu_neg c26 h
                  by_cases c27 : v1 = 40
                  · replace h := uu_pos c27 h
                    exact zb_X12_token_151  h
                  · replace h := uu_neg c27 h
                    by_cases c28 : v1 = 41
                    · replace h := uu_pos c28 h
                      exact zb_X12_token_151  h
                    · replace h := uu_neg c28 h
                      by_cases c29 : v1 = 91
                      · replace h := uu_pos c29 h
                        exact zb_X12_token_151  h
                      · replace h := uu_neg c29 h
                        by_cases c30 : v1 = 93
                        · replace h := uu_pos c30 h
                          exact zb_X12_token_151  h
                        · replace h := uu_neg c30 h
                          by_cases c31 : v1 = 123
                          · replace h := uu_pos c31 h
                            exact zb_X12_token_151  h
                          · replace h := uu_neg c31 h
                            by_cases c32 : v1 = 125
                            · replace h := uu_pos c32 h
                              exact zb_X12_token_151  h
                            · replace h := uu_neg c32 h
                              exact zb_X12_token_151  h
  · replace h := uu_neg c3 h
    have hr := Option.some.inj h
    subst hr
    exact agf.rf
set_option maxRecDepth 100000 in
set_option maxHeartbeats 4000000 in
theorem zb_X12_fail_12      {s : uS} {r : uS}  (h : fb_X12_fail_12    s = some r) : agf [(1079, 30), (1079, 31), (1079, 40)] [] [] [] s r := by
  unfold fb_X12_fail_12 at h
  refine (agf_wI (a := 1079) (f := 31) (v := 0) (Or.inl (by decide))).tr ?_
  refine (agf_wI (a := 1079) (f := 30) (v := (wI s 1079 31 0).I 1079 29) (Or.inl (by decide))).tr ?_
  have hr := Option.some.inj h
  subst hr
  exact agf.rf
set_option maxRecDepth 100000 in
set_option maxHeartbeats 4000000 in
theorem zc_X12_fail   {x1 : Int32} {s : uS} {r : uS}  (h : fn_X12_fail  x1 s = some r) : agf [(1079, 30), (1079, 31), (1079, 40)] [] [] [] s r := by
  unfold fn_X12_fail at h
  by_cases c1 : 0 ≤ (s.I 1079 40)
  · replace h := uu_pos c1 h
    exact zb_X12_fail_12  h
  · replace h := uu_neg c1 h
    refine (agf_wI (a := 1079) (f := 40) (v := x1) (Or.inl (by decide))).tr ?_
    exact zb_X12_fail_12  h
set_option maxRecDepth 100000 in
set_option maxHeartbeats 4000000 in
theorem zb_X12_next_34     {xs0 : Int32} {s : uS} {r : uS}  (h : fb_X12_next_34   xs0 s = some r) : agf [(1079, 30), (1079, 31), (1079, 32), (1079, 33), (1079, 34), (1079, 35), (1079, 37), (1079, 38), (1079, 39), (1079, 40)] [1097] [] [] s r := by
  unfold fb_X12_next_34 at h
  refine (agf_wI (a := 1079) (f := 31) (v := xs0) (Or.inl (by decide))).tr ?_
  by_cases c1 : ((wI s 1079 31 xs0).I 1079 31) = 5
  · replace h := uu_pos c1 h
    obtain ⟨s2, e3, h⟩ := uu_ob h
    refine ((zc_X12_fail  e3).mo (by decide) (by decide) (by decide) (fun _ h => nomatch h)).tr ?_
    have hr := Option.some.inj h
    subst hr
    exact agf.rf
  · replace h := uu_neg c1 h
    have hr := Option.some.inj h
    subst hr
    exact agf.rf
set_option maxRecDepth 100000 in
set_option maxHeartbeats 4000000 in
theorem zc_X12_next    {s : uS} {r : uS}  (h : fn_X12_next   s = some r) : agf [(1079, 30), (1079, 31), (1079, 32), (1079, 33), (1079, 34), (1079, 35), (1079, 37), (1079, 38), (1079, 39), (1079, 40)] [1097] [] [] s r := by
  unfold fn_X12_next at h
  by_cases c1 : (s.I 1079 40) < 0
  · replace h := uu_pos c1 h
    obtain ⟨r2, e3, h⟩ := uu_ob h
    refine ((zc_X12_skip  e3).mo (by decide) (by decide) (by decide) (fun _ h => nomatch h)).tr ?_
    refine (agf_wI (a := 1079) (f := 32) (v := r2.1.I 1079 30) (Or.inl (by decide))).tr ?_
    by_cases c4 : r2.2 = true
    · replace h := uu_pos c4 h
      obtain ⟨r5, e6, h⟩ := uu_ob h
      refine ((zc_X12_token  e6).mo (by decide) (by decide) (by decide) (fun _ h => nomatch h)).tr ?_
      exact zb_X12_next_34  h
    · replace h := uu_neg c4 h
      exact zb_X12_next_34  h
  · replace h := uu_neg c1 h
    have hr := Option.some.inj h
    subst hr
    exact agf.rf
set_option maxRecDepth 100000 in
set_option maxHeartbeats 4000000 in
theorem zc_X12_take   {x1 : Int32} {s : uS} {r : uS}  (h : fn_X12_take  x1 s = some r) : agf [(1079, 30), (1079, 31), (1079, 32), (1079, 33), (1079, 34), (1079, 35), (1079, 37), (1079, 38), (1079, 39), (1079, 40)] [1097] [] [] s r := by
  unfold fn_X12_take at h
  obtain ⟨v1, e2, h⟩ := uu_ob h
  by_cases c3 : v1 = true
  · replace h := uu_pos c3 h
    obtain ⟨s4, e5, h⟩ := uu_ob h
    refine ((zc_X12_next  e5).mo (by decide) (by decide) (by decide) (fun _ h => nomatch h)).tr ?_
    have hr := Option.some.inj h
    subst hr
    exact agf.rf
  · replace h := uu_neg c3 h
    obtain ⟨s6, e7, h⟩ := uu_ob h
    refine ((zc_X12_fail  e7).mo (by decide) (by decide) (by decide) (fun _ h => nomatch h)).tr ?_
    have hr := Option.some.inj h
    subst hr
    exact agf.rf
set_option maxRecDepth 100000 in
set_option maxHeartbeats 4000000 in
theorem zb_X12_node_20     {x1 : Int32} {xs0 : Int32} {s : uS} {r : (uS × Int32)}  (h : fb_X12_node_20   x1 xs0 s = some r) : agf [(1079, 41)] [1098, 1099, 1100, 1101, 1103, 1105, 1106, 1108, 1109, 1110, 1111, 1112, 1113, 1114, 1115] [] [] s r.1 := by
  unfold fb_X12_node_20 at h
  refine (agf_wI (a := 1079) (f := 41) (v := xs0 + 1) (Or.inl (by decide))).tr ?_
  obtain ⟨s1, e2, h⟩ := uu_ob h
  refine (agf_iput e2 (Or.inl (by decide))).tr ?_
  obtain ⟨s3, e4, h⟩ := uu_ob h
  refine (agf_iput e4 (Or.inl (by decide))).tr ?_
  obtain ⟨s5, e6, h⟩ := uu_ob h
  refine (agf_iput e6 (Or.inl (by decide))).tr ?_
  obtain ⟨s7, e8, h⟩ := uu_ob h
  refine (agf_iput e8 (Or.inl (by decide))).tr ?_
  obtain ⟨s9, e10, h⟩ := uu_ob h
  refine (agf_iput e10 (Or.inl (by decide))).tr ?_
  obtain ⟨s11, e12, h⟩ := uu_ob h
  refine (agf_iput e12 (Or.inl (by decide))).tr ?_
  obtain ⟨s13, e14, h⟩ := uu_ob h
  refine (agf_iput e14 (Or.inl (by decide))).tr ?_
  obtain ⟨s15, e16, h⟩ := uu_ob h
  refine (agf_iput e16 (Or.inl (by decide))).tr ?_
  obtain ⟨s17, e18, h⟩ := uu_ob h
  refine (agf_iput e18 (Or.inl (by decide))).tr ?_
  obtain ⟨s19, e20, h⟩ := uu_ob h
  refine (agf_iput e20 (Or.inl (by decide))).tr ?_
  obtain ⟨s21, e22, h⟩ := uu_ob h
  refine (agf_iput e22 (Or.inl (by decide))).tr ?_
  obtain ⟨s23, e24, h⟩ := uu_ob h
  refine (agf_iput e24 (Or.inl (by decide))).tr ?_
  obtain ⟨s25, e26, h⟩ := uu_ob h
  refine (agf_iput e26 (Or.inl (by decide))).tr ?_
  obtain ⟨s27, e28, h⟩ := uu_ob h
  refine (agf_iput e28 (Or.inl (by decide))).tr ?_
  obtain ⟨s29, e30, h⟩ := uu_ob h
  refine (agf_iput e30 (Or.inl (by decide))).tr ?_
  have hr := Option.some.inj h
  subst hr
  exact agf.rf
set_option maxRecDepth 100000 in
set_option maxHeartbeats 4000000 in
theorem zc_X12_node   {x1 : Int32} {s : uS} {r : (uS × Int32)}  (h : fn_X12_node  x1 s = some r) : agf [(1079, 41)] [1098, 1099, 1100, 1101, 1103, 1105, 1106, 1108, 1109, 1110, 1111, 1112, 1113, 1114, 1115] [] [] s r.1 := by
  unfold fn_X12_node at h
  by_cases c1 : (519 : Int32) ≤ (s.I 1079 41)
  · replace h := uu_pos c1 h
    exact zb_X12_node_20  h
  · replace h := uu_neg c1 h
    exact zb_X12_node_20  h
set_option maxRecDepth 100000 in
set_option maxHeartbeats 4000000 in
theorem zb_X12_counting_17     {x1 : Int32} {s : uS} {r : (uS × Int32)}  (h : fb_X12_counting_17   x1 s = some r) : agf [(1079, 30), (1079, 31), (1079, 40), (1079, 41), (1079, 42)] [1098, 1099, 1100, 1101, 1103, 1105, 1106, 1108, 1109, 1110, 1111, 1112, 1113, 1114, 1115] [] [] s r.1 := by
  unfold fb_X12_counting_17 at h
  refine (agf_wI (a := 1079) (f := 42) (v := (s.I 1079 42) + 1) (Or.inl (by decide))).tr ?_
  obtain ⟨r1, e2, h⟩ := uu_ob h
  refine ((zc_X12_node  e2).mo (by decide) (by decide) (by decide) (fun _ h => nomatch h)).tr ?_
  have hr := Option.some.inj h
  subst hr
  exact agf.rf
set_option maxRecDepth 100000 in
set_option maxHeartbeats 4000000 in
theorem zc_X12_counting   {x1 : Int32} {s : uS} {r : (uS × Int32)}  (h : fn_X12_counting  x1 s = some r) : agf [(1079, 30), (1079, 31), (1079, 40), (1079, 41), (1079, 42)] [1098, 1099, 1100, 1101, 1103, 1105, 1106, 1108, 1109, 1110, 1111, 1112, 1113, 1114, 1115] [] [] s r.1 := by
  unfold fn_X12_counting at h
  by_cases c1 : (s.I 1079 42) = 100
  · replace h := uu_pos c1 h
    obtain ⟨s2, e3, h⟩ := uu_ob h
    refine ((zc_X12_fail  e3).mo (by decide) (by decide) (by decide) (fun _ h => nomatch h)).tr ?_
    exact zb_X12_counting_17  h
  · replace h := uu_neg c1 h
    exact zb_X12_counting_17  h
set_option maxRecDepth 100000 in
set_option maxHeartbeats 4000000 in
theorem zc_X12_put   {x1 : Int32} {x2 : Int32} {s : uS} {r : uS}  (h : fn_X12_put  x1 x2 s = some r) : agf [] [1099, 1100, 1101] [] [] s r := by
  unfold fn_X12_put at h
  obtain ⟨v1, e2, h⟩ := uu_ob h
  by_cases c3 : v1 = (-1)
  · replace h := uu_pos c3 h
    obtain ⟨s4, e5, h⟩ := uu_ob h
    refine (agf_iput e5 (Or.inl (by decide))).tr ?_
    obtain ⟨s6, e7, h⟩ := uu_ob h
    refine (agf_iput e7 (Or.inl (by decide))).tr ?_
    have hr := Option.some.inj h
    subst hr
    exact agf.rf
  · replace h := uu_neg c3 h
    obtain ⟨v8, e9, h⟩ := uu_ob h
    obtain ⟨s10, e11, h⟩ := uu_ob h
    refine (agf_iput e11 (Or.inl (by decide))).tr ?_
    obtain ⟨s12, e13, h⟩ := uu_ob h
    refine (agf_iput e13 (Or.inl (by decide))).tr ?_
    have hr := Option.some.inj h
    subst hr
    exact agf.rf
set_option maxRecDepth 100000 in
set_option maxHeartbeats 4000000 in
theorem zc_X12_needs   {x1 : Int32} {s : uS} {r : uS}  (h : fn_X12_needs  x1 s = some r) : agf [(1079, 30), (1079, 31), (1079, 40)] [] [] [] s r := by
  unfold fn_X12_needs at h
  by_cases c1 : ((s.I 1079 64) &&& x1) = 0
  · replace h := uu_pos c1 h
    obtain ⟨s2, e3, h⟩ := uu_ob h
    refine ((zc_X12_fail  e3).mo (by decide) (by decide) (by decide) (fun _ h => nomatch h)).tr ?_
    have hr := Option.some.inj h
    subst hr
    exact agf.rf
  · replace h := uu_neg c1 h
    have hr := Option.some.inj h
    subst hr
    exact agf.rf
set_option maxRecDepth 100000 in
set_option maxHeartbeats 4000000 in
theorem zb_X12_string_36      {s : uS} {r : (uS × Int32)}  (h : fb_X12_string_36    s = some r) : agf [(1079, 30), (1079, 31), (1079, 40), (1079, 61)] [1116, 1117] [] [] s r.1 := by
  unfold fb_X12_string_36 at h
  obtain ⟨s1, e2, h⟩ := uu_ob h
  refine (agf_iput e2 (Or.inl (by decide))).tr ?_
  obtain ⟨s3, e4, h⟩ := uu_ob h
  refine (agf_iput e4 (Or.inl (by decide))).tr ?_
  refine (agf_wI (a := 1079) (f := 61) (v := (s3.I 1079 61) + 1) (Or.inl (by decide))).tr ?_
  have hr := Option.some.inj h
  subst hr
  exact agf.rf
set_option maxRecDepth 100000 in
set_option maxHeartbeats 4000000 in
theorem zc_X12_string    {s : uS} {r : (uS × Int32)}  (h : fn_X12_string   s = some r) : agf [(1079, 30), (1079, 31), (1079, 40), (1079, 61)] [1116, 1117] [] [] s r.1 := by
  unfold fn_X12_string at h
  obtain ⟨v1, e2, h⟩ := uu_ob h
  by_cases c3 : v1 = true
  · replace h := uu_pos c3 h
    by_cases c4 : (s.I 1079 61) = 300
    · replace h := uu_pos c4 h
      obtain ⟨s5, e6, h⟩ := uu_ob h
      refine ((zc_X12_fail  e6).mo (by decide) (by decide) (by decide) (fun _ h => nomatch h)).tr ?_
      exact zb_X12_string_36  h
    · replace h := uu_neg c4 h
      exact zb_X12_string_36  h
  · replace h := uu_neg c3 h
    obtain ⟨s7, e8, h⟩ := uu_ob h
    refine ((zc_X12_fail  e8).mo (by decide) (by decide) (by decide) (fun _ h => nomatch h)).tr ?_
    have hr := Option.some.inj h
    subst hr
    exact agf.rf
set_option maxRecDepth 100000 in
set_option maxHeartbeats 4000000 in
theorem zc_X12_taken    {s : uS} {r : (uS × Int32)}  (h : fn_X12_taken   s = some r) : agf [(1079, 30), (1079, 31), (1079, 32), (1079, 33), (1079, 34), (1079, 35), (1079, 37), (1079, 38), (1079, 39), (1079, 40), (1079, 61)] [1097, 1116, 1117] [] [] s r.1 := by
  unfold fn_X12_taken at h
  obtain ⟨r1, e2, h⟩ := uu_ob h
  refine ((zc_X12_string  e2).mo (by decide) (by decide) (by decide) (fun _ h => nomatch h)).tr ?_
  obtain ⟨s3, e4, h⟩ := uu_ob h
  refine ((zc_X12_next  e4).mo (by decide) (by decide) (by decide) (fun _ h => nomatch h)).tr ?_
  have hr := Option.some.inj h
  subst hr
  exact agf.rf
set_option maxRecDepth 100000 in
set_option maxHeartbeats 4000000 in
theorem zb_X12_list_84     {x1 : Int32} {s : uS} {r : (uS × Int32)}  (h : fb_X12_list_84   x1 s = some r) : agf [(1079, 30), (1079, 31), (1079, 32), (1079, 33), (1079, 34), (1079, 35), (1079, 37), (1079, 38), (1079, 39), (1079, 40), (1079, 61)] [1097, 1116, 1117] [] [] s r.1 := by
  unfold fb_X12_list_84 at h
  obtain ⟨s1, e2, h⟩ := uu_ob h
  refine ((zc_X12_take  e2).mo (by decide) (by decide) (by decide) (fun _ h => nomatch h)).tr ?_
  have hr := Option.some.inj h
  subst hr
  exact agf.rf
set_option maxRecDepth 100000 in
set_option maxHeartbeats 4000000 in
theorem zb_X12_list_57  {K24 : Int32 → Bool → uS → Option (uS × Int32)}  (hK24 : ∀ (x1 : Int32) (b2 : Bool)  (s : uS) (r : (uS × Int32)), K24 x1 b2 s = some r → agf [(1079, 30), (1079, 31), (1079, 32), (1079, 33), (1079, 34), (1079, 35), (1079, 37), (1079, 38), (1079, 39), (1079, 40), (1079, 61)] [1097, 1116, 1117] [] [] s r.1) {x1 : Int32} {s : uS} {r : (uS × Int32)}  (h : fb_X12_list_57  K24 x1 s = some r) : agf [(1079, 30), (1079, 31), (1079, 32), (1079, 33), (1079, 34), (1079, 35), (1079, 37), (1079, 38), (1079, 39), (1079, 40), (1079, 61)] [1097, 1116, 1117] [] [] s r.1 := by
  unfold fb_X12_list_57 at h
  obtain ⟨r1, e2, h⟩ := uu_ob h
  refine ((zc_X12_taken  e2).mo (by decide) (by decide) (by decide) (fun _ h => nomatch h)).tr ?_
  obtain ⟨v3, e4, h⟩ := uu_ob h
  by_cases c5 : v3 = true
  · replace h := uu_pos c5 h
    obtain ⟨s6, e7, h⟩ := uu_ob h
    refine ((zc_X12_next  e7).mo (by decide) (by decide) (by decide) (fun _ h => nomatch h)).tr ?_
    exact hK24 (x1 + 1) v3 _ _ h
  · replace h := uu_neg c5 h
    exact hK24 (x1 + 1) v3 _ _ h
set_option maxRecDepth 100000 in
set_option maxHeartbeats 4000000 in
theorem zb_X12_list_24  {K24 : Int32 → Bool → uS → Option (uS × Int32)}  (hK24 : ∀ (x1 : Int32) (b2 : Bool)  (s : uS) (r : (uS × Int32)), K24 x1 b2 s = some r → agf [(1079, 30), (1079, 31), (1079, 32), (1079, 33), (1079, 34), (1079, 35), (1079, 37), (1079, 38), (1079, 39), (1079, 40), (1079, 61)] [1097, 1116, 1117] [] [] s r.1) {x1 : Int32} {b2 : Bool} {s : uS} {r : (uS × Int32)}  (h : fb_X12_list_24  K24 x1 b2 s = some r) : agf [(1079, 30), (1079, 31), (1079, 32), (1079, 33), (1079, 34), (1079, 35), (1079, 37), (1079, 38), (1079, 39), (1079, 40), (1079, 61)] [1097, 1116, 1117] [] [] s r.1 := by
  unfold fb_X12_list_24 at h
  by_cases c1 : b2 = true
  · replace h := uu_pos c1 h
    by_cases c2 : 0 ≤ (s.I 1079 40)
    · replace h := uu_pos c2 h
      exact zb_X12_list_84  h
    · replace h := uu_neg c2 h
      obtain ⟨v3, e4, h⟩ := uu_ob h
      by_cases c5 : v3 = true
      · replace h := uu_pos c5 h
        by_cases c6 : x1 = 10
        · replace h := uu_pos c6 h
          obtain ⟨s7, e8, h⟩ := uu_ob h
          refine ((zc_X12_fail  e8).mo (by decide) (by decide) (by decide) (fun _ h => nomatch h)).tr ?_
          exact zb_X12_list_57 hK24 h
        · replace h := uu_neg c6 h
          exact zb_X12_list_57 hK24 h
      · replace h := uu_neg c5 h
        exact zb_X12_list_57 hK24 h
  · replace h := uu_neg c1 h
    exact zb_X12_list_84  h
set_option maxRecDepth 100000 in
set_option maxHeartbeats 4000000 in
theorem zn_X12_list_24     : ∀ (n : Nat) (x1 : Int32) (b2 : Bool)  (s : uS) (r : (uS × Int32)), fn_X12_list_24   n x1 b2 s = some r → agf [(1079, 30), (1079, 31), (1079, 32), (1079, 33), (1079, 34), (1079, 35), (1079, 37), (1079, 38), (1079, 39), (1079, 40), (1079, 61)] [1097, 1116, 1117] [] [] s r.1 := by
  intro n
  induction n with
  | zero => intro x1 b2  s r h
            cases h
  | succ n ih => intro x1 b2  s r h
                 exact zb_X12_list_24  ih  h
set_option maxRecDepth 100000 in
set_option maxHeartbeats 4000000 in
theorem zc_X12_list    {s : uS} {r : (uS × Int32)}  (h : fn_X12_list   s = some r) : agf [(1079, 30), (1079, 31), (1079, 32), (1079, 33), (1079, 34), (1079, 35), (1079, 37), (1079, 38), (1079, 39), (1079, 40), (1079, 61)] [1097, 1116, 1117] [] [] s r.1 := by
  unfold fn_X12_list at h
  obtain ⟨v1, e2, h⟩ := uu_ob h
  by_cases c3 : v1 = true
  · replace h := uu_pos c3 h
    obtain ⟨s4, e5, h⟩ := uu_ob h
    refine ((zc_X12_next  e5).mo (by decide) (by decide) (by decide) (fun _ h => nomatch h)).tr ?_
    exact zn_X12_list_24  _ _ _ _ _ h
  · replace h := uu_neg c3 h
    obtain ⟨r6, e7, h⟩ := uu_ob h
    refine ((zc_X12_taken  e7).mo (by decide) (by decide) (by decide) (fun _ h => nomatch h)).tr ?_
    have hr := Option.some.inj h
    subst hr
    exact agf.rf
set_option maxRecDepth 100000 in
set_option maxHeartbeats 4000000 in
theorem zb_X12_oneString_12  {K12 : Int32 → Int32 → uS → Option uS}  (hK12 : ∀ (x1 : Int32) (x2 : Int32)  (s : uS) (r : uS), K12 x1 x2 s = some r → agf [(1079, 21)] [1093] [] [] s r) {x1 : Int32} {x2 : Int32} {s : uS} {r : uS}  (h : fb_X12_oneString_12  K12 x1 x2 s = some r) : agf [(1079, 21)] [1093] [] [] s r := by
  unfold fb_X12_oneString_12 at h
  by_cases c1 : (s.I 1079 21) ≤ x2
  · replace h := uu_pos c1 h
    have hr := Option.some.inj h
    subst hr
    exact agf.rf
  · replace h := uu_neg c1 h
    obtain ⟨v2, e3, h⟩ := uu_ob h
    obtain ⟨v4, e5, h⟩ := uu_ob h
    obtain ⟨s6, e7, h⟩ := uu_ob h
    refine (agf_iput e7 (Or.inl (by decide))).tr ?_
    exact hK12 x1 (x2 + 1) _ _ h
set_option maxRecDepth 100000 in
set_option maxHeartbeats 4000000 in
theorem zn_X12_oneString_12     : ∀ (n : Nat) (x1 : Int32) (x2 : Int32)  (s : uS) (r : uS), fn_X12_oneString_12   n x1 x2 s = some r → agf [(1079, 21)] [1093] [] [] s r := by
  intro n
  induction n with
  | zero => intro x1 x2  s r h
            cases h
  | succ n ih => intro x1 x2  s r h
                 exact zb_X12_oneString_12  ih  h
set_option maxRecDepth 100000 in
set_option maxHeartbeats 4000000 in
theorem zc_X12_oneString   {x1 : Int32} {s : uS} {r : uS}  (h : fn_X12_oneString  x1 s = some r) : agf [(1079, 21)] [1093] [] [] s r := by
  unfold fn_X12_oneString at h
  obtain ⟨v1, e2, h⟩ := uu_ob h
  refine (agf_wI (a := 1079) (f := 21) (v := v1) (Or.inl (by decide))).tr ?_
  exact zn_X12_oneString_12  _ _ _ _ _ h
set_option maxRecDepth 100000 in
set_option maxHeartbeats 4000000 in
theorem zb_X12_relation_117     {x1 : Int32} {x3 : Int32} {s : uS} {r : uS}  (h : fb_X12_relation_117   x1 x3 s = some r) : agf [(1079, 30), (1079, 31), (1079, 32), (1079, 33), (1079, 34), (1079, 35), (1079, 37), (1079, 38), (1079, 39), (1079, 40), (1079, 61)] [1097, 1110, 1116, 1117] [] [] s r := by
  unfold fb_X12_relation_117 at h
  obtain ⟨s1, e2, h⟩ := uu_ob h
  refine (agf_iput e2 (Or.inl (by decide))).tr ?_
  obtain ⟨s3, e4, h⟩ := uu_ob h
  refine ((zc_X12_next  e4).mo (by decide) (by decide) (by decide) (fun _ h => nomatch h)).tr ?_
  have hr := Option.some.inj h
  subst hr
  exact agf.rf
set_option maxRecDepth 100000 in
set_option maxHeartbeats 4000000 in
theorem zb_X12_relation_104     {x1 : Int32} {xs0 : Int32} {s : uS} {r : uS}  (h : fb_X12_relation_104   x1 xs0 s = some r) : agf [(1079, 30), (1079, 31), (1079, 32), (1079, 33), (1079, 34), (1079, 35), (1079, 37), (1079, 38), (1079, 39), (1079, 40), (1079, 61)] [1097, 1110, 1116, 1117] [] [] s r := by
  unfold fb_X12_relation_104 at h
  by_cases c1 : 0 ≤ xs0
  · replace h := uu_pos c1 h
    exact zb_X12_relation_117  h
  · replace h := uu_neg c1 h
    obtain ⟨s2, e3, h⟩ := uu_ob h
    refine ((zc_X12_fail  e3).mo (by decide) (by decide) (by decide) (fun _ h => nomatch h)).tr ?_
    exact zb_X12_relation_117  h
set_option maxRecDepth 100000 in
set_option maxHeartbeats 4000000 in
theorem zc_X12_relation   {x1 : Int32} {s : uS} {r : uS}  (h : fn_X12_relation  x1 s = some r) : agf [(1079, 30), (1079, 31), (1079, 32), (1079, 33), (1079, 34), (1079, 35), (1079, 37), (1079, 38), (1079, 39), (1079, 40), (1079, 61)] [1097, 1110, 1116, 1117] [] [] s r := by
  unfold fn_X12_relation at h
  obtain ⟨r1, e2, h⟩ := uu_ob h
  refine ((zc_X12_string  e2).mo (by decide) (by decide) (by decide) (fun _ h => nomatch h)).tr ?_
  by_cases c3 : (r1.1.I 1079 40) < 0
  · replace h := uu_pos c3 h
    obtain ⟨v5, e6, h⟩ := uu_ob h
    by_cases c7 : v5 = true
    · replace h := uu_pos c7 h
      exact zb_X12_relation_104  h
    · replace h := uu_neg c7 h
      obtain ⟨v9, e10, h⟩ := uu_ob h
      by_cases c11 : v9 = true
      · replace h := uu_pos c11 h
        exact zb_X12_relation_104  h
      · replace h := uu_neg c11 h
        obtain ⟨v13, e14, h⟩ := uu_ob h
        by_cases c15 : v13 = true
        · replace h := uu_pos c15 h
          exact zb_X12_relation_104  h
        · replace h := uu_neg c15 h
          obtain ⟨v17, e18, h⟩ := uu_ob h
          by_cases c19 : v17 = true
          · replace h := uu_pos c19 h
            exact zb_X12_relation_104  h
          · replace h := uu_neg c19 h
            obtain ⟨v21, e22, h⟩ := uu_ob h
            by_cases c23 : v21 = true
            · replace h := uu_pos c23 h
              exact zb_X12_relation_104  h
            · replace h := uu_neg c23 h
              obtain ⟨v25, e26, h⟩ := uu_ob h
              by_cases c27 : v25 = true
              · replace h := uu_pos c27 h
                exact zb_X12_relation_104  h
              · replace h := uu_neg c27 h
                exact zb_X12_relation_104  h
  · replace h := uu_neg c3 h
    have hr := Option.some.inj h
    subst hr
    exact agf.rf
