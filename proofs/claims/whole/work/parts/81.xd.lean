set_option maxRecDepth 100000 in
set_option maxHeartbeats 4000000 in
theorem yb_X12_parameters_134  {K5 : uS → Option (uS × Bool)}  (hK5 : ∀   (s : uS) (r : (uS × Bool)), K5  s = some r → agr [11] [] s r.1) {x1 : Int32} {x2 : Int32} {s : uS} {r : (uS × Bool)}  (h : fb_X12_parameters_134  K5 x1 x2 s = some r) : agr [11] [] s r.1 := by
  unfold fb_X12_parameters_134 at h
  by_cases c1 : x1 < 1
  · replace h := uu_pos c1 h
    have hr := Option.some.inj h
    subst hr
    exact agr.rf
  · replace h := uu_neg c1 h
    by_cases c2 : x1 ≤ 9
    · replace h := uu_pos c2 h
      by_cases c3 : x2 ≤ (s.I 1079 128)
      · replace h := uu_pos c3 h
        refine (agr_wI (a := 1079) (f := 128) (v := s.I 1079 128) (Or.inl (by decide))).tr ?_
        exact hK5  _ _ h
      · replace h := uu_neg c3 h
        refine (agr_wI (a := 1079) (f := 128) (v := x2) (Or.inl (by decide))).tr ?_
        exact hK5  _ _ h
    · replace h := uu_neg c2 h
      have hr := Option.some.inj h
      subst hr
      exact agr.rf
set_option maxRecDepth 100000 in
set_option maxHeartbeats 4000000 in
theorem yb_X12_parameters_116  {K5 : uS → Option (uS × Bool)} {K57 : Int32 → Int32 → uS → Option (uS × Bool)}  (hK5 : ∀   (s : uS) (r : (uS × Bool)), K5  s = some r → agr [11] [] s r.1) (hK57 : ∀ (x1 : Int32) (x2 : Int32)  (s : uS) (r : (uS × Bool)), K57 x1 x2 s = some r → agr [11] [] s r.1) {x1 : Int32} {xs0 : Int32} {s : uS} {r : (uS × Bool)}  (h : fb_X12_parameters_116  K5 K57 x1 xs0 s = some r) : agr [11] [] s r.1 := by
  unfold fb_X12_parameters_116 at h
  refine (agr_wI (a := 1079) (f := 127) (v := (s.I 1079 127) + 1) (Or.inl (by decide))).tr ?_
  exact hK57 (x1 + 1) xs0 _ _ h
set_option maxRecDepth 100000 in
set_option maxHeartbeats 4000000 in
theorem yb_X12_parameters_57  {K5 : uS → Option (uS × Bool)} {K57 : Int32 → Int32 → uS → Option (uS × Bool)}  (hK5 : ∀   (s : uS) (r : (uS × Bool)), K5  s = some r → agr [11] [] s r.1) (hK57 : ∀ (x1 : Int32) (x2 : Int32)  (s : uS) (r : (uS × Bool)), K57 x1 x2 s = some r → agr [11] [] s r.1) {x1 : Int32} {x2 : Int32} {s : uS} {r : (uS × Bool)}  (h : fb_X12_parameters_57  K5 K57 x1 x2 s = some r) : agr [11] [] s r.1 := by
  unfold fb_X12_parameters_57 at h
  by_cases c1 : (s.I 1079 126) ≤ (s.I 1079 127)
  · replace h := uu_pos c1 h
    exact yb_X12_parameters_134 hK5 h
  · replace h := uu_neg c1 h
    obtain ⟨v2, e3, h⟩ := uu_ob h
    obtain ⟨v4, e5, h⟩ := uu_ob h
    by_cases c6 : v4 = true
    · replace h := uu_pos c6 h
      by_cases c7 : (10 : Int32) ≤ x1
      · replace h := uu_pos c7 h
        exact yb_X12_parameters_134 hK5 h
      · replace h := uu_neg c7 h
        by_cases c8 : (9 : Int32) ≤ x1
        · replace h := uu_pos c8 h
          exact yb_X12_parameters_116 hK5 hK57 h
        · replace h := uu_neg c8 h
          obtain ⟨v9, e10, h⟩ := uu_ob h
          exact yb_X12_parameters_116 hK5 hK57 h
    · replace h := uu_neg c6 h
      exact yb_X12_parameters_134 hK5 h
set_option maxRecDepth 100000 in
set_option maxHeartbeats 4000000 in
theorem yn_X12_parameters_57  {K5 : uS → Option (uS × Bool)}  (hK5 : ∀   (s : uS) (r : (uS × Bool)), K5  s = some r → agr [11] [] s r.1) : ∀ (n : Nat) (x1 : Int32) (x2 : Int32)  (s : uS) (r : (uS × Bool)), fn_X12_parameters_57  K5 n x1 x2 s = some r → agr [11] [] s r.1 := by
  intro n
  induction n with
  | zero => intro x1 x2  s r h
            cases h
  | succ n ih => intro x1 x2  s r h
                 exact yb_X12_parameters_57  hK5 ih  h
set_option maxRecDepth 100000 in
set_option maxHeartbeats 4000000 in
theorem yb_X12_parameters_5  {K5 : uS → Option (uS × Bool)}  (hK5 : ∀   (s : uS) (r : (uS × Bool)), K5  s = some r → agr [11] [] s r.1)  {s : uS} {r : (uS × Bool)}  (h : fb_X12_parameters_5  K5  s = some r) : agr [11] [] s r.1 := by
  unfold fb_X12_parameters_5 at h
  by_cases c1 : (s.I 1079 126) ≤ (s.I 1079 127)
  · replace h := uu_pos c1 h
    have hr := Option.some.inj h
    subst hr
    exact agr.rf
  · replace h := uu_neg c1 h
    obtain ⟨r3, e4, h⟩ := uu_ob h
    refine ((yc_X12_stands  e4).mo (by decide) (fun _ h => nomatch h)).tr ?_
    by_cases c5 : r3.2 = true
    · replace h := uu_pos c5 h
      obtain ⟨r7, e8, h⟩ := uu_ob h
      refine ((yc_X12_stands  e8).mo (by decide) (fun _ h => nomatch h)).tr ?_
      by_cases c9 : r7.2 = true
      · replace h := uu_pos c9 h
        exact hK5  _ _ h
      · replace h := uu_neg c9 h
        obtain ⟨r11, e12, h⟩ := uu_ob h
        refine ((yc_X12_stands  e12).mo (by decide) (fun _ h => nomatch h)).tr ?_
        by_cases c13 : r11.2 = true
        · replace h := uu_pos c13 h
          exact yn_X12_parameters_57 hK5 _ _ _ _ _ h
        · replace h := uu_neg c13 h
          have hr := Option.some.inj h
          subst hr
          exact agr.rf
    · replace h := uu_neg c5 h
      have hr := Option.some.inj h
      subst hr
      exact agr.rf
set_option maxRecDepth 100000 in
set_option maxHeartbeats 4000000 in
theorem yn_X12_parameters_5     : ∀ (n : Nat)   (s : uS) (r : (uS × Bool)), fn_X12_parameters_5   n  s = some r → agr [11] [] s r.1 := by
  intro n
  induction n with
  | zero => intro   s r h
            cases h
  | succ n ih => intro   s r h
                 exact yb_X12_parameters_5  ih  h
set_option maxRecDepth 100000 in
set_option maxHeartbeats 4000000 in
theorem yc_X12_parameters    {s : uS} {r : (uS × Bool)}  (h : fn_X12_parameters   s = some r) : agr [11] [] s r.1 := by
  unfold fn_X12_parameters at h
  refine (agr_wI (a := 1079) (f := 128) (v := 0) (Or.inl (by decide))).tr ?_
  exact yn_X12_parameters_5  _ _ _ h
set_option maxRecDepth 100000 in
set_option maxHeartbeats 4000000 in
theorem yb_X12_sender_152  {K152 : Int32 → uS → Option uS}  (hK152 : ∀ (x2 : Int32)  (s : uS) (r : uS), K152 x2 s = some r → agr [11] [] s r) {x2 : Int32} {s : uS} {r : uS}  (h : fb_X12_sender_152  K152 x2 s = some r) : agr [11] [] s r := by
  unfold fb_X12_sender_152 at h
  by_cases c1 : (s.I 1079 130) ≤ x2
  · replace h := uu_pos c1 h
    obtain ⟨s3, e4, h⟩ := uu_ob h
    refine ((yc_X12_line  e4).mo (by decide) (fun _ h => nomatch h)).tr ?_
    have hr := Option.some.inj h
    subst hr
    exact agr.rf
  · replace h := uu_neg c1 h
    obtain ⟨v5, e6, h⟩ := uu_ob h
    obtain ⟨s7, e8, h⟩ := uu_ob h
    refine (agr_iput e8 (Or.inl (by decide))).tr ?_
    exact hK152 (x2 + 1) _ _ h
set_option maxRecDepth 100000 in
set_option maxHeartbeats 4000000 in
theorem yn_X12_sender_152     : ∀ (n : Nat) (x2 : Int32)  (s : uS) (r : uS), fn_X12_sender_152   n x2 s = some r → agr [11] [] s r := by
  intro n
  induction n with
  | zero => intro x2  s r h
            cases h
  | succ n ih => intro x2  s r h
                 exact yb_X12_sender_152  ih  h
set_option maxRecDepth 100000 in
set_option maxHeartbeats 4000000 in
theorem yb_X12_sender_87      {s : uS} {r : uS}  (h : fb_X12_sender_87    s = some r) : agr [11] [] s r := by
  unfold fb_X12_sender_87 at h
  obtain ⟨s2, e3, h⟩ := uu_ob h
  refine ((yc_X12_line  e3).mo (by decide) (fun _ h => nomatch h)).tr ?_
  have hr := Option.some.inj h
  subst hr
  exact agr.rf
set_option maxRecDepth 100000 in
set_option maxHeartbeats 4000000 in
theorem yb_X12_sender_76     {b1 : Bool} {s : uS} {r : uS}  (h : fb_X12_sender_76   b1 s = some r) : agr [11] [] s r := by
  unfold fb_X12_sender_76 at h
  by_cases c1 : b1 = true
  · replace h := uu_pos c1 h
    obtain ⟨r2, e3, h⟩ := uu_ob h
    refine ((yc_X12_parameters  e3).mo (by decide) (fun _ h => nomatch h)).tr ?_
    by_cases c4 : r2.2 = true
    · replace h := uu_pos c4 h
      by_cases c5 : (r2.1.I 1079 115) = 0
      · replace h := uu_pos c5 h
        by_cases c6 : (r2.1.I 1079 128) ≤ 4000
        · replace h := uu_pos c6 h
          refine (agr_wI (a := 1079) (f := 115) (v := 1) (Or.inl (by decide))).tr ?_
          refine (agr_wI (a := 1079) (f := 93) (v := (wI r2.1 1079 115 1).I 1079 130) (Or.inl (by decide))).tr ?_
          exact yn_X12_sender_152  _ _ _ _ h
        · replace h := uu_neg c6 h
          obtain ⟨s8, e9, h⟩ := uu_ob h
          refine ((yc_X12_line  e9).mo (by decide) (fun _ h => nomatch h)).tr ?_
          have hr := Option.some.inj h
          subst hr
          exact agr.rf
      · replace h := uu_neg c5 h
        obtain ⟨s11, e12, h⟩ := uu_ob h
        refine ((yc_X12_line  e12).mo (by decide) (fun _ h => nomatch h)).tr ?_
        have hr := Option.some.inj h
        subst hr
        exact agr.rf
    · replace h := uu_neg c4 h
      exact yb_X12_sender_87  h
  · replace h := uu_neg c1 h
    exact yb_X12_sender_87  h
set_option maxRecDepth 100000 in
set_option maxHeartbeats 4000000 in
theorem yb_X12_sender_50  {K50 : Bool → Int32 → uS → Option uS}  (hK50 : ∀ (b1 : Bool) (x2 : Int32)  (s : uS) (r : uS), K50 b1 x2 s = some r → agr [11] [] s r) {b1 : Bool} {x2 : Int32} {s : uS} {r : uS}  (h : fb_X12_sender_50  K50 b1 x2 s = some r) : agr [11] [] s r := by
  unfold fb_X12_sender_50 at h
  by_cases c1 : (s.I 1079 130) ≤ x2
  · replace h := uu_pos c1 h
    exact yb_X12_sender_76  h
  · replace h := uu_neg c1 h
    obtain ⟨v2, e3, h⟩ := uu_ob h
    obtain ⟨s4, e5, h⟩ := uu_ob h
    refine (agr_iput e5 (Or.inl (by decide))).tr ?_
    exact hK50 b1 (x2 + 1) _ _ h
set_option maxRecDepth 100000 in
set_option maxHeartbeats 4000000 in
theorem yn_X12_sender_50     : ∀ (n : Nat) (b1 : Bool) (x2 : Int32)  (s : uS) (r : uS), fn_X12_sender_50   n b1 x2 s = some r → agr [11] [] s r := by
  intro n
  induction n with
  | zero => intro b1 x2  s r h
            cases h
  | succ n ih => intro b1 x2  s r h
                 exact yb_X12_sender_50  ih  h
set_option maxRecDepth 100000 in
set_option maxHeartbeats 4000000 in
theorem yc_X12_sender    {s : uS} {r : uS}  (h : fn_X12_sender   s = some r) : agr [11] [] s r := by
  unfold fn_X12_sender at h
  obtain ⟨r2, e3, h⟩ := uu_ob h
  refine ((yc_X12_stands  e3).mo (by decide) (fun _ h => nomatch h)).tr ?_
  refine (agr_wI (a := 1079) (f := 130) (v := 0) (Or.inl (by decide))).tr ?_
  by_cases c4 : r2.2 = true
  · replace h := uu_pos c4 h
    obtain ⟨r6, e7, h⟩ := uu_ob h
    refine ((yc_X12_stands  e7).mo (by decide) (fun _ h => nomatch h)).tr ?_
    by_cases c8 : r6.2 = true
    · replace h := uu_pos c8 h
      exact yb_X12_sender_76  h
    · replace h := uu_neg c8 h
      obtain ⟨r9, e10, h⟩ := uu_ob h
      refine ((yc_X12_path  e10).mo (by decide) (fun _ h => nomatch h)).tr ?_
      by_cases c11 : r9.2 = true
      · replace h := uu_pos c11 h
        refine (agr_wI (a := 1079) (f := 130) (v := r9.1.I 1079 21) (Or.inl (by decide))).tr ?_
        exact yn_X12_sender_50  _ _ _ _ _ h
      · replace h := uu_neg c11 h
        refine (agr_wI (a := 1079) (f := 130) (v := 0) (Or.inl (by decide))).tr ?_
        exact yn_X12_sender_50  _ _ _ _ _ h
  · replace h := uu_neg c4 h
    exact yb_X12_sender_76  h
set_option maxRecDepth 100000 in
set_option maxHeartbeats 4000000 in
theorem yc_X12_transact    {s : uS} {r : uS}  (h : fn_X12_transact   s = some r) : agr [11] [] s r := by
  unfold fn_X12_transact at h
  obtain ⟨r2, e3, h⟩ := uu_ob h
  refine ((yc_X12_first  e3).mo (by decide) (fun _ h => nomatch h)).tr ?_
  by_cases c4 : r2.2 = true
  · replace h := uu_pos c4 h
    obtain ⟨s5, e6, h⟩ := uu_ob h
    refine ((yc_X12_sender  e6).mo (by decide) (fun _ h => nomatch h)).tr ?_
    have hr := Option.some.inj h
    subst hr
    exact agr.rf
  · replace h := uu_neg c4 h
    obtain ⟨r8, e9, h⟩ := uu_ob h
    refine ((yc_X12_first  e9).mo (by decide) (fun _ h => nomatch h)).tr ?_
    by_cases c10 : r8.2 = true
    · replace h := uu_pos c10 h
      obtain ⟨s11, e12, h⟩ := uu_ob h
      refine ((yc_X12_recipient  e12).mo (by decide) (fun _ h => nomatch h)).tr ?_
      have hr := Option.some.inj h
      subst hr
      exact agr.rf
    · replace h := uu_neg c10 h
      obtain ⟨r14, e15, h⟩ := uu_ob h
      refine ((yc_X12_first  e15).mo (by decide) (fun _ h => nomatch h)).tr ?_
      obtain ⟨s16, e17, h⟩ := uu_ob h
      refine ((yc_X12_data  e17).mo (by decide) (fun _ h => nomatch h)).tr ?_
      have hr := Option.some.inj h
      subst hr
      exact agr.rf
set_option maxRecDepth 100000 in
set_option maxHeartbeats 4000000 in
theorem yb_X12_order_128      {s : uS} {r : uS}  (h : fb_X12_order_128    s = some r) : agr [11] [] s r := by
  unfold fb_X12_order_128 at h
  by_cases c1 : (s.I 1079 114) = 0
  · replace h := uu_pos c1 h
    obtain ⟨s3, e4, h⟩ := uu_ob h
    refine ((yc_X12_line  e4).mo (by decide) (fun _ h => nomatch h)).tr ?_
    have hr := Option.some.inj h
    subst hr
    exact agr.rf
  · replace h := uu_neg c1 h
    obtain ⟨s5, e6, h⟩ := uu_ob h
    refine ((yc_X12_transact  e6).mo (by decide) (fun _ h => nomatch h)).tr ?_
    have hr := Option.some.inj h
    subst hr
    exact agr.rf
set_option maxRecDepth 100000 in
set_option maxHeartbeats 4000000 in
theorem yc_X12_order   {x1 : Int32} {s : uS} {r : uS}  (h : fn_X12_order  x1 s = some r) : agr [11] [] s r := by
  unfold fn_X12_order at h
  refine (agr_wI (a := 1079) (f := 126) (v := x1) (Or.inl (by decide))).tr ?_
  obtain ⟨r2, e3, h⟩ := uu_ob h
  refine ((yc_X12_first  e3).mo (by decide) (fun _ h => nomatch h)).tr ?_
  by_cases c4 : r2.2 = true
  · replace h := uu_pos c4 h
    obtain ⟨s5, e6, h⟩ := uu_ob h
    refine ((yc_X12_hello  e6).mo (by decide) (fun _ h => nomatch h)).tr ?_
    have hr := Option.some.inj h
    subst hr
    exact agr.rf
  · replace h := uu_neg c4 h
    obtain ⟨r8, e9, h⟩ := uu_ob h
    refine ((yc_X12_first  e9).mo (by decide) (fun _ h => nomatch h)).tr ?_
    by_cases c10 : r8.2 = true
    · replace h := uu_pos c10 h
      obtain ⟨r12, e13, h⟩ := uu_ob h
      refine ((yc_X12_done  e13).mo (by decide) (fun _ h => nomatch h)).tr ?_
      have hr := Option.some.inj h
      subst hr
      exact agr.rf
    · replace h := uu_neg c10 h
      obtain ⟨r15, e16, h⟩ := uu_ob h
      refine ((yc_X12_first  e16).mo (by decide) (fun _ h => nomatch h)).tr ?_
      by_cases c17 : r15.2 = true
      · replace h := uu_pos c17 h
        obtain ⟨r19, e20, h⟩ := uu_ob h
        refine ((yc_X12_done  e20).mo (by decide) (fun _ h => nomatch h)).tr ?_
        by_cases c21 : r19.2 = true
        · replace h := uu_pos c21 h
          obtain ⟨s22, e23, h⟩ := uu_ob h
          refine ((yc_X12_reset  e23).mo (by decide) (fun _ h => nomatch h)).tr ?_
          have hr := Option.some.inj h
          subst hr
          exact agr.rf
        · replace h := uu_neg c21 h
          have hr := Option.some.inj h
          subst hr
          exact agr.rf
      · replace h := uu_neg c17 h
        obtain ⟨r25, e26, h⟩ := uu_ob h
        refine ((yc_X12_first  e26).mo (by decide) (fun _ h => nomatch h)).tr ?_
        by_cases c27 : r25.2 = true
        · replace h := uu_pos c27 h
          obtain ⟨r29, e30, h⟩ := uu_ob h
          refine ((yc_X12_done  e30).mo (by decide) (fun _ h => nomatch h)).tr ?_
          by_cases c31 : r29.2 = true
          · replace h := uu_pos c31 h
            refine (agr_wI (a := 1079) (f := 113) (v := 0) (Or.inl (by decide))).tr ?_
            have hr := Option.some.inj h
            subst hr
            exact agr.rf
          · replace h := uu_neg c31 h
            have hr := Option.some.inj h
            subst hr
            exact agr.rf
        · replace h := uu_neg c27 h
          obtain ⟨r33, e34, h⟩ := uu_ob h
          refine ((yc_X12_first  e34).mo (by decide) (fun _ h => nomatch h)).tr ?_
          by_cases c35 : r33.2 = true
          · replace h := uu_pos c35 h
            exact yb_X12_order_128  h
          · replace h := uu_neg c35 h
            obtain ⟨r37, e38, h⟩ := uu_ob h
            refine ((yc_X12_first  e38).mo (by decide) (fun _ h => nomatch h)).tr ?_
            by_cases c39 : r37.2 = true
            · replace h := uu_pos c39 h
              exact yb_X12_order_128  h
            · replace h := uu_neg c39 h
              obtain ⟨r41, e42, h⟩ := uu_ob h
              refine ((yc_X12_first  e42).mo (by decide) (fun _ h => nomatch h)).tr ?_
              by_cases c43 : r41.2 = true
              · replace h := uu_pos c43 h
                exact yb_X12_order_128  h
              · replace h := uu_neg c43 h
                obtain ⟨s45, e46, h⟩ := uu_ob h
                refine ((yc_X12_line  e46).mo (by decide) (fun _ h => nomatch h)).tr ?_
                have hr := Option.some.inj h
                subst hr
                exact agr.rf
set_option maxRecDepth 100000 in
set_option maxHeartbeats 4000000 in
theorem yc_X12_commandLine    {s : uS} {r : (uS × Bool)}  (h : fn_X12_commandLine   s = some r) : agr [11] [] s r.1 := by
  unfold fn_X12_commandLine at h
  refine (agr_wI (a := 1079) (f := 122) (v := 0) (Or.inl (by decide))).tr ?_
  by_cases c1 : (s.I 1079 122) ≤ 500
  · replace h := uu_pos c1 h
    obtain ⟨s2, e3, h⟩ := uu_ob h
    refine ((yc_X12_order  e3).mo (by decide) (fun _ h => nomatch h)).tr ?_
    have hr := Option.some.inj h
    subst hr
    exact agr.rf
  · replace h := uu_neg c1 h
    obtain ⟨s5, e6, h⟩ := uu_ob h
    refine ((yc_X12_line  e6).mo (by decide) (fun _ h => nomatch h)).tr ?_
    have hr := Option.some.inj h
    subst hr
    exact agr.rf
set_option maxRecDepth 100000 in
set_option maxHeartbeats 4000000 in
theorem yb_X12_plain_56     {x1 : Int32} {b2 : Bool} {bs0 : Bool} {s : uS} {r : uS}  (h : fb_X12_plain_56   x1 b2 bs0 s = some r) : agr [11] [] s r := by
  unfold fb_X12_plain_56 at h
  refine (agr_wI (a := 1079) (f := 124) (v := bI bs0) (Or.inl (by decide))).tr ?_
  by_cases c1 : b2 = true
  · replace h := uu_pos c1 h
    have hr := Option.some.inj h
    subst hr
    exact agr.rf
  · replace h := uu_neg c1 h
    refine (agr_wI (a := 1079) (f := 125) (v := ((wI s 1079 124 (bI bs0)).I 1079 125) + 1) (Or.inl (by decide))).tr ?_
    obtain ⟨s2, e3, h⟩ := uu_ob h
    refine ((yc_X12_mailByte  e3).mo (by decide) (fun _ h => nomatch h)).tr ?_
    have hr := Option.some.inj h
    subst hr
    exact agr.rf
set_option maxRecDepth 100000 in
set_option maxHeartbeats 4000000 in
theorem yb_X12_plain_38     {x1 : Int32} {bs0 : Bool} {s : uS} {r : uS}  (h : fb_X12_plain_38   x1 bs0 s = some r) : agr [11] [] s r := by
  unfold fb_X12_plain_38 at h
  by_cases c1 : (s.I 1079 124) = 0
  · replace h := uu_pos c1 h
    by_cases c2 : bs0 = true
    · replace h := uu_pos c2 h
      exact yb_X12_plain_56  h
    · replace h := uu_neg c2 h
      exact yb_X12_plain_56  h
  · replace h := uu_neg c1 h
    exact yb_X12_plain_56  h
set_option maxRecDepth 100000 in
set_option maxHeartbeats 4000000 in
theorem yc_X12_plain   {x1 : Int32} {s : uS} {r : uS}  (h : fn_X12_plain  x1 s = some r) : agr [11] [] s r := by
  unfold fn_X12_plain at h
  by_cases c1 : (s.I 1079 116) = 0
  · replace h := uu_pos c1 h
    obtain ⟨s2, e3, h⟩ := uu_ob h
    refine ((yc_X12_cmdByte  e3).mo (by decide) (fun _ h => nomatch h)).tr ?_
    have hr := Option.some.inj h
    subst hr
    exact agr.rf
  · replace h := uu_neg c1 h
    by_cases c4 : x1 = 46
    · replace h := uu_pos c4 h
      by_cases c5 : (s.I 1079 125) = 0
      · replace h := uu_pos c5 h
        by_cases c6 : (s.I 1079 124) = 0
        · replace h := uu_pos c6 h
          exact yb_X12_plain_38  h
        · replace h := uu_neg c6 h
          exact yb_X12_plain_38  h
      · replace h := uu_neg c5 h
        exact yb_X12_plain_38  h
    · replace h := uu_neg c4 h
      exact yb_X12_plain_38  h
set_option maxRecDepth 100000 in
set_option maxHeartbeats 4000000 in
theorem yb_X12_saveScript_12  {K12 : Int32 → Int32 → uS → Option uS}  (hK12 : ∀ (x1 : Int32) (x2 : Int32)  (s : uS) (r : uS), K12 x1 x2 s = some r → agr [11] [] s r) {x1 : Int32} {x2 : Int32} {s : uS} {r : uS}  (h : fb_X12_saveScript_12  K12 x1 x2 s = some r) : agr [11] [] s r := by
  unfold fb_X12_saveScript_12 at h
  by_cases c1 : (s.I 1079 29) ≤ x2
  · replace h := uu_pos c1 h
    have hr := Option.some.inj h
    subst hr
    exact agr.rf
  · replace h := uu_neg c1 h
    obtain ⟨v2, e3, h⟩ := uu_ob h
    obtain ⟨v4, e5, h⟩ := uu_ob h
    obtain ⟨s6, e7, h⟩ := uu_ob h
    refine (agr_lput e7 (Or.inl (by decide))).tr ?_
    exact hK12 x1 (x2 + 1) _ _ h
set_option maxRecDepth 100000 in
set_option maxHeartbeats 4000000 in
theorem yn_X12_saveScript_12     : ∀ (n : Nat) (x1 : Int32) (x2 : Int32)  (s : uS) (r : uS), fn_X12_saveScript_12   n x1 x2 s = some r → agr [11] [] s r := by
  intro n
  induction n with
  | zero => intro x1 x2  s r h
            cases h
  | succ n ih => intro x1 x2  s r h
                 exact yb_X12_saveScript_12  ih  h
set_option maxRecDepth 100000 in
set_option maxHeartbeats 4000000 in
theorem yc_X12_saveScript   {x1 : Int32} {s : uS} {r : uS}  (h : fn_X12_saveScript  x1 s = some r) : agr [11] [] s r := by
  unfold fn_X12_saveScript at h
  obtain ⟨s1, e2, h⟩ := uu_ob h
  refine (agr_iput e2 (Or.inl (by decide))).tr ?_
  exact yn_X12_saveScript_12  _ _ _ _ _ h
set_option maxRecDepth 100000 in
set_option maxHeartbeats 4000000 in
theorem yb_X12_nameScript_19  {K19 : Int32 → Int32 → Int32 → Int32 → uS → Option uS}  (hK19 : ∀ (x1 : Int32) (x2 : Int32) (x3 : Int32) (x4 : Int32)  (s : uS) (r : uS), K19 x1 x2 x3 x4 s = some r → agr [11] [] s r) {x1 : Int32} {x2 : Int32} {x3 : Int32} {x4 : Int32} {s : uS} {r : uS}  (h : fb_X12_nameScript_19  K19 x1 x2 x3 x4 s = some r) : agr [11] [] s r := by
  unfold fb_X12_nameScript_19 at h
  obtain ⟨v1, e2, h⟩ := uu_ob h
  by_cases c3 : v1 ≤ x4
  · replace h := uu_pos c3 h
    have hr := Option.some.inj h
    subst hr
    exact agr.rf
  · replace h := uu_neg c3 h
    obtain ⟨v4, e5, h⟩ := uu_ob h
    obtain ⟨s6, e7, h⟩ := uu_ob h
    refine (agr_iput e7 (Or.inl (by decide))).tr ?_
    exact hK19 x1 x2 x3 (x4 + 1) _ _ h
set_option maxRecDepth 100000 in
set_option maxHeartbeats 4000000 in
theorem yn_X12_nameScript_19     : ∀ (n : Nat) (x1 : Int32) (x2 : Int32) (x3 : Int32) (x4 : Int32)  (s : uS) (r : uS), fn_X12_nameScript_19   n x1 x2 x3 x4 s = some r → agr [11] [] s r := by
  intro n
  induction n with
  | zero => intro x1 x2 x3 x4  s r h
            cases h
  | succ n ih => intro x1 x2 x3 x4  s r h
                 exact yb_X12_nameScript_19  ih  h
set_option maxRecDepth 100000 in
set_option maxHeartbeats 4000000 in
theorem yc_X12_nameScript   {x1 : Int32} {x2 : Int32} {x3 : Int32} {s : uS} {r : uS}  (h : fn_X12_nameScript  x1 x2 x3 s = some r) : agr [11] [] s r := by
  unfold fn_X12_nameScript at h
  obtain ⟨v1, e2, h⟩ := uu_ob h
  obtain ⟨s3, e4, h⟩ := uu_ob h
  refine (agr_iput e4 (Or.inl (by decide))).tr ?_
  exact yn_X12_nameScript_19  _ _ _ _ _ _ _ h
set_option maxRecDepth 100000 in
set_option maxHeartbeats 4000000 in
theorem yc_X12_partByte   {x1 : Int32} {x2 : Int32} {s : uS} {r : uS}  (h : fn_X12_partByte  x1 x2 s = some r) : agr [11] [] s r := by
  unfold fn_X12_partByte at h
  obtain ⟨v1, e2, h⟩ := uu_ob h
  by_cases c3 : v1 = 2
  · replace h := uu_pos c3 h
    obtain ⟨v4, e5, h⟩ := uu_ob h
    obtain ⟨s6, e7, h⟩ := uu_ob h
    refine (agr_iput e7 (Or.inl (by decide))).tr ?_
    have hr := Option.some.inj h
    subst hr
    exact agr.rf
  · replace h := uu_neg c3 h
    obtain ⟨v8, e9, h⟩ := uu_ob h
    obtain ⟨v10, e11, h⟩ := uu_ob h
    obtain ⟨s12, e13, h⟩ := uu_ob h
    refine (agr_iput e13 (Or.inl (by decide))).tr ?_
    by_cases c68_0 : x1 = 0
    · replace h := uu_pos c68_0 h
      obtain ⟨s14, e15, h⟩ := uu_ob h
      refine (agr_iput e15 (Or.inl (by decide))).tr ?_
      have hr := Option.some.inj h
      subst hr
      exact agr.rf
    replace h := uu_neg c68_0 h
    by_cases c68_1 : x1 = 1
    · replace h := uu_pos c68_1 h
      obtain ⟨s16, e17, h⟩ := uu_ob h
      refine (agr_iput e17 (Or.inl (by decide))).tr ?_
      have hr := Option.some.inj h
      subst hr
      exact agr.rf
    replace h := uu_neg c68_1 h
    by_cases c68_2 : x1 = 2
    · replace h := uu_pos c68_2 h
      obtain ⟨s18, e19, h⟩ := uu_ob h
      refine (agr_iput e19 (Or.inl (by decide))).tr ?_
      have hr := Option.some.inj h
      subst hr
      exact agr.rf
    replace h := uu_neg c68_2 h
    obtain ⟨s20, e21, h⟩ := uu_ob h
    refine (agr_iput e21 (Or.inl (by decide))).tr ?_
    have hr := Option.some.inj h
    subst hr
    exact agr.rf
set_option maxRecDepth 100000 in
set_option maxHeartbeats 4000000 in
theorem yc_X12_pass   {x1 : Int32} {x2 : Int32} {s : uS} {r : (uS × Bool)}  (h : fn_X12_pass  x1 x2 s = some r) : agr [11] [] s r.1 := by
  unfold fn_X12_pass at h
  obtain ⟨s1, e2, h⟩ := uu_ob h
  refine (agr_iput e2 (Or.inl (by decide))).tr ?_
  by_cases c3 : x2 = 13
  · replace h := uu_pos c3 h
    obtain ⟨s4, e5, h⟩ := uu_ob h
    refine (agr_iput e5 (Or.inl (by decide))).tr ?_
    have hr := Option.some.inj h
    subst hr
    exact agr.rf
  · replace h := uu_neg c3 h
    obtain ⟨s6, e7, h⟩ := uu_ob h
    refine (agr_iput e7 (Or.inl (by decide))).tr ?_
    have hr := Option.some.inj h
    subst hr
    exact agr.rf
set_option maxRecDepth 100000 in
set_option maxHeartbeats 4000000 in
theorem yc_X12_go   {x1 : Int32} {x2 : Int32} {s : uS} {r : (uS × Bool)}  (h : fn_X12_go  x1 x2 s = some r) : agr [11] [] s r.1 := by
  unfold fn_X12_go at h
  obtain ⟨s1, e2, h⟩ := uu_ob h
  refine (agr_iput e2 (Or.inl (by decide))).tr ?_
  have hr := Option.some.inj h
  subst hr
  exact agr.rf
set_option maxRecDepth 100000 in
set_option maxHeartbeats 4000000 in
theorem yb_X12_behindIn_23     {x1 : Int32} {x2 : Int32} {s : uS} {r : (uS × Bool)}  (h : fb_X12_behindIn_23   x1 x2 s = some r) : agr [11] [] s r.1 := by
  unfold fb_X12_behindIn_23 at h
  by_cases c1 : x2 = 13
  · replace h := uu_pos c1 h
    obtain ⟨r2, e3, h⟩ := uu_ob h
    refine ((yc_X12_go  e3).mo (by decide) (fun _ h => nomatch h)).tr ?_
    have hr := Option.some.inj h
    subst hr
    exact agr.rf
  · replace h := uu_neg c1 h
    obtain ⟨r4, e5, h⟩ := uu_ob h
    refine ((yc_X12_pass  e5).mo (by decide) (fun _ h => nomatch h)).tr ?_
    have hr := Option.some.inj h
    subst hr
    exact agr.rf
set_option maxRecDepth 100000 in
set_option maxHeartbeats 4000000 in
theorem yc_X12_behindIn   {x1 : Int32} {x2 : Int32} {s : uS} {r : (uS × Bool)}  (h : fn_X12_behindIn  x1 x2 s = some r) : agr [11] [] s r.1 := by
  unfold fn_X12_behindIn at h
  by_cases c1 : x2 = 32
  · replace h := uu_pos c1 h
    obtain ⟨v2, e3, h⟩ := uu_ob h
    by_cases c4 : (3 : Int32) ≤ v2
    · replace h := uu_pos c4 h
      exact yb_X12_behindIn_23  h
    · replace h := uu_neg c4 h
      obtain ⟨r5, e6, h⟩ := uu_ob h
      refine ((yc_X12_go  e6).mo (by decide) (fun _ h => nomatch h)).tr ?_
      have hr := Option.some.inj h
      subst hr
      exact agr.rf
  · replace h := uu_neg c1 h
    exact yb_X12_behindIn_23  h
set_option maxRecDepth 100000 in
set_option maxHeartbeats 4000000 in
theorem yb_X12_wordIn_35     {x1 : Int32} {s : uS} {r : (uS × Bool)}  (h : fb_X12_wordIn_35   x1 s = some r) : agr [11] [] s r.1 := by
  unfold fb_X12_wordIn_35 at h
  obtain ⟨v1, e2, h⟩ := uu_ob h
  by_cases c3 : (21 : Int32) ≤ v1
  · replace h := uu_pos c3 h
    obtain ⟨s4, e5, h⟩ := uu_ob h
    refine (agr_iput e5 (Or.inl (by decide))).tr ?_
    have hr := Option.some.inj h
    subst hr
    exact agr.rf
  · replace h := uu_neg c3 h
    obtain ⟨v6, e7, h⟩ := uu_ob h
    obtain ⟨s8, e9, h⟩ := uu_ob h
    refine (agr_iput e9 (Or.inl (by decide))).tr ?_
    have hr := Option.some.inj h
    subst hr
    exact agr.rf
set_option maxRecDepth 100000 in
set_option maxHeartbeats 4000000 in
theorem yb_X12_wordIn_108     {x1 : Int32} {x2 : Int32} {xs0 : Int32} {xs1 : Int32} {s : uS} {r : (uS × Bool)}  (h : fb_X12_wordIn_108   x1 x2 xs0 xs1 s = some r) : agr [11] [] s r.1 := by
  unfold fb_X12_wordIn_108 at h
  obtain ⟨s1, e2, h⟩ := uu_ob h
  refine (agr_iput e2 (Or.inl (by decide))).tr ?_
  obtain ⟨r3, e4, h⟩ := uu_ob h
  refine ((yc_X12_behindIn  e4).mo (by decide) (fun _ h => nomatch h)).tr ?_
  have hr := Option.some.inj h
  subst hr
  exact agr.rf
set_option maxRecDepth 100000 in
set_option maxHeartbeats 4000000 in
theorem yc_X12_wordIn   {x1 : Int32} {x2 : Int32} {s : uS} {r : (uS × Bool)}  (h : fn_X12_wordIn  x1 x2 s = some r) : agr [11] [] s r.1 := by
  unfold fn_X12_wordIn at h
  obtain ⟨v1, e2, h⟩ := uu_ob h
  by_cases c3 : v1 = true
  · replace h := uu_pos c3 h
    obtain ⟨v4, e5, h⟩ := uu_ob h
    by_cases c6 : (20 : Int32) ≤ v4
    · replace h := uu_pos c6 h
      exact yb_X12_wordIn_35  h
    · replace h := uu_neg c6 h
      obtain ⟨v7, e8, h⟩ := uu_ob h
      obtain ⟨s9, e10, h⟩ := uu_ob h
      refine (agr_iput e10 (Or.inl (by decide))).tr ?_
      exact yb_X12_wordIn_35  h
  · replace h := uu_neg c3 h
    obtain ⟨v11, e12, h⟩ := uu_ob h
    by_cases c13 : v11 = 0
    · replace h := uu_pos c13 h
      obtain ⟨r14, e15, h⟩ := uu_ob h
      refine ((yc_X12_pass  e15).mo (by decide) (fun _ h => nomatch h)).tr ?_
      have hr := Option.some.inj h
      subst hr
      exact agr.rf
    · replace h := uu_neg c13 h
      obtain ⟨v16, e17, h⟩ := uu_ob h
      by_cases c18 : (21 : Int32) ≤ v16
      · replace h := uu_pos c18 h
        exact yb_X12_wordIn_108  h
      · replace h := uu_neg c18 h
        obtain ⟨v19, e20, h⟩ := uu_ob h
        exact yb_X12_wordIn_108  h
set_option maxRecDepth 100000 in
set_option maxHeartbeats 4000000 in
theorem yb_X12_digitIn_40     {x1 : Int32} {x3 : Int32} {xs0 : Int32} {xs1 : Int32} {s : uS} {r : (uS × Bool)}  (h : fb_X12_digitIn_40   x1 x3 xs0 xs1 s = some r) : agr [11] [] s r.1 := by
  unfold fb_X12_digitIn_40 at h
  obtain ⟨s1, e2, h⟩ := uu_ob h
  refine (agr_iput e2 (Or.inl (by decide))).tr ?_
  obtain ⟨v3, e4, h⟩ := uu_ob h
  obtain ⟨s5, e6, h⟩ := uu_ob h
  refine (agr_iput e6 (Or.inl (by decide))).tr ?_
  obtain ⟨r7, e8, h⟩ := uu_ob h
  refine ((yc_X12_go  e8).mo (by decide) (fun _ h => nomatch h)).tr ?_
  have hr := Option.some.inj h
  subst hr
  exact agr.rf
set_option maxRecDepth 100000 in
set_option maxHeartbeats 4000000 in
theorem yc_X12_digitIn   {x1 : Int32} {x2 : Int32} {x3 : Int32} {s : uS} {r : (uS × Bool)}  (h : fn_X12_digitIn  x1 x2 x3 s = some r) : agr [11] [] s r.1 := by
  unfold fn_X12_digitIn at h
  obtain ⟨v1, e2, h⟩ := uu_ob h
  by_cases c3 : (100000000 : Int32) ≤ v1
  · replace h := uu_pos c3 h
    obtain ⟨v4, e5, h⟩ := uu_ob h
    exact yb_X12_digitIn_40  h
  · replace h := uu_neg c3 h
    obtain ⟨v6, e7, h⟩ := uu_ob h
    exact yb_X12_digitIn_40  h
set_option maxRecDepth 100000 in
set_option maxHeartbeats 4000000 in
theorem yb_X12_beginIn_36     {x1 : Int32} {x2 : Int32} {s : uS} {r : (uS × Bool)}  (h : fb_X12_beginIn_36   x1 x2 s = some r) : agr [11] [] s r.1 := by
  unfold fb_X12_beginIn_36 at h
  obtain ⟨s1, e2, h⟩ := uu_ob h
  refine (agr_iput e2 (Or.inl (by decide))).tr ?_
  obtain ⟨s3, e4, h⟩ := uu_ob h
  refine (agr_iput e4 (Or.inl (by decide))).tr ?_
  obtain ⟨v5, e6, h⟩ := uu_ob h
  by_cases c7 : v5 = true
  · replace h := uu_pos c7 h
    obtain ⟨r8, e9, h⟩ := uu_ob h
    refine ((yc_X12_digitIn  e9).mo (by decide) (fun _ h => nomatch h)).tr ?_
    have hr := Option.some.inj h
    subst hr
    exact agr.rf
  · replace h := uu_neg c7 h
    by_cases c10 : x2 = 34
    · replace h := uu_pos c10 h
      obtain ⟨r11, e12, h⟩ := uu_ob h
      refine ((yc_X12_go  e12).mo (by decide) (fun _ h => nomatch h)).tr ?_
      have hr := Option.some.inj h
      subst hr
      exact agr.rf
    · replace h := uu_neg c10 h
      by_cases c13 : x2 = 123
      · replace h := uu_pos c13 h
        obtain ⟨r14, e15, h⟩ := uu_ob h
        refine ((yc_X12_go  e15).mo (by decide) (fun _ h => nomatch h)).tr ?_
        have hr := Option.some.inj h
        subst hr
        exact agr.rf
      · replace h := uu_neg c13 h
        obtain ⟨r16, e17, h⟩ := uu_ob h
        refine ((yc_X12_pass  e17).mo (by decide) (fun _ h => nomatch h)).tr ?_
        have hr := Option.some.inj h
        subst hr
        exact agr.rf
set_option maxRecDepth 100000 in
set_option maxHeartbeats 4000000 in
theorem yc_X12_beginIn   {x1 : Int32} {x2 : Int32} {s : uS} {r : (uS × Bool)}  (h : fn_X12_beginIn  x1 x2 s = some r) : agr [11] [] s r.1 := by
  unfold fn_X12_beginIn at h
  obtain ⟨v1, e2, h⟩ := uu_ob h
  by_cases c3 : (2 : Int32) ≤ v1
  · replace h := uu_pos c3 h
    obtain ⟨s4, e5, h⟩ := uu_ob h
    refine (agr_iput e5 (Or.inl (by decide))).tr ?_
    exact yb_X12_beginIn_36  h
  · replace h := uu_neg c3 h
    obtain ⟨v6, e7, h⟩ := uu_ob h
    obtain ⟨s8, e9, h⟩ := uu_ob h
    refine (agr_iput e9 (Or.inl (by decide))).tr ?_
    exact yb_X12_beginIn_36  h
set_option maxRecDepth 100000 in
set_option maxHeartbeats 4000000 in
theorem yc_X12_partDone   {x1 : Int32} {s : uS} {r : (uS × Bool)}  (h : fn_X12_partDone  x1 s = some r) : agr [11] [] s r.1 := by
  unfold fn_X12_partDone at h
  obtain ⟨v1, e2, h⟩ := uu_ob h
  obtain ⟨s3, e4, h⟩ := uu_ob h
  refine (agr_iput e4 (Or.inl (by decide))).tr ?_
  obtain ⟨r5, e6, h⟩ := uu_ob h
  refine ((yc_X12_go  e6).mo (by decide) (fun _ h => nomatch h)).tr ?_
  have hr := Option.some.inj h
  subst hr
  exact agr.rf
set_option maxRecDepth 100000 in
set_option maxHeartbeats 4000000 in
theorem yb_X12_quotedIn_44     {x1 : Int32} {x2 : Int32} {s : uS} {r : (uS × Bool)}  (h : fb_X12_quotedIn_44   x1 x2 s = some r) : agr [11] [] s r.1 := by
  unfold fb_X12_quotedIn_44 at h
  obtain ⟨r1, e2, h⟩ := uu_ob h
  refine ((yc_X12_pass  e2).mo (by decide) (fun _ h => nomatch h)).tr ?_
  have hr := Option.some.inj h
  subst hr
  exact agr.rf
set_option maxRecDepth 100000 in
set_option maxHeartbeats 4000000 in
theorem yb_X12_quotedIn_68     {x1 : Int32} {x2 : Int32} {s : uS} {r : (uS × Bool)}  (h : fb_X12_quotedIn_68   x1 x2 s = some r) : agr [11] [] s r.1 := by
  unfold fb_X12_quotedIn_68 at h
  obtain ⟨v1, e2, h⟩ := uu_ob h
  by_cases c3 : v1 = 200
  · replace h := uu_pos c3 h
    obtain ⟨r4, e5, h⟩ := uu_ob h
    refine ((yc_X12_pass  e5).mo (by decide) (fun _ h => nomatch h)).tr ?_
    have hr := Option.some.inj h
    subst hr
    exact agr.rf
  · replace h := uu_neg c3 h
    obtain ⟨s6, e7, h⟩ := uu_ob h
    refine ((yc_X12_partByte  e7).mo (by decide) (fun _ h => nomatch h)).tr ?_
    obtain ⟨r8, e9, h⟩ := uu_ob h
    refine ((yc_X12_go  e9).mo (by decide) (fun _ h => nomatch h)).tr ?_
    have hr := Option.some.inj h
    subst hr
    exact agr.rf
set_option maxRecDepth 100000 in
set_option maxHeartbeats 4000000 in
theorem yb_X12_quotedIn_32     {x1 : Int32} {x2 : Int32} {b3 : Bool} {s : uS} {r : (uS × Bool)}  (h : fb_X12_quotedIn_32   x1 x2 b3 s = some r) : agr [11] [] s r.1 := by
  unfold fb_X12_quotedIn_32 at h
  by_cases c1 : x2 = 13
  · replace h := uu_pos c1 h
    exact yb_X12_quotedIn_44  h
  · replace h := uu_neg c1 h
    by_cases c2 : x2 = 10
    · replace h := uu_pos c2 h
      exact yb_X12_quotedIn_44  h
    · replace h := uu_neg c2 h
      by_cases c3 : x2 = 92
      · replace h := uu_pos c3 h
        by_cases c4 : b3 = true
        · replace h := uu_pos c4 h
          exact yb_X12_quotedIn_68  h
        · replace h := uu_neg c4 h
          obtain ⟨r5, e6, h⟩ := uu_ob h
          refine ((yc_X12_go  e6).mo (by decide) (fun _ h => nomatch h)).tr ?_
          have hr := Option.some.inj h
          subst hr
          exact agr.rf
      · replace h := uu_neg c3 h
        exact yb_X12_quotedIn_68  h
set_option maxRecDepth 100000 in
set_option maxHeartbeats 4000000 in
theorem yb_X12_quotedIn_15     {x1 : Int32} {x2 : Int32} {bs0 : Bool} {s : uS} {r : (uS × Bool)}  (h : fb_X12_quotedIn_15   x1 x2 bs0 s = some r) : agr [11] [] s r.1 := by
  unfold fb_X12_quotedIn_15 at h
  by_cases c1 : x2 = 34
  · replace h := uu_pos c1 h
    by_cases c2 : bs0 = true
    · replace h := uu_pos c2 h
      exact yb_X12_quotedIn_32  h
    · replace h := uu_neg c2 h
      obtain ⟨r3, e4, h⟩ := uu_ob h
      refine ((yc_X12_partDone  e4).mo (by decide) (fun _ h => nomatch h)).tr ?_
      have hr := Option.some.inj h
      subst hr
      exact agr.rf
  · replace h := uu_neg c1 h
    exact yb_X12_quotedIn_32  h
set_option maxRecDepth 100000 in
set_option maxHeartbeats 4000000 in
theorem yc_X12_quotedIn   {x1 : Int32} {x2 : Int32} {s : uS} {r : (uS × Bool)}  (h : fn_X12_quotedIn  x1 x2 s = some r) : agr [11] [] s r.1 := by
  unfold fn_X12_quotedIn at h
  obtain ⟨v1, e2, h⟩ := uu_ob h
  by_cases c3 : v1 = 4
  · replace h := uu_pos c3 h
    exact yb_X12_quotedIn_15  h
  · replace h := uu_neg c3 h
    exact yb_X12_quotedIn_15  h
set_option maxRecDepth 100000 in
set_option maxHeartbeats 4000000 in
theorem yb_X12_countIn_60     {x1 : Int32} {x2 : Int32} {s : uS} {r : (uS × Bool)}  (h : fb_X12_countIn_60   x1 x2 s = some r) : agr [11] [] s r.1 := by
  unfold fb_X12_countIn_60 at h
  obtain ⟨r1, e2, h⟩ := uu_ob h
  refine ((yc_X12_pass  e2).mo (by decide) (fun _ h => nomatch h)).tr ?_
  have hr := Option.some.inj h
  subst hr
  exact agr.rf
set_option maxRecDepth 100000 in
set_option maxHeartbeats 4000000 in
theorem yc_X12_countIn   {x1 : Int32} {x2 : Int32} {s : uS} {r : (uS × Bool)}  (h : fn_X12_countIn  x1 x2 s = some r) : agr [11] [] s r.1 := by
  unfold fn_X12_countIn at h
  obtain ⟨v1, e2, h⟩ := uu_ob h
  by_cases c3 : v1 = true
  · replace h := uu_pos c3 h
    obtain ⟨v4, e5, h⟩ := uu_ob h
    by_cases c6 : (9 : Int32) ≤ v4
    · replace h := uu_pos c6 h
      obtain ⟨r7, e8, h⟩ := uu_ob h
      refine ((yc_X12_pass  e8).mo (by decide) (fun _ h => nomatch h)).tr ?_
      have hr := Option.some.inj h
      subst hr
      exact agr.rf
    · replace h := uu_neg c6 h
      obtain ⟨r9, e10, h⟩ := uu_ob h
      refine ((yc_X12_digitIn  e10).mo (by decide) (fun _ h => nomatch h)).tr ?_
      have hr := Option.some.inj h
      subst hr
      exact agr.rf
  · replace h := uu_neg c3 h
    by_cases c11 : x2 = 43
    · replace h := uu_pos c11 h
      obtain ⟨v12, e13, h⟩ := uu_ob h
      by_cases c14 : v12 ≤ 0
      · replace h := uu_pos c14 h
        exact yb_X12_countIn_60  h
      · replace h := uu_neg c14 h
        obtain ⟨r15, e16, h⟩ := uu_ob h
        refine ((yc_X12_go  e16).mo (by decide) (fun _ h => nomatch h)).tr ?_
        have hr := Option.some.inj h
        subst hr
        exact agr.rf
    · replace h := uu_neg c11 h
      exact yb_X12_countIn_60  h
set_option maxRecDepth 100000 in
set_option maxHeartbeats 4000000 in
theorem yc_X12_numberIn   {x1 : Int32} {x2 : Int32} {s : uS} {r : (uS × Bool)}  (h : fn_X12_numberIn  x1 x2 s = some r) : agr [11] [] s r.1 := by
  unfold fn_X12_numberIn at h
  obtain ⟨v1, e2, h⟩ := uu_ob h
  by_cases c3 : v1 = true
  · replace h := uu_pos c3 h
    obtain ⟨v4, e5, h⟩ := uu_ob h
    by_cases c6 : (9 : Int32) ≤ v4
    · replace h := uu_pos c6 h
      obtain ⟨r7, e8, h⟩ := uu_ob h
      refine ((yc_X12_pass  e8).mo (by decide) (fun _ h => nomatch h)).tr ?_
      have hr := Option.some.inj h
      subst hr
      exact agr.rf
    · replace h := uu_neg c6 h
      obtain ⟨r9, e10, h⟩ := uu_ob h
      refine ((yc_X12_digitIn  e10).mo (by decide) (fun _ h => nomatch h)).tr ?_
      have hr := Option.some.inj h
      subst hr
      exact agr.rf
  · replace h := uu_neg c3 h
    obtain ⟨v11, e12, h⟩ := uu_ob h
    obtain ⟨v13, e14, h⟩ := uu_ob h
    obtain ⟨s15, e16, h⟩ := uu_ob h
    refine (agr_iput e16 (Or.inl (by decide))).tr ?_
    obtain ⟨v17, e18, h⟩ := uu_ob h
    obtain ⟨s19, e20, h⟩ := uu_ob h
    refine (agr_iput e20 (Or.inl (by decide))).tr ?_
    obtain ⟨r21, e22, h⟩ := uu_ob h
    refine ((yc_X12_behindIn  e22).mo (by decide) (fun _ h => nomatch h)).tr ?_
    have hr := Option.some.inj h
    subst hr
    exact agr.rf
set_option maxRecDepth 100000 in
set_option maxHeartbeats 4000000 in
theorem yc_X12_literalIn   {x1 : Int32} {x2 : Int32} {s : uS} {r : (uS × Bool)}  (h : fn_X12_literalIn  x1 x2 s = some r) : agr [11] [] s r.1 := by
  unfold fn_X12_literalIn at h
  obtain ⟨s1, e2, h⟩ := uu_ob h
  refine ((yc_X12_partByte  e2).mo (by decide) (fun _ h => nomatch h)).tr ?_
  obtain ⟨v3, e4, h⟩ := uu_ob h
  obtain ⟨v5, e6, h⟩ := uu_ob h
  by_cases c7 : v3 = v5
  · replace h := uu_pos c7 h
    obtain ⟨r8, e9, h⟩ := uu_ob h
    refine ((yc_X12_partDone  e9).mo (by decide) (fun _ h => nomatch h)).tr ?_
    have hr := Option.some.inj h
    subst hr
    exact agr.rf
  · replace h := uu_neg c7 h
    have hr := Option.some.inj h
    subst hr
    exact agr.rf
set_option maxRecDepth 100000 in
set_option maxHeartbeats 4000000 in
theorem yc_X12_no   {x1 : Int32} {w2 : List Nat} {s : uS} {r : uS}  (h : fn_X12_no  x1 w2 s = some r) : agr [11] [] s r := by
  unfold fn_X12_no at h
  obtain ⟨s2, e3, h⟩ := uu_ob h
  refine ((yc_X12_tell  e3).mo (by decide) (fun _ h => nomatch h)).tr ?_
  obtain ⟨s4, e5, h⟩ := uu_ob h
  refine ((yc_X12_tell  e5).mo (by decide) (fun _ h => nomatch h)).tr ?_
  obtain ⟨s7, e8, h⟩ := uu_ob h
  refine ((yc_X12_line  e8).mo (by decide) (fun _ h => nomatch h)).tr ?_
  have hr := Option.some.inj h
  subst hr
  exact agr.rf
set_option maxRecDepth 100000 in
set_option maxHeartbeats 4000000 in
theorem yb_X12_source_16  {K16 : Int32 → Int32 → Int32 → uS → Option uS}  (hK16 : ∀ (x1 : Int32) (x2 : Int32) (x3 : Int32)  (s : uS) (r : uS), K16 x1 x2 x3 s = some r → agr [11] [] s r) {x1 : Int32} {x2 : Int32} {x3 : Int32} {s : uS} {r : uS}  (h : fb_X12_source_16  K16 x1 x2 x3 s = some r) : agr [11] [] s r := by
  unfold fb_X12_source_16 at h
  by_cases c1 : (s.I 1079 29) ≤ x3
  · replace h := uu_pos c1 h
    have hr := Option.some.inj h
    subst hr
    exact agr.rf
  · replace h := uu_neg c1 h
    obtain ⟨v2, e3, h⟩ := uu_ob h
    obtain ⟨s4, e5, h⟩ := uu_ob h
    refine (agr_iput e5 (Or.inl (by decide))).tr ?_
    exact hK16 x1 x2 (x3 + 1) _ _ h
set_option maxRecDepth 100000 in
set_option maxHeartbeats 4000000 in
theorem yn_X12_source_16     : ∀ (n : Nat) (x1 : Int32) (x2 : Int32) (x3 : Int32)  (s : uS) (r : uS), fn_X12_source_16   n x1 x2 x3 s = some r → agr [11] [] s r := by
  intro n
  induction n with
  | zero => intro x1 x2 x3  s r h
            cases h
  | succ n ih => intro x1 x2 x3  s r h
                 exact yb_X12_source_16  ih  h
set_option maxRecDepth 100000 in
set_option maxHeartbeats 4000000 in
theorem yc_X12_source   {x1 : Int32} {x2 : Int32} {s : uS} {r : uS}  (h : fn_X12_source  x1 x2 s = some r) : agr [11] [] s r := by
  unfold fn_X12_source at h
  obtain ⟨v1, e2, h⟩ := uu_ob h
  refine (agr_wI (a := 1079) (f := 29) (v := v1) (Or.inl (by decide))).tr ?_
  exact yn_X12_source_16  _ _ _ _ _ _ h
set_option maxRecDepth 100000 in
set_option maxHeartbeats 4000000 in
theorem yb_X12_sayNumber_7  {K7 : Int32 → Int32 → uS → Option uS}  (hK7 : ∀ (x1 : Int32) (x3 : Int32)  (s : uS) (r : uS), K7 x1 x3 s = some r → agr [11] [] s r) {x1 : Int32} {x3 : Int32} {s : uS} {r : uS}  (h : fb_X12_sayNumber_7  K7 x1 x3 s = some r) : agr [11] [] s r := by
  unfold fb_X12_sayNumber_7 at h
  by_cases c1 : (s.I 1079 21) ≤ x3
  · replace h := uu_pos c1 h
    have hr := Option.some.inj h
    subst hr
    exact agr.rf
  · replace h := uu_neg c1 h
    obtain ⟨v2, e3, h⟩ := uu_ob h
    obtain ⟨s4, e5, h⟩ := uu_ob h
    refine ((yc_X12_say  e5).mo (by decide) (fun _ h => nomatch h)).tr ?_
    exact hK7 x1 (x3 + 1) _ _ h
set_option maxRecDepth 100000 in
set_option maxHeartbeats 4000000 in
theorem yn_X12_sayNumber_7     : ∀ (n : Nat) (x1 : Int32) (x3 : Int32)  (s : uS) (r : uS), fn_X12_sayNumber_7   n x1 x3 s = some r → agr [11] [] s r := by
  intro n
  induction n with
  | zero => intro x1 x3  s r h
            cases h
  | succ n ih => intro x1 x3  s r h
                 exact yb_X12_sayNumber_7  ih  h
set_option maxRecDepth 100000 in
set_option maxHeartbeats 4000000 in
theorem yc_X12_sayNumber   {x1 : Int32} {x2 : Int32} {s : uS} {r : uS}  (h : fn_X12_sayNumber  x1 x2 s = some r) : agr [11] [] s r := by
  unfold fn_X12_sayNumber at h
  obtain ⟨s1, e2, h⟩ := uu_ob h
  refine ((yc_X12_oneNumber  e2).mo (by decide) (fun _ h => nomatch h)).tr ?_
  exact yn_X12_sayNumber_7  _ _ _ _ _ h
set_option maxRecDepth 100000 in
set_option maxHeartbeats 4000000 in
theorem yb_X12_setActive_79     {x1 : Int32} {xs0 : Int32} {xs1 : Int32} {s : uS} {r : (uS × Bool)}  (h : fb_X12_setActive_79   x1 xs0 xs1 s = some r) : agr [11] [] s r.1 := by
  unfold fb_X12_setActive_79 at h
  obtain ⟨s1, e2, h⟩ := uu_ob h
  refine (agr_iput e2 (Or.inl (by decide))).tr ?_
  obtain ⟨s4, e5, h⟩ := uu_ob h
  refine ((yc_X12_line  e5).mo (by decide) (fun _ h => nomatch h)).tr ?_
  have hr := Option.some.inj h
  subst hr
  exact agr.rf
set_option maxRecDepth 100000 in
set_option maxHeartbeats 4000000 in
theorem yb_X12_setActive_47     {x1 : Int32} {x2 : Int32} {s : uS} {r : (uS × Bool)}  (h : fb_X12_setActive_47   x1 x2 s = some r) : agr [11] [] s r.1 := by
  unfold fb_X12_setActive_47 at h
  obtain ⟨r1, e2, h⟩ := uu_ob h
  refine ((yc_X12_commit  e2).mo (by decide) (fun _ h => nomatch h)).tr ?_
  by_cases c3 : r1.2 = true
  · replace h := uu_pos c3 h
    by_cases c4 : 0 ≤ x2
    · replace h := uu_pos c4 h
      obtain ⟨v5, e6, h⟩ := uu_ob h
      exact yb_X12_setActive_79  h
    · replace h := uu_neg c4 h
      exact yb_X12_setActive_79  h
  · replace h := uu_neg c3 h
    have hr := Option.some.inj h
    subst hr
    exact agr.rf
set_option maxRecDepth 100000 in
set_option maxHeartbeats 4000000 in
theorem yb_X12_setActive_21     {x1 : Int32} {xs0 : Int32} {s : uS} {r : (uS × Bool)}  (h : fb_X12_setActive_21   x1 xs0 s = some r) : agr [11] [] s r.1 := by
  unfold fb_X12_setActive_21 at h
  by_cases c1 : 0 ≤ xs0
  · replace h := uu_pos c1 h
    exact yb_X12_setActive_47  h
  · replace h := uu_neg c1 h
    obtain ⟨v2, e3, h⟩ := uu_ob h
    by_cases c4 : v2 ≤ 0
    · replace h := uu_pos c4 h
      exact yb_X12_setActive_47  h
    · replace h := uu_neg c4 h
      obtain ⟨s6, e7, h⟩ := uu_ob h
      refine ((yc_X12_no  e7).mo (by decide) (fun _ h => nomatch h)).tr ?_
      have hr := Option.some.inj h
      subst hr
      exact agr.rf
set_option maxRecDepth 100000 in
set_option maxHeartbeats 4000000 in
theorem yc_X12_setActive   {x1 : Int32} {s : uS} {r : (uS × Bool)}  (h : fn_X12_setActive  x1 s = some r) : agr [11] [] s r.1 := by
  unfold fn_X12_setActive at h
  obtain ⟨v1, e2, h⟩ := uu_ob h
  by_cases c3 : v1 = 0
  · replace h := uu_pos c3 h
    exact yb_X12_setActive_21  h
  · replace h := uu_neg c3 h
    obtain ⟨v4, e5, h⟩ := uu_ob h
    exact yb_X12_setActive_21  h
set_option maxRecDepth 100000 in
set_option maxHeartbeats 4000000 in
theorem yb_X12_getScript_61  {K61 : Int32 → Int32 → uS → Option (uS × Bool)}  (hK61 : ∀ (x1 : Int32) (x3 : Int32)  (s : uS) (r : (uS × Bool)), K61 x1 x3 s = some r → agr [11] [] s r.1) {x1 : Int32} {x3 : Int32} {s : uS} {r : (uS × Bool)}  (h : fb_X12_getScript_61  K61 x1 x3 s = some r) : agr [11] [] s r.1 := by
  unfold fb_X12_getScript_61 at h
  by_cases c1 : (s.I 1079 29) ≤ x3
  · replace h := uu_pos c1 h
    obtain ⟨s3, e4, h⟩ := uu_ob h
    refine ((yc_X12_line  e4).mo (by decide) (fun _ h => nomatch h)).tr ?_
    obtain ⟨s6, e7, h⟩ := uu_ob h
    refine ((yc_X12_line  e7).mo (by decide) (fun _ h => nomatch h)).tr ?_
    have hr := Option.some.inj h
    subst hr
    exact agr.rf
  · replace h := uu_neg c1 h
    obtain ⟨v8, e9, h⟩ := uu_ob h
    obtain ⟨s10, e11, h⟩ := uu_ob h
    refine ((yc_X12_say  e11).mo (by decide) (fun _ h => nomatch h)).tr ?_
    exact hK61 x1 (x3 + 1) _ _ h
set_option maxRecDepth 100000 in
set_option maxHeartbeats 4000000 in
theorem yn_X12_getScript_61     : ∀ (n : Nat) (x1 : Int32) (x3 : Int32)  (s : uS) (r : (uS × Bool)), fn_X12_getScript_61   n x1 x3 s = some r → agr [11] [] s r.1 := by
  intro n
  induction n with
  | zero => intro x1 x3  s r h
            cases h
  | succ n ih => intro x1 x3  s r h
                 exact yb_X12_getScript_61  ih  h
set_option maxRecDepth 100000 in
set_option maxHeartbeats 4000000 in
theorem yc_X12_getScript   {x1 : Int32} {s : uS} {r : (uS × Bool)}  (h : fn_X12_getScript  x1 s = some r) : agr [11] [] s r.1 := by
  unfold fn_X12_getScript at h
  obtain ⟨v1, e2, h⟩ := uu_ob h
  by_cases c3 : 0 ≤ v1
  · replace h := uu_pos c3 h
    obtain ⟨v4, e5, h⟩ := uu_ob h
    obtain ⟨s6, e7, h⟩ := uu_ob h
    refine ((yc_X12_loadScript  e7).mo (by decide) (fun _ h => nomatch h)).tr ?_
    obtain ⟨s8, e9, h⟩ := uu_ob h
    refine ((yc_X12_say  e9).mo (by decide) (fun _ h => nomatch h)).tr ?_
    obtain ⟨s10, e11, h⟩ := uu_ob h
    refine ((yc_X12_sayNumber  e11).mo (by decide) (fun _ h => nomatch h)).tr ?_
    obtain ⟨s13, e14, h⟩ := uu_ob h
    refine ((yc_X12_line  e14).mo (by decide) (fun _ h => nomatch h)).tr ?_
    exact yn_X12_getScript_61  _ _ _ _ _ h
  · replace h := uu_neg c3 h
    obtain ⟨s16, e17, h⟩ := uu_ob h
    refine ((yc_X12_no  e17).mo (by decide) (fun _ h => nomatch h)).tr ?_
    have hr := Option.some.inj h
    subst hr
    exact agr.rf
set_option maxRecDepth 100000 in
set_option maxHeartbeats 4000000 in
theorem yb_X12_listScripts_113  {K2 : Int32 → Int32 → uS → Option (uS × Bool)}  (hK2 : ∀ (x1 : Int32) (x2 : Int32)  (s : uS) (r : (uS × Bool)), K2 x1 x2 s = some r → agr [11] [] s r.1) {x1 : Int32} {x2 : Int32} {ws0 : List Nat} {xs1 : Int32} {s : uS} {r : (uS × Bool)}  (h : fb_X12_listScripts_113  K2 x1 x2 ws0 xs1 s = some r) : agr [11] [] s r.1 := by
  unfold fb_X12_listScripts_113 at h
  obtain ⟨s1, e2, h⟩ := uu_ob h
  refine ((yc_X12_line  e2).mo (by decide) (fun _ h => nomatch h)).tr ?_
  exact hK2 x1 (x2 + 1) _ _ h
set_option maxRecDepth 100000 in
set_option maxHeartbeats 4000000 in
theorem yb_X12_listScripts_79  {K2 : Int32 → Int32 → uS → Option (uS × Bool)} {K33 : Int32 → Int32 → Int32 → Int32 → uS → Option (uS × Bool)}  (hK2 : ∀ (x1 : Int32) (x2 : Int32)  (s : uS) (r : (uS × Bool)), K2 x1 x2 s = some r → agr [11] [] s r.1) (hK33 : ∀ (x1 : Int32) (x2 : Int32) (x3 : Int32) (x4 : Int32)  (s : uS) (r : (uS × Bool)), K33 x1 x2 x3 x4 s = some r → agr [11] [] s r.1) {x1 : Int32} {x2 : Int32} {x3 : Int32} {x4 : Int32} {x5 : Int32} {s : uS} {r : (uS × Bool)}  (h : fb_X12_listScripts_79  K2 K33 x1 x2 x3 x4 x5 s = some r) : agr [11] [] s r.1 := by
  unfold fb_X12_listScripts_79 at h
  obtain ⟨s1, e2, h⟩ := uu_ob h
  refine ((yc_X12_say  e2).mo (by decide) (fun _ h => nomatch h)).tr ?_
  exact hK33 x1 x2 x3 (x4 + 1) _ _ h
set_option maxRecDepth 100000 in
set_option maxHeartbeats 4000000 in
theorem yb_X12_listScripts_72  {K2 : Int32 → Int32 → uS → Option (uS × Bool)} {K33 : Int32 → Int32 → Int32 → Int32 → uS → Option (uS × Bool)}  (hK2 : ∀ (x1 : Int32) (x2 : Int32)  (s : uS) (r : (uS × Bool)), K2 x1 x2 s = some r → agr [11] [] s r.1) (hK33 : ∀ (x1 : Int32) (x2 : Int32) (x3 : Int32) (x4 : Int32)  (s : uS) (r : (uS × Bool)), K33 x1 x2 x3 x4 s = some r → agr [11] [] s r.1) {x1 : Int32} {x2 : Int32} {x3 : Int32} {x4 : Int32} {x5 : Int32} {s : uS} {r : (uS × Bool)}  (h : fb_X12_listScripts_72  K2 K33 x1 x2 x3 x4 x5 s = some r) : agr [11] [] s r.1 := by
  unfold fb_X12_listScripts_72 at h
  obtain ⟨s1, e2, h⟩ := uu_ob h
  refine ((yc_X12_say  e2).mo (by decide) (fun _ h => nomatch h)).tr ?_
  exact yb_X12_listScripts_79 hK2 hK33 h
set_option maxRecDepth 100000 in
set_option maxHeartbeats 4000000 in
theorem yb_X12_listScripts_33  {K2 : Int32 → Int32 → uS → Option (uS × Bool)} {K33 : Int32 → Int32 → Int32 → Int32 → uS → Option (uS × Bool)}  (hK2 : ∀ (x1 : Int32) (x2 : Int32)  (s : uS) (r : (uS × Bool)), K2 x1 x2 s = some r → agr [11] [] s r.1) (hK33 : ∀ (x1 : Int32) (x2 : Int32) (x3 : Int32) (x4 : Int32)  (s : uS) (r : (uS × Bool)), K33 x1 x2 x3 x4 s = some r → agr [11] [] s r.1) {x1 : Int32} {x2 : Int32} {x3 : Int32} {x4 : Int32} {s : uS} {r : (uS × Bool)}  (h : fb_X12_listScripts_33  K2 K33 x1 x2 x3 x4 s = some r) : agr [11] [] s r.1 := by
  unfold fb_X12_listScripts_33 at h
  obtain ⟨v1, e2, h⟩ := uu_ob h
  by_cases c3 : v1 ≤ x4
  · replace h := uu_pos c3 h
    obtain ⟨v4, e5, h⟩ := uu_ob h
    by_cases c6 : v4 = x3
    · replace h := uu_pos c6 h
      exact yb_X12_listScripts_113 hK2 h
    · replace h := uu_neg c6 h
      exact yb_X12_listScripts_113 hK2 h
  · replace h := uu_neg c3 h
    obtain ⟨v9, e10, h⟩ := uu_ob h
    by_cases c11 : v9 = 34
    · replace h := uu_pos c11 h
      exact yb_X12_listScripts_72 hK2 hK33 h
    · replace h := uu_neg c11 h
      by_cases c12 : v9 = 92
      · replace h := uu_pos c12 h
        exact yb_X12_listScripts_72 hK2 hK33 h
      · replace h := uu_neg c12 h
        exact yb_X12_listScripts_79 hK2 hK33 h
set_option maxRecDepth 100000 in
set_option maxHeartbeats 4000000 in
theorem yn_X12_listScripts_33  {K2 : Int32 → Int32 → uS → Option (uS × Bool)}  (hK2 : ∀ (x1 : Int32) (x2 : Int32)  (s : uS) (r : (uS × Bool)), K2 x1 x2 s = some r → agr [11] [] s r.1) : ∀ (n : Nat) (x1 : Int32) (x2 : Int32) (x3 : Int32) (x4 : Int32)  (s : uS) (r : (uS × Bool)), fn_X12_listScripts_33  K2 n x1 x2 x3 x4 s = some r → agr [11] [] s r.1 := by
  intro n
  induction n with
  | zero => intro x1 x2 x3 x4  s r h
            cases h
  | succ n ih => intro x1 x2 x3 x4  s r h
                 exact yb_X12_listScripts_33  hK2 ih  h
set_option maxRecDepth 100000 in
set_option maxHeartbeats 4000000 in
theorem yb_X12_listScripts_2  {K2 : Int32 → Int32 → uS → Option (uS × Bool)}  (hK2 : ∀ (x1 : Int32) (x2 : Int32)  (s : uS) (r : (uS × Bool)), K2 x1 x2 s = some r → agr [11] [] s r.1) {x1 : Int32} {x2 : Int32} {s : uS} {r : (uS × Bool)}  (h : fb_X12_listScripts_2  K2 x1 x2 s = some r) : agr [11] [] s r.1 := by
  unfold fb_X12_listScripts_2 at h
  obtain ⟨v1, e2, h⟩ := uu_ob h
  by_cases c3 : v1 ≤ x2
  · replace h := uu_pos c3 h
    obtain ⟨s5, e6, h⟩ := uu_ob h
    refine ((yc_X12_line  e6).mo (by decide) (fun _ h => nomatch h)).tr ?_
    have hr := Option.some.inj h
    subst hr
    exact agr.rf
  · replace h := uu_neg c3 h
    obtain ⟨v7, e8, h⟩ := uu_ob h
    obtain ⟨s9, e10, h⟩ := uu_ob h
    refine ((yc_X12_say  e10).mo (by decide) (fun _ h => nomatch h)).tr ?_
    exact yn_X12_listScripts_33 hK2 _ _ _ _ _ _ _ h
set_option maxRecDepth 100000 in
set_option maxHeartbeats 4000000 in
theorem yn_X12_listScripts_2     : ∀ (n : Nat) (x1 : Int32) (x2 : Int32)  (s : uS) (r : (uS × Bool)), fn_X12_listScripts_2   n x1 x2 s = some r → agr [11] [] s r.1 := by
  intro n
  induction n with
  | zero => intro x1 x2  s r h
            cases h
  | succ n ih => intro x1 x2  s r h
                 exact yb_X12_listScripts_2  ih  h
set_option maxRecDepth 100000 in
set_option maxHeartbeats 4000000 in
theorem yc_X12_listScripts   {x1 : Int32} {s : uS} {r : (uS × Bool)}  (h : fn_X12_listScripts  x1 s = some r) : agr [11] [] s r.1 := by
  unfold fn_X12_listScripts at h
  exact yn_X12_listScripts_2  _ _ _ _ _ h
set_option maxRecDepth 100000 in
set_option maxHeartbeats 4000000 in
theorem yb_X12_deleteScript_59     {ws0 : List Nat} {xs1 : Int32} {s : uS} {r : (uS × Bool)}  (h : fb_X12_deleteScript_59   ws0 xs1 s = some r) : agr [11] [] s r.1 := by
  unfold fb_X12_deleteScript_59 at h
  obtain ⟨s1, e2, h⟩ := uu_ob h
  refine ((yc_X12_no  e2).mo (by decide) (fun _ h => nomatch h)).tr ?_
  have hr := Option.some.inj h
  subst hr
  exact agr.rf
set_option maxRecDepth 100000 in
set_option maxHeartbeats 4000000 in
theorem yb_X12_deleteScript_44     {x1 : Int32} {b3 : Bool} {s : uS} {r : (uS × Bool)}  (h : fb_X12_deleteScript_44   x1 b3 s = some r) : agr [11] [] s r.1 := by
  unfold fb_X12_deleteScript_44 at h
  by_cases c1 : b3 = true
  · replace h := uu_pos c1 h
    exact yb_X12_deleteScript_59  h
  · replace h := uu_neg c1 h
    exact yb_X12_deleteScript_59  h
set_option maxRecDepth 100000 in
set_option maxHeartbeats 4000000 in
theorem yb_X12_deleteScript_90  {K90 : Int32 → Int32 → uS → Option (uS × Bool)}  (hK90 : ∀ (x1 : Int32) (x4 : Int32)  (s : uS) (r : (uS × Bool)), K90 x1 x4 s = some r → agr [11] [] s r.1) {x1 : Int32} {x4 : Int32} {s : uS} {r : (uS × Bool)}  (h : fb_X12_deleteScript_90  K90 x1 x4 s = some r) : agr [11] [] s r.1 := by
  unfold fb_X12_deleteScript_90 at h
  obtain ⟨v1, e2, h⟩ := uu_ob h
  by_cases c3 : v1 ≤ x4
  · replace h := uu_pos c3 h
    obtain ⟨s5, e6, h⟩ := uu_ob h
    refine ((yc_X12_line  e6).mo (by decide) (fun _ h => nomatch h)).tr ?_
    have hr := Option.some.inj h
    subst hr
    exact agr.rf
  · replace h := uu_neg c3 h
    obtain ⟨v7, e8, h⟩ := uu_ob h
    obtain ⟨s9, e10, h⟩ := uu_ob h
    refine (agr_iput e10 (Or.inl (by decide))).tr ?_
    exact hK90 x1 (x4 + 1) _ _ h
set_option maxRecDepth 100000 in
set_option maxHeartbeats 4000000 in
theorem yn_X12_deleteScript_90     : ∀ (n : Nat) (x1 : Int32) (x4 : Int32)  (s : uS) (r : (uS × Bool)), fn_X12_deleteScript_90   n x1 x4 s = some r → agr [11] [] s r.1 := by
  intro n
  induction n with
  | zero => intro x1 x4  s r h
            cases h
  | succ n ih => intro x1 x4  s r h
                 exact yb_X12_deleteScript_90  ih  h
set_option maxRecDepth 100000 in
set_option maxHeartbeats 4000000 in
theorem yb_X12_deleteScript_35     {x1 : Int32} {x2 : Int32} {bs0 : Bool} {s : uS} {r : (uS × Bool)}  (h : fb_X12_deleteScript_35   x1 x2 bs0 s = some r) : agr [11] [] s r.1 := by
  unfold fb_X12_deleteScript_35 at h
  by_cases c1 : x2 < 0
  · replace h := uu_pos c1 h
    exact yb_X12_deleteScript_44  h
  · replace h := uu_neg c1 h
    by_cases c2 : bs0 = true
    · replace h := uu_pos c2 h
      exact yb_X12_deleteScript_44  h
    · replace h := uu_neg c2 h
      obtain ⟨r3, e4, h⟩ := uu_ob h
      refine ((yc_X12_commit  e4).mo (by decide) (fun _ h => nomatch h)).tr ?_
      by_cases c5 : r3.2 = true
      · replace h := uu_pos c5 h
        obtain ⟨v6, e7, h⟩ := uu_ob h
        obtain ⟨s8, e9, h⟩ := uu_ob h
        refine (agr_iput e9 (Or.inl (by decide))).tr ?_
        exact yn_X12_deleteScript_90  _ _ _ _ _ h
      · replace h := uu_neg c5 h
        have hr := Option.some.inj h
        subst hr
        exact agr.rf
set_option maxRecDepth 100000 in
set_option maxHeartbeats 4000000 in
theorem yc_X12_deleteScript   {x1 : Int32} {s : uS} {r : (uS × Bool)}  (h : fn_X12_deleteScript  x1 s = some r) : agr [11] [] s r.1 := by
  unfold fn_X12_deleteScript at h
  obtain ⟨v1, e2, h⟩ := uu_ob h
  by_cases c3 : v1 < 0
  · replace h := uu_pos c3 h
    exact yb_X12_deleteScript_35  h
  · replace h := uu_neg c3 h
    obtain ⟨v4, e5, h⟩ := uu_ob h
    obtain ⟨v6, e7, h⟩ := uu_ob h
    by_cases c8 : v4 = v6
    · replace h := uu_pos c8 h
      exact yb_X12_deleteScript_35  h
    · replace h := uu_neg c8 h
      exact yb_X12_deleteScript_35  h
set_option maxRecDepth 100000 in
set_option maxHeartbeats 4000000 in
theorem yb_X12_renameScript_37     {ws0 : List Nat} {xs1 : Int32} {s : uS} {r : (uS × Bool)}  (h : fb_X12_renameScript_37   ws0 xs1 s = some r) : agr [11] [] s r.1 := by
  unfold fb_X12_renameScript_37 at h
  obtain ⟨s1, e2, h⟩ := uu_ob h
  refine ((yc_X12_no  e2).mo (by decide) (fun _ h => nomatch h)).tr ?_
  have hr := Option.some.inj h
  subst hr
  exact agr.rf
set_option maxRecDepth 100000 in
set_option maxHeartbeats 4000000 in
theorem yb_X12_renameScript_22     {x1 : Int32} {x2 : Int32} {s : uS} {r : (uS × Bool)}  (h : fb_X12_renameScript_22   x1 x2 s = some r) : agr [11] [] s r.1 := by
  unfold fb_X12_renameScript_22 at h
  by_cases c1 : 0 ≤ x2
  · replace h := uu_pos c1 h
    exact yb_X12_renameScript_37  h
  · replace h := uu_neg c1 h
    exact yb_X12_renameScript_37  h
set_option maxRecDepth 100000 in
set_option maxHeartbeats 4000000 in
theorem yc_X12_renameScript   {x1 : Int32} {s : uS} {r : (uS × Bool)}  (h : fn_X12_renameScript  x1 s = some r) : agr [11] [] s r.1 := by
  unfold fn_X12_renameScript at h
  obtain ⟨v1, e2, h⟩ := uu_ob h
  obtain ⟨v3, e4, h⟩ := uu_ob h
  by_cases c5 : v1 < 0
  · replace h := uu_pos c5 h
    exact yb_X12_renameScript_22  h
  · replace h := uu_neg c5 h
    by_cases c6 : v3 < 0
    · replace h := uu_pos c6 h
      obtain ⟨r7, e8, h⟩ := uu_ob h
      refine ((yc_X12_commit  e8).mo (by decide) (fun _ h => nomatch h)).tr ?_
      by_cases c9 : r7.2 = true
      · replace h := uu_pos c9 h
        obtain ⟨v10, e11, h⟩ := uu_ob h
        obtain ⟨s12, e13, h⟩ := uu_ob h
        refine ((yc_X12_nameScript  e13).mo (by decide) (fun _ h => nomatch h)).tr ?_
        obtain ⟨s15, e16, h⟩ := uu_ob h
        refine ((yc_X12_line  e16).mo (by decide) (fun _ h => nomatch h)).tr ?_
        have hr := Option.some.inj h
        subst hr
        exact agr.rf
      · replace h := uu_neg c9 h
        have hr := Option.some.inj h
        subst hr
        exact agr.rf
    · replace h := uu_neg c6 h
      exact yb_X12_renameScript_22  h
set_option maxRecDepth 100000 in
set_option maxHeartbeats 4000000 in
theorem yc_X12_tick    {s : uS} {r : (uS × Int32)}  (h : fn_X12_tick   s = some r) : agr [11] [] s r.1 := by
  unfold fn_X12_tick at h
  by_cases c1 : (s.I 1079 0) = 0
  · replace h := uu_pos c1 h
    have hr := Option.some.inj h
    subst hr
    exact agr.rf
  · replace h := uu_neg c1 h
    obtain ⟨r2, e3, h⟩ := uu_ob h
    refine ((yc_X12_commit  e3).mo (by decide) (fun _ h => nomatch h)).tr ?_
    by_cases c4 : r2.2 = true
    · replace h := uu_pos c4 h
      refine (agr_wI (a := 1079) (f := 1) (v := (r2.1.I 1079 1) + 1) (Or.inl (by decide))).tr ?_
      have hr := Option.some.inj h
      subst hr
      exact agr.rf
    · replace h := uu_neg c4 h
      have hr := Option.some.inj h
      subst hr
      exact agr.rf
set_option maxRecDepth 100000 in
set_option maxHeartbeats 4000000 in
theorem yc_X12_cut   {x1 : Int32} {s : uS} {r : (uS × Bool)}  (h : fn_X12_cut  x1 s = some r) : agr [11] [] s r.1 := by
  unfold fn_X12_cut at h
  by_cases c1 : x1 < 0
  · replace h := uu_pos c1 h
    have hr := Option.some.inj h
    subst hr
    exact agr.rf
  · replace h := uu_neg c1 h
    by_cases c2 : x1 ≤ 1000
    · replace h := uu_pos c2 h
      refine (agr_wI (a := 1079) (f := 3) (v := x1) (Or.inl (by decide))).tr ?_
      have hr := Option.some.inj h
      subst hr
      exact agr.rf
    · replace h := uu_neg c2 h
      have hr := Option.some.inj h
      subst hr
      exact agr.rf
set_option maxRecDepth 100000 in
set_option maxHeartbeats 4000000 in
theorem yc_X12_start    {s : uS} {r : (uS × Int32)}  (h : fn_X12_start   s = some r) : agr [11] [] s r.1 := by
  unfold fn_X12_start at h
  by_cases c1 : (s.I 1079 0) = 0
  · replace h := uu_pos c1 h
    refine (agr_wI (a := 1079) (f := 0) (v := 1) (Or.inl (by decide))).tr ?_
    have hr := Option.some.inj h
    subst hr
    exact agr.rf
  · replace h := uu_neg c1 h
    have hr := Option.some.inj h
    subst hr
    exact agr.rf
set_option maxRecDepth 100000 in
set_option maxHeartbeats 4000000 in
theorem yb_J7_fill_53178_5  {K5 : Nat → Int32 → Int32 → Int32 → uS → Option uS}  (hK5 : ∀ (k0 : Nat) (x1 : Int32) (x2 : Int32) (x3 : Int32)  (s : uS) (r : uS), K5 k0 x1 x2 x3 s = some r → agr [] [k0] s r) {k0 : Nat} {x1 : Int32} {x2 : Int32} {x3 : Int32} {s : uS} {r : uS}  (h : fb_J7_fill_53178_5  K5 k0 x1 x2 x3 s = some r) : agr [] [k0] s r := by
  unfold fb_J7_fill_53178_5 at h
  by_cases c1 : x3 ≤ x2
  · replace h := uu_pos c1 h
    have hr := Option.some.inj h
    subst hr
    exact agr.rf
  · replace h := uu_neg c1 h
    obtain ⟨s2, e3, h⟩ := uu_ob h
    refine (agr_iput e3 (Or.inr (List.mem_of_getElem? (i := 0) rfl))).tr ?_
    exact hK5 k0 x1 (x2 + 1) x3 _ _ h
set_option maxRecDepth 100000 in
set_option maxHeartbeats 4000000 in
theorem yn_J7_fill_53178_5     : ∀ (n : Nat) (k0 : Nat) (x1 : Int32) (x2 : Int32) (x3 : Int32)  (s : uS) (r : uS), fn_J7_fill_53178_5   n k0 x1 x2 x3 s = some r → agr [] [k0] s r := by
  intro n
  induction n with
  | zero => intro k0 x1 x2 x3  s r h
            cases h
  | succ n ih => intro k0 x1 x2 x3  s r h
                 exact yb_J7_fill_53178_5  ih  h
set_option maxRecDepth 100000 in
set_option maxHeartbeats 4000000 in
theorem yc_J7_fill_53178   {k0 : Nat} {x1 : Int32} {s : uS} {r : uS}  (h : fn_J7_fill_53178  k0 x1 s = some r) : agr [] [k0] s r := by
  unfold fn_J7_fill_53178 at h
  obtain ⟨v1, e2, h⟩ := uu_ob h
  exact yn_J7_fill_53178_5  _ _ _ _ _ _ _ h
set_option maxRecDepth 100000 in
set_option maxHeartbeats 4000000 in
theorem yc_J7_checkLength_df160   {x0 : Int32} {x1 : Int32} {s : uS} {r : uS}  (h : fn_J7_checkLength_df160  x0 x1 s = some r) : agr [] [] s r := by
  unfold fn_J7_checkLength_df160 at h
  by_cases c1 : x0 ≤ x1
  · replace h := uu_pos c1 h
    have hr := Option.some.inj h
    subst hr
    exact agr.rf
  · replace h := uu_neg c1 h
    cases h
set_option maxRecDepth 100000 in
set_option maxHeartbeats 4000000 in
theorem yc_X1_init   {k0 : Nat} {k1 : Nat} {k2 : Nat} {s : uS} {r : uS}  (h : fn_X1_init  k0 k1 k2 s = some r) : agr [12] [] s r := by
  unfold fn_X1_init at h
  obtain ⟨g1, h⟩ := uu_grd h
  refine (agr_wI (a := k0) (f := 2) (v := -1) (Or.inl (by rw [rg_e g1]; decide))).tr ?_
  obtain ⟨g2, h⟩ := uu_grd h
  refine (agr_wR (a := k0) (f := 0) (v := some k1) (Or.inl (by rw [rg_e g2]; decide))).tr ?_
  obtain ⟨g3, h⟩ := uu_grd h
  refine (agr_wR (a := k0) (f := 1) (v := (some k2)) (Or.inl (by rw [rg_e g3]; decide))).tr ?_
  have hr := Option.some.inj h
  subst hr
  exact agr.rf
set_option maxRecDepth 100000 in
set_option maxHeartbeats 4000000 in
theorem yc_X9_putRange   {k0 : Nat} {k1 : Nat} {x2 : Int32} {x3 : Int32} {s : uS} {r : uS} (hk0 : uSo k0 9) (h : fn_X9_putRange  k0 k1 x2 x3 s = some r) : agr [] [k0 + 1, k0] s r := by
  unfold fn_X9_putRange at h
  obtain ⟨v1, e2, h⟩ := uu_ob h
  obtain ⟨v3, e4, h⟩ := uu_ob h
  by_cases c5 : x2 < 0
  · replace h := uu_pos c5 h
    have hr := Option.some.inj h
    subst hr
    exact agr.rf
  · replace h := uu_neg c5 h
    by_cases c6 : (if (v3 - (s.I k0 5)) < ((if v1 < x3 then v1 else x3) - x2) then (v3 - (s.I k0 5)) else ((if v1 < x3 then v1 else x3) - x2)) ≤ 0
    · replace h := uu_pos c6 h
      have hr := Option.some.inj h
      subst hr
      exact agr.rf
    · replace h := uu_neg c6 h
      obtain ⟨s7, e8, h⟩ := uu_ob h
      refine (agr_acpy e8 (Or.inr (List.mem_of_getElem? (i := 0) rfl))).tr ?_
      refine (agr_wI (a := k0) (f := 5) (v := (s7.I k0 5) + (if (v3 - (s.I k0 5)) < ((if v1 < x3 then v1 else x3) - x2) then (v3 - (s.I k0 5)) else ((if v1 < x3 then v1 else x3) - x2))) (Or.inr (List.mem_of_getElem? (i := 1) rfl))).tr ?_
      have hr := Option.some.inj h
      subst hr
      exact agr.rf
set_option maxRecDepth 100000 in
set_option maxHeartbeats 4000000 in
theorem yc_X0_answerRcpt   {x1 : Int32} {s : uS} {r : uS}  (h : fn_X0_answerRcpt  x1 s = some r) : agr [5, 8] [] s r := by
  unfold fn_X0_answerRcpt at h
  obtain ⟨v2, e3, h⟩ := uu_ob h
  obtain ⟨v4, e5, h⟩ := uu_ob h
  by_cases c6 : v4 = x1
  · replace h := uu_pos c6 h
    by_cases c7 : (s.I 1043 3) = 0
    · replace h := uu_pos c7 h
      obtain ⟨s9, e10, h⟩ := uu_ob h
      refine ((yc_X5_line so_1040 e10).mo (by decide) (List.forall_mem_cons.mpr ⟨(Or.inl (by decide)), List.forall_mem_cons.mpr ⟨(Or.inl (by decide)), fun _ h => nomatch h⟩⟩)).tr ?_
      have hr := Option.some.inj h
      subst hr
      exact agr.rf
    · replace h := uu_neg c7 h
      obtain ⟨v12, e13, h⟩ := uu_ob h
      by_cases c14 : 0 ≤ v12
      · replace h := uu_pos c14 h
        by_cases c15 : (s.I 1047 3) = 4
        · replace h := uu_pos c15 h
          obtain ⟨s17, e18, h⟩ := uu_ob h
          refine ((yc_X5_line so_1040 e18).mo (by decide) (List.forall_mem_cons.mpr ⟨(Or.inl (by decide)), List.forall_mem_cons.mpr ⟨(Or.inl (by decide)), fun _ h => nomatch h⟩⟩)).tr ?_
          have hr := Option.some.inj h
          subst hr
          exact agr.rf
        · replace h := uu_neg c15 h
          obtain ⟨s19, e20, h⟩ := uu_ob h
          refine ((yc_X9_putRange so_1047 e20).mo (by decide) (List.forall_mem_cons.mpr ⟨(Or.inl (by decide)), List.forall_mem_cons.mpr ⟨(Or.inl (by decide)), fun _ h => nomatch h⟩⟩)).tr ?_
          obtain ⟨s21, e22, h⟩ := uu_ob h
          refine ((yc_X9_close so_1047 e22).mo (by decide) (List.forall_mem_cons.mpr ⟨(Or.inl (by decide)), List.forall_mem_cons.mpr ⟨(Or.inl (by decide)), List.forall_mem_cons.mpr ⟨(Or.inl (by decide)), fun _ h => nomatch h⟩⟩⟩)).tr ?_
          obtain ⟨s24, e25, h⟩ := uu_ob h
          refine ((yc_X5_line so_1040 e25).mo (by decide) (List.forall_mem_cons.mpr ⟨(Or.inl (by decide)), List.forall_mem_cons.mpr ⟨(Or.inl (by decide)), fun _ h => nomatch h⟩⟩)).tr ?_
          have hr := Option.some.inj h
          subst hr
          exact agr.rf
      · replace h := uu_neg c14 h
        obtain ⟨s27, e28, h⟩ := uu_ob h
        refine ((yc_X5_line so_1040 e28).mo (by decide) (List.forall_mem_cons.mpr ⟨(Or.inl (by decide)), List.forall_mem_cons.mpr ⟨(Or.inl (by decide)), fun _ h => nomatch h⟩⟩)).tr ?_
        have hr := Option.some.inj h
        subst hr
        exact agr.rf
  · replace h := uu_neg c6 h
    obtain ⟨s30, e31, h⟩ := uu_ob h
    refine ((yc_X5_line so_1040 e31).mo (by decide) (List.forall_mem_cons.mpr ⟨(Or.inl (by decide)), List.forall_mem_cons.mpr ⟨(Or.inl (by decide)), fun _ h => nomatch h⟩⟩)).tr ?_
    have hr := Option.some.inj h
    subst hr
    exact agr.rf
set_option maxRecDepth 100000 in
set_option maxHeartbeats 4000000 in
theorem yb_X0_answerMail_29      {s : uS} {r : uS}  (h : fb_X0_answerMail_29    s = some r) : agr [5, 8] [] s r := by
  unfold fb_X0_answerMail_29 at h
  obtain ⟨s2, e3, h⟩ := uu_ob h
  refine ((yc_X5_line so_1040 e3).mo (by decide) (List.forall_mem_cons.mpr ⟨(Or.inl (by decide)), List.forall_mem_cons.mpr ⟨(Or.inl (by decide)), fun _ h => nomatch h⟩⟩)).tr ?_
  have hr := Option.some.inj h
  subst hr
  exact agr.rf
set_option maxRecDepth 100000 in
set_option maxHeartbeats 4000000 in
theorem yc_X0_answerMail   {x1 : Int32} {s : uS} {r : uS}  (h : fn_X0_answerMail  x1 s = some r) : agr [5, 8] [] s r := by
  unfold fn_X0_answerMail at h
  obtain ⟨v2, e3, h⟩ := uu_ob h
  obtain ⟨v4, e5, h⟩ := uu_ob h
  by_cases c6 : v4 < 0
  · replace h := uu_pos c6 h
    exact yb_X0_answerMail_29  h
  · replace h := uu_neg c6 h
    obtain ⟨r7, e8, h⟩ := uu_ob h
    refine ((yc_X0_areOptions  e8).mo (by decide) (fun _ h => nomatch h)).tr ?_
    by_cases c9 : r7.2 = true
    · replace h := uu_pos c9 h
      by_cases c10 : (r7.1.I 1043 3) ≤ 0
      · replace h := uu_pos c10 h
        by_cases c11 : (r7.1.I 1042 11) = 0
        · replace h := uu_pos c11 h
          obtain ⟨s12, e13, h⟩ := uu_ob h
          refine ((yc_X9_putRange so_1043 e13).mo (by decide) (List.forall_mem_cons.mpr ⟨(Or.inl (by decide)), List.forall_mem_cons.mpr ⟨(Or.inl (by decide)), fun _ h => nomatch h⟩⟩)).tr ?_
          obtain ⟨s14, e15, h⟩ := uu_ob h
          refine ((yc_X9_close so_1043 e15).mo (by decide) (List.forall_mem_cons.mpr ⟨(Or.inl (by decide)), List.forall_mem_cons.mpr ⟨(Or.inl (by decide)), List.forall_mem_cons.mpr ⟨(Or.inl (by decide)), fun _ h => nomatch h⟩⟩⟩)).tr ?_
          obtain ⟨s17, e18, h⟩ := uu_ob h
          refine ((yc_X5_line so_1040 e18).mo (by decide) (List.forall_mem_cons.mpr ⟨(Or.inl (by decide)), List.forall_mem_cons.mpr ⟨(Or.inl (by decide)), fun _ h => nomatch h⟩⟩)).tr ?_
          have hr := Option.some.inj h
          subst hr
          exact agr.rf
        · replace h := uu_neg c11 h
          obtain ⟨s20, e21, h⟩ := uu_ob h
          refine ((yc_X5_line so_1040 e21).mo (by decide) (List.forall_mem_cons.mpr ⟨(Or.inl (by decide)), List.forall_mem_cons.mpr ⟨(Or.inl (by decide)), fun _ h => nomatch h⟩⟩)).tr ?_
          have hr := Option.some.inj h
          subst hr
          exact agr.rf
      · replace h := uu_neg c10 h
        obtain ⟨s23, e24, h⟩ := uu_ob h
        refine ((yc_X5_line so_1040 e24).mo (by decide) (List.forall_mem_cons.mpr ⟨(Or.inl (by decide)), List.forall_mem_cons.mpr ⟨(Or.inl (by decide)), fun _ h => nomatch h⟩⟩)).tr ?_
        have hr := Option.some.inj h
        subst hr
        exact agr.rf
    · replace h := uu_neg c9 h
      exact yb_X0_answerMail_29  h
set_option maxRecDepth 100000 in
set_option maxHeartbeats 4000000 in
theorem yc_X0_answerLhlo   {x1 : Int32} {s : uS} {r : uS}  (h : fn_X0_answerLhlo  x1 s = some r) : agr [5, 8] [] s r := by
  unfold fn_X0_answerLhlo at h
  obtain ⟨v1, e2, h⟩ := uu_ob h
  by_cases c3 : v1 = true
  · replace h := uu_pos c3 h
    refine (agr_wI (a := 1042) (f := 10) (v := 1) (Or.inl (by decide))).tr ?_
    obtain ⟨s4, e5, h⟩ := uu_ob h
    refine ((yc_X0_forget  e5).mo (by decide) (fun _ h => nomatch h)).tr ?_
    obtain ⟨s7, e8, h⟩ := uu_ob h
    refine ((yc_X5_line so_1040 e8).mo (by decide) (List.forall_mem_cons.mpr ⟨(Or.inl (by decide)), List.forall_mem_cons.mpr ⟨(Or.inl (by decide)), fun _ h => nomatch h⟩⟩)).tr ?_
    obtain ⟨s10, e11, h⟩ := uu_ob h
    refine ((yc_X5_line so_1040 e11).mo (by decide) (List.forall_mem_cons.mpr ⟨(Or.inl (by decide)), List.forall_mem_cons.mpr ⟨(Or.inl (by decide)), fun _ h => nomatch h⟩⟩)).tr ?_
    obtain ⟨s13, e14, h⟩ := uu_ob h
    refine ((yc_X5_line so_1040 e14).mo (by decide) (List.forall_mem_cons.mpr ⟨(Or.inl (by decide)), List.forall_mem_cons.mpr ⟨(Or.inl (by decide)), fun _ h => nomatch h⟩⟩)).tr ?_
    have hr := Option.some.inj h
    subst hr
    exact agr.rf
  · replace h := uu_neg c3 h
    obtain ⟨s16, e17, h⟩ := uu_ob h
    refine ((yc_X5_line so_1040 e17).mo (by decide) (List.forall_mem_cons.mpr ⟨(Or.inl (by decide)), List.forall_mem_cons.mpr ⟨(Or.inl (by decide)), fun _ h => nomatch h⟩⟩)).tr ?_
    have hr := Option.some.inj h
    subst hr
    exact agr.rf
set_option maxRecDepth 100000 in
set_option maxHeartbeats 4000000 in
theorem yb_X0_answerLine_106      {s : uS} {r : uS}  (h : fb_X0_answerLine_106    s = some r) : agr [5, 8] [] s r := by
  unfold fb_X0_answerLine_106 at h
  obtain ⟨s2, e3, h⟩ := uu_ob h
  refine ((yc_X5_line so_1040 e3).mo (by decide) (List.forall_mem_cons.mpr ⟨(Or.inl (by decide)), List.forall_mem_cons.mpr ⟨(Or.inl (by decide)), fun _ h => nomatch h⟩⟩)).tr ?_
  have hr := Option.some.inj h
  subst hr
  exact agr.rf
set_option maxRecDepth 100000 in
set_option maxHeartbeats 4000000 in
theorem yb_X0_answerLine_118     {x1 : Int32} {x3 : Int32} {x4 : Int32} {s : uS} {r : uS}  (h : fb_X0_answerLine_118   x1 x3 x4 s = some r) : agr [5, 8] [] s r := by
  unfold fb_X0_answerLine_118 at h
  by_cases c1 : x4 = 0
  · replace h := uu_pos c1 h
    obtain ⟨s2, e3, h⟩ := uu_ob h
    refine ((yc_X0_answerLhlo  e3).mo (by decide) (fun _ h => nomatch h)).tr ?_
    have hr := Option.some.inj h
    subst hr
    exact agr.rf
  · replace h := uu_neg c1 h
    by_cases c4 : x4 = 1
    · replace h := uu_pos c4 h
      obtain ⟨s5, e6, h⟩ := uu_ob h
      refine ((yc_X0_answerMail  e6).mo (by decide) (fun _ h => nomatch h)).tr ?_
      have hr := Option.some.inj h
      subst hr
      exact agr.rf
    · replace h := uu_neg c4 h
      by_cases c7 : x4 = 2
      · replace h := uu_pos c7 h
        obtain ⟨s8, e9, h⟩ := uu_ob h
        refine ((yc_X0_answerRcpt  e9).mo (by decide) (fun _ h => nomatch h)).tr ?_
        have hr := Option.some.inj h
        subst hr
        exact agr.rf
      · replace h := uu_neg c7 h
        by_cases c10 : x1 ≤ x3
        · replace h := uu_pos c10 h
          obtain ⟨s11, e12, h⟩ := uu_ob h
          refine ((yc_X0_answerBareWord  e12).mo (by decide) (fun _ h => nomatch h)).tr ?_
          have hr := Option.some.inj h
          subst hr
          exact agr.rf
        · replace h := uu_neg c10 h
          obtain ⟨s14, e15, h⟩ := uu_ob h
          refine ((yc_X5_line so_1040 e15).mo (by decide) (List.forall_mem_cons.mpr ⟨(Or.inl (by decide)), List.forall_mem_cons.mpr ⟨(Or.inl (by decide)), fun _ h => nomatch h⟩⟩)).tr ?_
          have hr := Option.some.inj h
          subst hr
          exact agr.rf
set_option maxRecDepth 100000 in
set_option maxHeartbeats 4000000 in
theorem yb_X0_answerLine_50     {x1 : Int32} {xs0 : Int32} {s : uS} {r : uS}  (h : fb_X0_answerLine_50   x1 xs0 s = some r) : agr [5, 8] [] s r := by
  unfold fb_X0_answerLine_50 at h
  obtain ⟨v2, e3, h⟩ := uu_ob h
  by_cases c4 : 0 ≤ v2
  · replace h := uu_pos c4 h
    by_cases c5 : (s.I 1042 10) = 0
    · replace h := uu_pos c5 h
      by_cases c6 : v2 = 1
      · replace h := uu_pos c6 h
        exact yb_X0_answerLine_106  h
      · replace h := uu_neg c6 h
        by_cases c7 : v2 = 2
        · replace h := uu_pos c7 h
          exact yb_X0_answerLine_106  h
        · replace h := uu_neg c7 h
          by_cases c8 : v2 = 3
          · replace h := uu_pos c8 h
            exact yb_X0_answerLine_106  h
          · replace h := uu_neg c8 h
            exact yb_X0_answerLine_118  h
    · replace h := uu_neg c5 h
      exact yb_X0_answerLine_118  h
  · replace h := uu_neg c4 h
    obtain ⟨s10, e11, h⟩ := uu_ob h
    refine ((yc_X5_line so_1040 e11).mo (by decide) (List.forall_mem_cons.mpr ⟨(Or.inl (by decide)), List.forall_mem_cons.mpr ⟨(Or.inl (by decide)), fun _ h => nomatch h⟩⟩)).tr ?_
    have hr := Option.some.inj h
    subst hr
    exact agr.rf
set_option maxRecDepth 100000 in
set_option maxHeartbeats 4000000 in
theorem yc_X0_answerLine    {s : uS} {r : uS}  (h : fn_X0_answerLine   s = some r) : agr [5, 8] [] s r := by
  unfold fn_X0_answerLine at h
  refine (agr_wI (a := 1042) (f := 7) (v := 0) (Or.inl (by decide))).tr ?_
  by_cases c1 : ((s.I 1042 7) - 1) ≤ 500
  · replace h := uu_pos c1 h
    obtain ⟨v2, e3, h⟩ := uu_ob h
    by_cases c4 : 0 ≤ v2
    · replace h := uu_pos c4 h
      exact yb_X0_answerLine_50  h
    · replace h := uu_neg c4 h
      exact yb_X0_answerLine_50  h
  · replace h := uu_neg c1 h
    obtain ⟨s6, e7, h⟩ := uu_ob h
    refine ((yc_X5_line so_1040 e7).mo (by decide) (List.forall_mem_cons.mpr ⟨(Or.inl (by decide)), List.forall_mem_cons.mpr ⟨(Or.inl (by decide)), fun _ h => nomatch h⟩⟩)).tr ?_
    have hr := Option.some.inj h
    subst hr
    exact agr.rf
set_option maxRecDepth 100000 in
set_option maxHeartbeats 4000000 in
theorem yb_X2_readText_116  {K8 : Int32 → uS → Option uS}  (hK8 : ∀ (x2 : Int32)  (s : uS) (r : uS), K8 x2 s = some r → agr [4] [] s r) {x3 : Int32} {s : uS} {r : uS}  (h : fb_X2_readText_116  K8 x3 s = some r) : agr [4] [] s r := by
  unfold fb_X2_readText_116 at h
  refine (agr_wI (a := 7) (f := 2) (v := 3) (Or.inl (by decide))).tr ?_
  obtain ⟨s1, e2, h⟩ := uu_ob h
  refine ((yc_X9_close so_8 e2).mo (by decide) (List.forall_mem_cons.mpr ⟨(Or.inl (by decide)), List.forall_mem_cons.mpr ⟨(Or.inl (by decide)), List.forall_mem_cons.mpr ⟨(Or.inl (by decide)), fun _ h => nomatch h⟩⟩⟩)).tr ?_
  exact hK8 (x3 + 1) _ _ h
set_option maxRecDepth 100000 in
set_option maxHeartbeats 4000000 in
theorem yb_X2_readText_164  {K8 : Int32 → uS → Option uS}  (hK8 : ∀ (x2 : Int32)  (s : uS) (r : uS), K8 x2 s = some r → agr [4] [] s r) {x3 : Int32} {xs0 : Int32} {ks1 : Nat} {s : uS} {r : uS}  (h : fb_X2_readText_164  K8 x3 xs0 ks1 s = some r) : agr [4] [] s r := by
  unfold fb_X2_readText_164 at h
  obtain ⟨s1, e2, h⟩ := uu_ob h
  refine ((yc_X9_putRange so_8 e2).mo (by decide) (List.forall_mem_cons.mpr ⟨(Or.inl (by decide)), List.forall_mem_cons.mpr ⟨(Or.inl (by decide)), fun _ h => nomatch h⟩⟩)).tr ?_
  exact hK8 (x3 + 1) _ _ h
set_option maxRecDepth 100000 in
set_option maxHeartbeats 4000000 in
theorem yb_X2_readText_131  {K8 : Int32 → uS → Option uS}  (hK8 : ∀ (x2 : Int32)  (s : uS) (r : uS), K8 x2 s = some r → agr [4] [] s r) {x2 : Int32} {x3 : Int32} {b4 : Bool} {s : uS} {r : uS}  (h : fb_X2_readText_131  K8 x2 x3 b4 s = some r) : agr [4] [] s r := by
  unfold fb_X2_readText_131 at h
  obtain ⟨j1, e2, h⟩ := uu_ob h
  by_cases c3 : b4 = true
  · replace h := uu_pos c3 h
    obtain ⟨j4, e5, h⟩ := uu_ob h
    obtain ⟨v6, e7, h⟩ := uu_ob h
    by_cases c8 : v6 = 46
    · replace h := uu_pos c8 h
      exact yb_X2_readText_164 hK8 h
    · replace h := uu_neg c8 h
      exact yb_X2_readText_164 hK8 h
  · replace h := uu_neg c3 h
    exact yb_X2_readText_164 hK8 h
set_option maxRecDepth 100000 in
set_option maxHeartbeats 4000000 in
theorem yb_X2_readText_82  {K8 : Int32 → uS → Option uS}  (hK8 : ∀ (x2 : Int32)  (s : uS) (r : uS), K8 x2 s = some r → agr [4] [] s r) {x2 : Int32} {x3 : Int32} {bs0 : Bool} {s : uS} {r : uS}  (h : fb_X2_readText_82  K8 x2 x3 bs0 s = some r) : agr [4] [] s r := by
  unfold fb_X2_readText_82 at h
  by_cases c1 : bs0 = true
  · replace h := uu_pos c1 h
    by_cases c2 : x3 = (x2 + 1)
    · replace h := uu_pos c2 h
      exact yb_X2_readText_116 hK8 h
    · replace h := uu_neg c2 h
      by_cases c3 : x3 = (x2 + 2)
      · replace h := uu_pos c3 h
        obtain ⟨j4, e5, h⟩ := uu_ob h
        obtain ⟨v6, e7, h⟩ := uu_ob h
        by_cases c8 : v6 = 13
        · replace h := uu_pos c8 h
          exact yb_X2_readText_116 hK8 h
        · replace h := uu_neg c8 h
          exact yb_X2_readText_131 hK8 h
      · replace h := uu_neg c3 h
        exact yb_X2_readText_131 hK8 h
  · replace h := uu_neg c1 h
    exact yb_X2_readText_131 hK8 h
set_option maxRecDepth 100000 in
set_option maxHeartbeats 4000000 in
theorem yb_X2_readText_8  {K8 : Int32 → uS → Option uS}  (hK8 : ∀ (x2 : Int32)  (s : uS) (r : uS), K8 x2 s = some r → agr [4] [] s r) {x2 : Int32} {s : uS} {r : uS}  (h : fb_X2_readText_8  K8 x2 s = some r) : agr [4] [] s r := by
  unfold fb_X2_readText_8 at h
  by_cases c1 : (s.I 7 5) ≤ x2
  · replace h := uu_pos c1 h
    refine (agr_wI (a := 7) (f := 8) (v := x2) (Or.inl (by decide))).tr ?_
    have hr := Option.some.inj h
    subst hr
    exact agr.rf
  · replace h := uu_neg c1 h
    by_cases c2 : (1000 : Int32) < ((s.I 8 5) - (s.I 8 4))
    · replace h := uu_pos c2 h
      refine (agr_wI (a := 7) (f := 8) (v := x2) (Or.inl (by decide))).tr ?_
      have hr := Option.some.inj h
      subst hr
      exact agr.rf
    · replace h := uu_neg c2 h
      by_cases c3 : (s.I 7 2) = 6
      · replace h := uu_pos c3 h
        obtain ⟨j4, e5, h⟩ := uu_ob h
        obtain ⟨v6, e7, h⟩ := uu_ob h
        by_cases c8 : 0 ≤ v6
        · replace h := uu_pos c8 h
          obtain ⟨j9, e10, h⟩ := uu_ob h
          obtain ⟨v11, e12, h⟩ := uu_ob h
          by_cases c13 : v11 = 46
          · replace h := uu_pos c13 h
            exact yb_X2_readText_82 hK8 h
          · replace h := uu_neg c13 h
            exact yb_X2_readText_82 hK8 h
        · replace h := uu_neg c8 h
          have hr := Option.some.inj h
          subst hr
          exact agr.rf
      · replace h := uu_neg c3 h
        refine (agr_wI (a := 7) (f := 8) (v := x2) (Or.inl (by decide))).tr ?_
        have hr := Option.some.inj h
        subst hr
        exact agr.rf
set_option maxRecDepth 100000 in
set_option maxHeartbeats 4000000 in
theorem yn_X2_readText_8     : ∀ (n : Nat) (x2 : Int32)  (s : uS) (r : uS), fn_X2_readText_8   n x2 s = some r → agr [4] [] s r := by
  intro n
  induction n with
  | zero => intro x2  s r h
            cases h
  | succ n ih => intro x2  s r h
                 exact yb_X2_readText_8  ih  h
set_option maxRecDepth 100000 in
set_option maxHeartbeats 4000000 in
theorem yc_X2_readText   {x1 : Int32} {s : uS} {r : uS}  (h : fn_X2_readText  x1 s = some r) : agr [4] [] s r := by
  unfold fn_X2_readText at h
  refine (agr_wI (a := 7) (f := 2) (v := 6) (Or.inl (by decide))).tr ?_
  exact yn_X2_readText_8  _ _ _ _ h
set_option maxRecDepth 100000 in
set_option maxHeartbeats 4000000 in
theorem yb_X2_next_167     {xs0 : Int32} {s : uS} {r : uS}  (h : fb_X2_next_167   xs0 s = some r) : agr [4] [] s r := by
  unfold fb_X2_next_167 at h
  refine (agr_wI (a := 7) (f := 2) (v := xs0) (Or.inl (by decide))).tr ?_
  refine (agr_wI (a := 7) (f := 8) (v := ((wI s 7 2 xs0).I 7 8) + 1) (Or.inl (by decide))).tr ?_
  have hr := Option.some.inj h
  subst hr
  exact agr.rf
set_option maxRecDepth 100000 in
set_option maxHeartbeats 4000000 in
theorem yb_X2_next_119     {x1 : Int32} {s : uS} {r : uS}  (h : fb_X2_next_119   x1 s = some r) : agr [4] [] s r := by
  unfold fb_X2_next_119 at h
  obtain ⟨v1, e2, h⟩ := uu_ob h
  by_cases c3 : v1 = true
  · replace h := uu_pos c3 h
    obtain ⟨s4, e5, h⟩ := uu_ob h
    refine ((yc_X2_readNumber  e5).mo (by decide) (fun _ h => nomatch h)).tr ?_
    have hr := Option.some.inj h
    subst hr
    exact agr.rf
  · replace h := uu_neg c3 h
    by_cases c6 : x1 = 34
    · replace h := uu_pos c6 h
      obtain ⟨s7, e8, h⟩ := uu_ob h
      refine ((yc_X2_readQuoted  e8).mo (by decide) (fun _ h => nomatch h)).tr ?_
      have hr := Option.some.inj h
      subst hr
      exact agr.rf
    · replace h := uu_neg c6 h
      by_cases c9 : x1 ≤ 0
      · replace h := uu_pos c9 h
        exact yb_X2_next_167  h
      · replace h := uu_neg c9 h
        obtain ⟨g11, h⟩ := uu_grd h
        by_cases c12 : (stidx kW_34 ((x1.toUInt32 % 65536).toInt32)) < 0
        · replace h := uu_pos c12 h
          exact yb_X2_next_167  h
        · replace h := uu_neg c12 h
          exact yb_X2_next_167  h
set_option maxRecDepth 100000 in
set_option maxHeartbeats 4000000 in
theorem yc_X2_next    {s : uS} {r : uS}  (h : fn_X2_next   s = some r) : agr [4] [] s r := by
  unfold fn_X2_next at h
  obtain ⟨r1, e2, h⟩ := uu_ob h
  refine ((yc_X2_skipBetween  e2).mo (by decide) (fun _ h => nomatch h)).tr ?_
  by_cases c3 : r1.2 = true
  · replace h := uu_pos c3 h
    refine (agr_wI (a := 7) (f := 6) (v := r1.1.I 7 8) (Or.inl (by decide))).tr ?_
    by_cases c4 : ((wI r1.1 7 6 (r1.1.I 7 8)).I 7 8) < ((wI r1.1 7 6 (r1.1.I 7 8)).I 7 5)
    · replace h := uu_pos c4 h
      obtain ⟨j5, e6, h⟩ := uu_ob h
      obtain ⟨v7, e8, h⟩ := uu_ob h
      obtain ⟨v9, e10, h⟩ := uu_ob h
      by_cases c11 : v9 = true
      · replace h := uu_pos c11 h
        obtain ⟨s12, e13, h⟩ := uu_ob h
        refine ((yc_X2_readWord  e13).mo (by decide) (fun _ h => nomatch h)).tr ?_
        obtain ⟨v14, e15, h⟩ := uu_ob h
        by_cases c16 : v14 < 0
        · replace h := uu_pos c16 h
          have hr := Option.some.inj h
          subst hr
          exact agr.rf
        · replace h := uu_neg c16 h
          obtain ⟨s17, e18, h⟩ := uu_ob h
          refine ((yc_X2_readText  e18).mo (by decide) (fun _ h => nomatch h)).tr ?_
          have hr := Option.some.inj h
          subst hr
          exact agr.rf
      · replace h := uu_neg c11 h
        by_cases c19 : v7 = 58
        · replace h := uu_pos c19 h
          obtain ⟨v20, e21, h⟩ := uu_ob h
          by_cases c22 : v20 = true
          · replace h := uu_pos c22 h
            obtain ⟨s23, e24, h⟩ := uu_ob h
            refine ((yc_X2_readWord  e24).mo (by decide) (fun _ h => nomatch h)).tr ?_
            have hr := Option.some.inj h
            subst hr
            exact agr.rf
          · replace h := uu_neg c22 h
            exact yb_X2_next_119  h
        · replace h := uu_neg c19 h
          exact yb_X2_next_119  h
    · replace h := uu_neg c4 h
      refine (agr_wI (a := 7) (f := 2) (v := 5) (Or.inl (by decide))).tr ?_
      have hr := Option.some.inj h
      subst hr
      exact agr.rf
  · replace h := uu_neg c3 h
    refine (agr_wI (a := 7) (f := 2) (v := 6) (Or.inl (by decide))).tr ?_
    have hr := Option.some.inj h
    subst hr
    exact agr.rf
set_option maxRecDepth 100000 in
set_option maxHeartbeats 4000000 in
theorem yc_X3_reset   {k0 : Nat} {x1 : Int32} {x2 : Int32} {x3 : Int32} {s : uS} {r : uS} (hk0 : uSo k0 3) (h : fn_X3_reset  k0 x1 x2 x3 s = some r) : agr [4] [] s r := by
  unfold fn_X3_reset at h
  refine (agr_wI (a := k0) (f := 0) (v := x1) (Or.inl (by rw [show k0 = k0 + 0 from rfl, rg_X3 (d := 0) hk0 (by decide)]; decide))).tr ?_
  refine (agr_wI (a := k0) (f := 1) (v := x2) (Or.inl (by rw [show k0 = k0 + 0 from rfl, rg_X3 (d := 0) hk0 (by decide)]; decide))).tr ?_
  refine (agr_wI (a := k0) (f := 2) (v := x3) (Or.inl (by rw [show k0 = k0 + 0 from rfl, rg_X3 (d := 0) hk0 (by decide)]; decide))).tr ?_
  refine (agr_wI (a := k0) (f := 5) (v := 0) (Or.inl (by rw [show k0 = k0 + 0 from rfl, rg_X3 (d := 0) hk0 (by decide)]; decide))).tr ?_
  refine (agr_wI (a := k0) (f := 6) (v := 0) (Or.inl (by rw [show k0 = k0 + 0 from rfl, rg_X3 (d := 0) hk0 (by decide)]; decide))).tr ?_
  refine (agr_wI (a := k0) (f := 8) (v := 0) (Or.inl (by rw [show k0 = k0 + 0 from rfl, rg_X3 (d := 0) hk0 (by decide)]; decide))).tr ?_
  refine (agr_wI (a := k0) (f := 9) (v := 0) (Or.inl (by rw [show k0 = k0 + 0 from rfl, rg_X3 (d := 0) hk0 (by decide)]; decide))).tr ?_
  refine (agr_wI (a := k0) (f := 11) (v := 0) (Or.inl (by rw [show k0 = k0 + 0 from rfl, rg_X3 (d := 0) hk0 (by decide)]; decide))).tr ?_
  obtain ⟨s1, e2, h⟩ := uu_ob h
  refine ((yc_J7_fill_53178  e2).mo (by decide) (List.forall_mem_cons.mpr ⟨(Or.inl (by rw [show k0 + 2 = k0 + 2 from rfl, rg_X3 (d := 2) hk0 (by decide)]; decide)), fun _ h => nomatch h⟩)).tr ?_
  have hr := Option.some.inj h
  subst hr
  exact agr.rf
set_option maxRecDepth 100000 in
set_option maxHeartbeats 4000000 in
theorem yc_X4_addNode   {x1 : Int32} {x2 : Int32} {x3 : Int32} {s : uS} {r : (uS × Int32)}  (h : fn_X4_addNode  x1 x2 x3 s = some r) : agr [4] [] s r.1 := by
  unfold fn_X4_addNode at h
  by_cases c1 : (s.I 6 2) < 320
  · replace h := uu_pos c1 h
    refine (agr_wI (a := 6) (f := 2) (v := (s.I 6 2) + 1) (Or.inl (by decide))).tr ?_
    obtain ⟨j2, e3, h⟩ := uu_ob h
    obtain ⟨g4, h⟩ := uu_grd h
    obtain ⟨s5, e6, h⟩ := uu_ob h
    refine ((yc_X3_reset g4 e6).mo (by decide) (fun _ h => nomatch h)).tr ?_
    obtain ⟨j7, e8, h⟩ := uu_ob h
    obtain ⟨g9, h⟩ := uu_grd h
    refine (agr_wI (a := j7) (f := 3) (v := s5.I 6 2) (Or.inl (by rw [show j7 = j7 + 0 from rfl, rg_X3 (d := 0) g9 (by decide)]; decide))).tr ?_
    obtain ⟨j10, e11, h⟩ := uu_ob h
    obtain ⟨g12, h⟩ := uu_grd h
    refine (agr_wI (a := j10) (f := 4) (v := (wI s5 j7 3 (s5.I 6 2)).I 6 2) (Or.inl (by rw [show j10 = j10 + 0 from rfl, rg_X3 (d := 0) g12 (by decide)]; decide))).tr ?_
    have hr := Option.some.inj h
    subst hr
    exact agr.rf
  · replace h := uu_neg c1 h
    have hr := Option.some.inj h
    subst hr
    exact agr.rf
set_option maxRecDepth 100000 in
set_option maxHeartbeats 4000000 in
theorem yc_X4_open   {k1 : Nat} {x2 : Int32} {x3 : Int32} {s : uS} {r : uS}  (h : fn_X4_open  k1 x2 x3 s = some r) : agr [4] [] s r := by
  unfold fn_X4_open at h
  obtain ⟨s1, e2, h⟩ := uu_ob h
  refine ((yc_X2_open  e2).mo (by decide) (fun _ h => nomatch h)).tr ?_
  refine (agr_wI (a := 6) (f := 2) (v := 0) (Or.inl (by decide))).tr ?_
  refine (agr_wI (a := 6) (f := 6) (v := 0) (Or.inl (by decide))).tr ?_
  refine (agr_wI (a := 6) (f := 7) (v := 0) (Or.inl (by decide))).tr ?_
  refine (agr_wI (a := 6) (f := 8) (v := 0) (Or.inl (by decide))).tr ?_
  refine (agr_wI (a := 6) (f := 5) (v := 0) (Or.inl (by decide))).tr ?_
  obtain ⟨r3, e4, h⟩ := uu_ob h
  refine ((yc_X4_addNode  e4).mo (by decide) (fun _ h => nomatch h)).tr ?_
  obtain ⟨s5, e6, h⟩ := uu_ob h
  refine ((yc_X4_push  e6).mo (by decide) (fun _ h => nomatch h)).tr ?_
  have hr := Option.some.inj h
  subst hr
  exact agr.rf
set_option maxRecDepth 100000 in
set_option maxHeartbeats 4000000 in
theorem yb_X4_startCommand_188     {x1 : Int32} {x2 : Int32} {s : uS} {r : (uS × Int32)}  (h : fb_X4_startCommand_188   x1 x2 s = some r) : agr [4] [] s r.1 := by
  unfold fb_X4_startCommand_188 at h
  obtain ⟨v2, e3, h⟩ := uu_ob h
  by_cases c4 : v2 = 0
  · replace h := uu_pos c4 h
    have hr := Option.some.inj h
    subst hr
    exact agr.rf
  · replace h := uu_neg c4 h
    obtain ⟨s5, e6, h⟩ := uu_ob h
    refine ((yc_X4_push  e6).mo (by decide) (fun _ h => nomatch h)).tr ?_
    have hr := Option.some.inj h
    subst hr
    exact agr.rf
set_option maxRecDepth 100000 in
set_option maxHeartbeats 4000000 in
theorem yb_X4_startCommand_23     {xs0 : Int32} {s : uS} {r : (uS × Int32)}  (h : fb_X4_startCommand_23   xs0 s = some r) : agr [4] [] s r.1 := by
  unfold fb_X4_startCommand_23 at h
  by_cases c1 : xs0 < 0
  · replace h := uu_pos c1 h
    have hr := Option.some.inj h
    subst hr
    exact agr.rf
  · replace h := uu_neg c1 h
    by_cases c2 : (s.I 6 6) = 100
    · replace h := uu_pos c2 h
      have hr := Option.some.inj h
      subst hr
      exact agr.rf
    · replace h := uu_neg c2 h
      obtain ⟨v4, e5, h⟩ := uu_ob h
      obtain ⟨v6, e7, h⟩ := uu_ob h
      by_cases c8 : v6 = true
      · replace h := uu_pos c8 h
        have hr := Option.some.inj h
        subst hr
        exact agr.rf
      · replace h := uu_neg c8 h
        refine (agr_wI (a := 6) (f := 6) (v := (s.I 6 6) + 1) (Or.inl (by decide))).tr ?_
        obtain ⟨r9, e10, h⟩ := uu_ob h
        refine ((yc_X4_addNode  e10).mo (by decide) (fun _ h => nomatch h)).tr ?_
        by_cases c11 : xs0 = 0
        · replace h := uu_pos c11 h
          obtain ⟨s12, e13, h⟩ := uu_ob h
          refine ((yc_X4_push  e13).mo (by decide) (fun _ h => nomatch h)).tr ?_
          obtain ⟨s14, e15, h⟩ := uu_ob h
          refine ((yc_X4_push  e15).mo (by decide) (fun _ h => nomatch h)).tr ?_
          obtain ⟨s16, e17, h⟩ := uu_ob h
          refine ((yc_X4_push  e17).mo (by decide) (fun _ h => nomatch h)).tr ?_
          have hr := Option.some.inj h
          subst hr
          exact agr.rf
        · replace h := uu_neg c11 h
          obtain ⟨s18, e19, h⟩ := uu_ob h
          refine ((yc_X4_push  e19).mo (by decide) (fun _ h => nomatch h)).tr ?_
          by_cases c102_0 : xs0 = 4
          · replace h := uu_pos c102_0 h
            obtain ⟨s20, e21, h⟩ := uu_ob h
            refine ((yc_X4_pushList  e21).mo (by decide) (fun _ h => nomatch h)).tr ?_
            exact yb_X4_startCommand_188  h
          replace h := uu_neg c102_0 h
          by_cases c102_1 : xs0 = 5
          · replace h := uu_pos c102_1 h
            obtain ⟨s22, e23, h⟩ := uu_ob h
            refine ((yc_X4_pushList  e23).mo (by decide) (fun _ h => nomatch h)).tr ?_
            exact yb_X4_startCommand_188  h
          replace h := uu_neg c102_1 h
          by_cases c102_2 : xs0 = 6
          · replace h := uu_pos c102_2 h
            obtain ⟨s24, e25, h⟩ := uu_ob h
            refine ((yc_X4_pushList  e25).mo (by decide) (fun _ h => nomatch h)).tr ?_
            exact yb_X4_startCommand_188  h
          replace h := uu_neg c102_2 h
          by_cases c102_3 : xs0 = 7
          · replace h := uu_pos c102_3 h
            obtain ⟨s26, e27, h⟩ := uu_ob h
            refine ((yc_X4_pushList  e27).mo (by decide) (fun _ h => nomatch h)).tr ?_
            exact yb_X4_startCommand_188  h
          replace h := uu_neg c102_3 h
          by_cases c102_4 : xs0 = 8
          · replace h := uu_pos c102_4 h
            obtain ⟨s28, e29, h⟩ := uu_ob h
            refine ((yc_X4_pushList  e29).mo (by decide) (fun _ h => nomatch h)).tr ?_
            exact yb_X4_startCommand_188  h
          replace h := uu_neg c102_4 h
          by_cases c102_5 : xs0 = 9
          · replace h := uu_pos c102_5 h
            obtain ⟨s30, e31, h⟩ := uu_ob h
            refine ((yc_X4_pushList  e31).mo (by decide) (fun _ h => nomatch h)).tr ?_
            exact yb_X4_startCommand_188  h
          replace h := uu_neg c102_5 h
          by_cases c102_6 : xs0 = 10
          · replace h := uu_pos c102_6 h
            obtain ⟨s32, e33, h⟩ := uu_ob h
            refine ((yc_X4_pushList  e33).mo (by decide) (fun _ h => nomatch h)).tr ?_
            exact yb_X4_startCommand_188  h
          replace h := uu_neg c102_6 h
          exact yb_X4_startCommand_188  h
set_option maxRecDepth 100000 in
set_option maxHeartbeats 4000000 in
theorem yc_X4_startCommand    {s : uS} {r : (uS × Int32)}  (h : fn_X4_startCommand   s = some r) : agr [4] [] s r.1 := by
  unfold fn_X4_startCommand at h
  by_cases c1 : (s.I 7 2) = 0
  · replace h := uu_pos c1 h
    obtain ⟨v3, e4, h⟩ := uu_ob h
    exact yb_X4_startCommand_23  h
  · replace h := uu_neg c1 h
    exact yb_X4_startCommand_23  h
set_option maxRecDepth 100000 in
set_option maxHeartbeats 4000000 in
theorem yc_X4_closeBlock   {x1 : Int32} {s : uS} {r : (uS × Int32)}  (h : fn_X4_closeBlock  x1 s = some r) : agr [4] [] s r.1 := by
  unfold fn_X4_closeBlock at h
  refine (agr_wI (a := 6) (f := 7) (v := (s.I 6 7) - 1) (Or.inl (by decide))).tr ?_
  obtain ⟨r1, e2, h⟩ := uu_ob h
  refine ((yc_X4_addNode  e2).mo (by decide) (fun _ h => nomatch h)).tr ?_
  obtain ⟨j3, e4, h⟩ := uu_ob h
  obtain ⟨g5, h⟩ := uu_grd h
  refine (agr_wI (a := j3) (f := 4) (v := r1.1.I 6 2) (Or.inl (by rw [show j3 = j3 + 0 from rfl, rg_X3 (d := 0) g5 (by decide)]; decide))).tr ?_
  obtain ⟨r6, e7, h⟩ := uu_ob h
  refine ((yc_X4_pop  e7).mo (by decide) (fun _ h => nomatch h)).tr ?_
  have hr := Option.some.inj h
  subst hr
  exact agr.rf
set_option maxRecDepth 100000 in
set_option maxHeartbeats 4000000 in
theorem yb_X4_startElse_67     {x1 : Int32} {x2 : Int32} {s : uS} {r : (uS × Int32)}  (h : fb_X4_startElse_67   x1 x2 s = some r) : agr [4] [] s r.1 := by
  unfold fb_X4_startElse_67 at h
  obtain ⟨s1, e2, h⟩ := uu_ob h
  refine ((yc_X4_push  e2).mo (by decide) (fun _ h => nomatch h)).tr ?_
  by_cases c3 : x1 = 0
  · replace h := uu_pos c3 h
    obtain ⟨s4, e5, h⟩ := uu_ob h
    refine ((yc_X4_push  e5).mo (by decide) (fun _ h => nomatch h)).tr ?_
    have hr := Option.some.inj h
    subst hr
    exact agr.rf
  · replace h := uu_neg c3 h
    have hr := Option.some.inj h
    subst hr
    exact agr.rf
set_option maxRecDepth 100000 in
set_option maxHeartbeats 4000000 in
theorem yb_X4_startElse_46     {x1 : Int32} {xs0 : Int32} {s : uS} {r : (uS × Int32)}  (h : fb_X4_startElse_46   x1 xs0 s = some r) : agr [4] [] s r.1 := by
  unfold fb_X4_startElse_46 at h
  obtain ⟨r1, e2, h⟩ := uu_ob h
  refine ((yc_X4_addNode  e2).mo (by decide) (fun _ h => nomatch h)).tr ?_
  by_cases c3 : x1 = 1
  · replace h := uu_pos c3 h
    refine (agr_wI (a := 6) (f := 5) (v := (r1.1.I 6 5) - 1) (Or.inl (by decide))).tr ?_
    exact yb_X4_startElse_67  h
  · replace h := uu_neg c3 h
    exact yb_X4_startElse_67  h
set_option maxRecDepth 100000 in
set_option maxHeartbeats 4000000 in
theorem yb_X4_startElse_23     {xs0 : Int32} {s : uS} {r : (uS × Int32)}  (h : fb_X4_startElse_23   xs0 s = some r) : agr [4] [] s r.1 := by
  unfold fb_X4_startElse_23 at h
  by_cases c1 : 0 ≤ xs0
  · replace h := uu_pos c1 h
    by_cases c2 : xs0 = 0
    · replace h := uu_pos c2 h
      exact yb_X4_startElse_46  h
    · replace h := uu_neg c2 h
      exact yb_X4_startElse_46  h
  · replace h := uu_neg c1 h
    obtain ⟨r3, e4, h⟩ := uu_ob h
    refine ((yc_X4_pop  e4).mo (by decide) (fun _ h => nomatch h)).tr ?_
    have hr := Option.some.inj h
    subst hr
    exact agr.rf
set_option maxRecDepth 100000 in
set_option maxHeartbeats 4000000 in
theorem yc_X4_startElse    {s : uS} {r : (uS × Int32)}  (h : fn_X4_startElse   s = some r) : agr [4] [] s r.1 := by
  unfold fn_X4_startElse at h
  by_cases c1 : (s.I 7 2) = 0
  · replace h := uu_pos c1 h
    obtain ⟨v3, e4, h⟩ := uu_ob h
    exact yb_X4_startElse_23  h
  · replace h := uu_neg c1 h
    exact yb_X4_startElse_23  h
set_option maxRecDepth 100000 in
set_option maxHeartbeats 4000000 in
theorem yb_X4_startTest_23     {x1 : Int32} {xs0 : Int32} {s : uS} {r : (uS × Int32)}  (h : fb_X4_startTest_23   x1 xs0 s = some r) : agr [4] [] s r.1 := by
  unfold fb_X4_startTest_23 at h
  obtain ⟨j1, e2, h⟩ := uu_ob h
  obtain ⟨g3, h⟩ := uu_grd h
  by_cases c4 : xs0 < 0
  · replace h := uu_pos c4 h
    have hr := Option.some.inj h
    subst hr
    exact agr.rf
  · replace h := uu_neg c4 h
    by_cases c5 : (s.I 6 6) = 100
    · replace h := uu_pos c5 h
      have hr := Option.some.inj h
      subst hr
      exact agr.rf
    · replace h := uu_neg c5 h
      by_cases c6 : (8 : Int32) < ((s.I j1 2) + 1)
      · replace h := uu_pos c6 h
        have hr := Option.some.inj h
        subst hr
        exact agr.rf
      · replace h := uu_neg c6 h
        obtain ⟨v8, e9, h⟩ := uu_ob h
        obtain ⟨v10, e11, h⟩ := uu_ob h
        by_cases c12 : v10 = true
        · replace h := uu_pos c12 h
          have hr := Option.some.inj h
          subst hr
          exact agr.rf
        · replace h := uu_neg c12 h
          refine (agr_wI (a := 6) (f := 6) (v := (s.I 6 6) + 1) (Or.inl (by decide))).tr ?_
          refine (agr_wI (a := 6) (f := 5) (v := ((wI s 6 6 ((s.I 6 6) + 1)).I 6 5) - 1) (Or.inl (by decide))).tr ?_
          obtain ⟨r13, e14, h⟩ := uu_ob h
          refine ((yc_X4_addNode  e14).mo (by decide) (fun _ h => nomatch h)).tr ?_
          by_cases c107_0 : ((11 : Int32) + xs0) = 17
          · replace h := uu_pos c107_0 h
            obtain ⟨s15, e16, h⟩ := uu_ob h
            refine ((yc_X4_push  e16).mo (by decide) (fun _ h => nomatch h)).tr ?_
            obtain ⟨s17, e18, h⟩ := uu_ob h
            refine ((yc_X4_push  e18).mo (by decide) (fun _ h => nomatch h)).tr ?_
            obtain ⟨s19, e20, h⟩ := uu_ob h
            refine ((yc_X4_push  e20).mo (by decide) (fun _ h => nomatch h)).tr ?_
            have hr := Option.some.inj h
            subst hr
            exact agr.rf
          replace h := uu_neg c107_0 h
          by_cases c107_1 : ((11 : Int32) + xs0) = 18
          · replace h := uu_pos c107_1 h
            obtain ⟨s21, e22, h⟩ := uu_ob h
            refine ((yc_X4_push  e22).mo (by decide) (fun _ h => nomatch h)).tr ?_
            obtain ⟨s23, e24, h⟩ := uu_ob h
            refine ((yc_X4_push  e24).mo (by decide) (fun _ h => nomatch h)).tr ?_
            obtain ⟨s25, e26, h⟩ := uu_ob h
            refine ((yc_X4_push  e26).mo (by decide) (fun _ h => nomatch h)).tr ?_
            have hr := Option.some.inj h
            subst hr
            exact agr.rf
          replace h := uu_neg c107_1 h
          by_cases c107_2 : ((11 : Int32) + xs0) = 19
          · replace h := uu_pos c107_2 h
            obtain ⟨s27, e28, h⟩ := uu_ob h
            refine ((yc_X4_push  e28).mo (by decide) (fun _ h => nomatch h)).tr ?_
            obtain ⟨s29, e30, h⟩ := uu_ob h
            refine ((yc_X4_push  e30).mo (by decide) (fun _ h => nomatch h)).tr ?_
            have hr := Option.some.inj h
            subst hr
            exact agr.rf
          replace h := uu_neg c107_2 h
          by_cases c107_3 : ((11 : Int32) + xs0) = 20
          · replace h := uu_pos c107_3 h
            have hr := Option.some.inj h
            subst hr
            exact agr.rf
          replace h := uu_neg c107_3 h
          by_cases c107_4 : ((11 : Int32) + xs0) = 21
          · replace h := uu_pos c107_4 h
            have hr := Option.some.inj h
            subst hr
            exact agr.rf
          replace h := uu_neg c107_4 h
          obtain ⟨s31, e32, h⟩ := uu_ob h
          refine ((yc_X4_pushPartsOfTest  e32).mo (by decide) (fun _ h => nomatch h)).tr ?_
          have hr := Option.some.inj h
          subst hr
          exact agr.rf
set_option maxRecDepth 100000 in
set_option maxHeartbeats 4000000 in
theorem yc_X4_startTest   {x1 : Int32} {s : uS} {r : (uS × Int32)}  (h : fn_X4_startTest  x1 s = some r) : agr [4] [] s r.1 := by
  unfold fn_X4_startTest at h
  by_cases c1 : (s.I 7 2) = 0
  · replace h := uu_pos c1 h
    obtain ⟨v3, e4, h⟩ := uu_ob h
    exact yb_X4_startTest_23  h
  · replace h := uu_neg c1 h
    exact yb_X4_startTest_23  h
set_option maxRecDepth 100000 in
set_option maxHeartbeats 4000000 in
theorem yb_X4_isAskedFor_118     {x7 : Int32} {xs0 : Int32} {xs1 : Int32} {s : uS} {r : (uS × Bool)}  (h : fb_X4_isAskedFor_118   x7 xs0 xs1 s = some r) : agr [4] [] s r.1 := by
  unfold fb_X4_isAskedFor_118 at h
  refine (agr_wI (a := 6) (f := 8) (v := xs1 ||| xs0) (Or.inl (by decide))).tr ?_
  by_cases c1 : x7 < 0
  · replace h := uu_pos c1 h
    have hr := Option.some.inj h
    subst hr
    exact agr.rf
  · replace h := uu_neg c1 h
    have hr := Option.some.inj h
    subst hr
    exact agr.rf
set_option maxRecDepth 100000 in
set_option maxHeartbeats 4000000 in
theorem yc_X4_isAskedFor   {k1 : Nat} {x2 : Int32} {x3 : Int32} {s : uS} {r : (uS × Bool)} (hk1 : uSo k1 3) (h : fn_X4_isAskedFor  k1 x2 x3 s = some r) : agr [4] [] s r.1 := by
  unfold fn_X4_isAskedFor at h
  obtain ⟨v1, e2, h⟩ := uu_ob h
  obtain ⟨v3, e4, h⟩ := uu_ob h
  by_cases c28_0 : x2 = 2
  · replace h := uu_pos c28_0 h
    obtain ⟨v6, e7, h⟩ := uu_ob h
    by_cases c8 : 0 ≤ v6
    · replace h := uu_pos c8 h
      refine (agr_wI (a := k1) (f := 11) (v := (s.I k1 11) ||| ((1 : Int32) <<< (v6 &&& 31))) (Or.inl (by rw [show k1 = k1 + 0 from rfl, rg_X3 (d := 0) hk1 (by decide)]; decide))).tr ?_
      have hr := Option.some.inj h
      subst hr
      exact agr.rf
    · replace h := uu_neg c8 h
      refine (agr_wI (a := k1) (f := 11) (v := (s.I k1 11) ||| 0) (Or.inl (by rw [show k1 = k1 + 0 from rfl, rg_X3 (d := 0) hk1 (by decide)]; decide))).tr ?_
      have hr := Option.some.inj h
      subst hr
      exact agr.rf
  replace h := uu_neg c28_0 h
  by_cases c28_1 : x2 = 3
  · replace h := uu_pos c28_1 h
    obtain ⟨v9, e10, h⟩ := uu_ob h
    have hr := Option.some.inj h
    subst hr
    exact agr.rf
  replace h := uu_neg c28_1 h
  by_cases c28_2 : x2 = 4
  · replace h := uu_pos c28_2 h
    obtain ⟨v11, e12, h⟩ := uu_ob h
    have hr := Option.some.inj h
    subst hr
    exact agr.rf
  replace h := uu_neg c28_2 h
  by_cases c28_3 : x2 = 5
  · replace h := uu_pos c28_3 h
    have hr := Option.some.inj h
    subst hr
    exact agr.rf
  replace h := uu_neg c28_3 h
  by_cases c28_4 : x2 = 6
  · replace h := uu_pos c28_4 h
    have hr := Option.some.inj h
    subst hr
    exact agr.rf
  replace h := uu_neg c28_4 h
  by_cases c28_5 : x2 = 7
  · replace h := uu_pos c28_5 h
    have hr := Option.some.inj h
    subst hr
    exact agr.rf
  replace h := uu_neg c28_5 h
  by_cases c28_6 : x2 = 8
  · replace h := uu_pos c28_6 h
    have hr := Option.some.inj h
    subst hr
    exact agr.rf
  replace h := uu_neg c28_6 h
  by_cases c28_7 : x2 = 9
  · replace h := uu_pos c28_7 h
    obtain ⟨v14, e15, h⟩ := uu_ob h
    refine (agr_wI (a := k1) (f := 7) (v := v14) (Or.inl (by rw [show k1 = k1 + 0 from rfl, rg_X3 (d := 0) hk1 (by decide)]; decide))).tr ?_
    by_cases c16 : ((wI s k1 7 v14).I k1 7) < 0
    · replace h := uu_pos c16 h
      have hr := Option.some.inj h
      subst hr
      exact agr.rf
    · replace h := uu_neg c16 h
      have hr := Option.some.inj h
      subst hr
      exact agr.rf
  replace h := uu_neg c28_7 h
  by_cases c28_8 : x2 = 10
  · replace h := uu_pos c28_8 h
    obtain ⟨v18, e19, h⟩ := uu_ob h
    refine (agr_wI (a := k1) (f := 8) (v := v18) (Or.inl (by rw [show k1 = k1 + 0 from rfl, rg_X3 (d := 0) hk1 (by decide)]; decide))).tr ?_
    by_cases c20 : ((wI s k1 8 v18).I k1 8) < 0
    · replace h := uu_pos c20 h
      have hr := Option.some.inj h
      subst hr
      exact agr.rf
    · replace h := uu_neg c20 h
      by_cases c21 : ((wI s k1 8 v18).I k1 8) = 2
      · replace h := uu_pos c21 h
        obtain ⟨v22, e23, h⟩ := uu_ob h
        by_cases c24 : v22 = true
        · replace h := uu_pos c24 h
          have hr := Option.some.inj h
          subst hr
          exact agr.rf
        · replace h := uu_neg c24 h
          have hr := Option.some.inj h
          subst hr
          exact agr.rf
      · replace h := uu_neg c21 h
        have hr := Option.some.inj h
        subst hr
        exact agr.rf
  replace h := uu_neg c28_8 h
  by_cases c28_9 : x2 = 11
  · replace h := uu_pos c28_9 h
    obtain ⟨v26, e27, h⟩ := uu_ob h
    by_cases c28 : 0 ≤ v26
    · replace h := uu_pos c28 h
      exact yb_X4_isAskedFor_118  h
    · replace h := uu_neg c28 h
      exact yb_X4_isAskedFor_118  h
  replace h := uu_neg c28_9 h
  have hr := Option.some.inj h
  subst hr
  exact agr.rf
set_option maxRecDepth 100000 in
set_option maxHeartbeats 4000000 in
theorem yb_X4_takeString_94     {k2 : Nat} {x3 : Int32} {s : uS} {r : (uS × Int32)} (hk2 : uSo k2 3) (h : fb_X4_takeString_94   k2 x3 s = some r) : agr [4] [] s r.1 := by
  unfold fb_X4_takeString_94 at h
  obtain ⟨v1, e2, h⟩ := uu_ob h
  obtain ⟨s3, e4, h⟩ := uu_ob h
  refine (agr_iput e4 (Or.inl (by rw [rg_X3 (d := 2) hk2 (by decide)]; decide))).tr ?_
  obtain ⟨r5, e6, h⟩ := uu_ob h
  refine ((yc_X4_pop  e6).mo (by decide) (fun _ h => nomatch h)).tr ?_
  have hr := Option.some.inj h
  subst hr
  exact agr.rf
set_option maxRecDepth 100000 in
set_option maxHeartbeats 4000000 in
theorem yc_X4_takeString   {x1 : Int32} {s : uS} {r : (uS × Int32)}  (h : fn_X4_takeString  x1 s = some r) : agr [4] [] s r.1 := by
  unfold fn_X4_takeString at h
  obtain ⟨j1, e2, h⟩ := uu_ob h
  obtain ⟨g3, h⟩ := uu_grd h
  by_cases c4 : (s.I 7 2) = 3
  · replace h := uu_pos c4 h
    by_cases c5 : ((s.I 8 3) - 1) < 0
    · replace h := uu_pos c5 h
      have hr := Option.some.inj h
      subst hr
      exact agr.rf
    · replace h := uu_neg c5 h
      by_cases c6 : (300 : Int32) ≤ ((s.I 8 3) - 1)
      · replace h := uu_pos c6 h
        have hr := Option.some.inj h
        subst hr
        exact agr.rf
      · replace h := uu_neg c6 h
        obtain ⟨v7, e8, h⟩ := uu_ob h
        by_cases c9 : v7 = 10
        · replace h := uu_pos c9 h
          have hr := Option.some.inj h
          subst hr
          exact agr.rf
        · replace h := uu_neg c9 h
          obtain ⟨r10, e11, h⟩ := uu_ob h
          refine ((yc_X4_isAskedFor g3 e11).mo (by decide) (fun _ h => nomatch h)).tr ?_
          by_cases c12 : r10.2 = true
          · replace h := uu_pos c12 h
            obtain ⟨v13, e14, h⟩ := uu_ob h
            by_cases c15 : v13 = 0
            · replace h := uu_pos c15 h
              obtain ⟨s16, e17, h⟩ := uu_ob h
              refine (agr_iput e17 (Or.inl (by rw [rg_X3 (d := 1) g3 (by decide)]; decide))).tr ?_
              exact yb_X4_takeString_94 g3 h
            · replace h := uu_neg c15 h
              exact yb_X4_takeString_94 g3 h
          · replace h := uu_neg c12 h
            have hr := Option.some.inj h
            subst hr
            exact agr.rf
  · replace h := uu_neg c4 h
    have hr := Option.some.inj h
    subst hr
    exact agr.rf
set_option maxRecDepth 100000 in
set_option maxHeartbeats 4000000 in
theorem yb_X4_parse_425     {x4 : Int32} {s : uS} {r : (uS × Int32)}  (h : fb_X4_parse_425   x4 s = some r) : agr [4] [] s r.1 := by
  unfold fb_X4_parse_425 at h
  by_cases c1 : x4 = 3
  · replace h := uu_pos c1 h
    have hr := Option.some.inj h
    subst hr
    exact agr.rf
  · replace h := uu_neg c1 h
    obtain ⟨v2, e3, h⟩ := uu_ob h
    have hr := Option.some.inj h
    subst hr
    exact agr.rf
set_option maxRecDepth 100000 in
set_option maxHeartbeats 4000000 in
theorem yb_X4_parse_84      {s : uS} {r : (uS × Int32)}  (h : fb_X4_parse_84    s = some r) : agr [4] [] s r.1 := by
  unfold fb_X4_parse_84 at h
  obtain ⟨v1, e2, h⟩ := uu_ob h
  have hr := Option.some.inj h
  subst hr
  exact agr.rf
set_option maxRecDepth 100000 in
set_option maxHeartbeats 4000000 in
theorem yb_X4_parse_46  {K13 : Int32 → Int32 → uS → Option (uS × Int32)}  (hK13 : ∀ (x4 : Int32) (x5 : Int32)  (s : uS) (r : (uS × Int32)), K13 x4 x5 s = some r → agr [4] [] s r.1) {x5 : Int32} {s : uS} {r : (uS × Int32)}  (h : fb_X4_parse_46  K13 x5 s = some r) : agr [4] [] s r.1 := by
  unfold fb_X4_parse_46 at h
  by_cases c1 : (s.I 7 2) = 6
  · replace h := uu_pos c1 h
    exact yb_X4_parse_84  h
  · replace h := uu_neg c1 h
    by_cases c2 : (s.I 6 5) = 0
    · replace h := uu_pos c2 h
      exact yb_X4_parse_84  h
    · replace h := uu_neg c2 h
      by_cases c3 : (116 : Int32) < (s.I 6 5)
      · replace h := uu_pos c3 h
        exact yb_X4_parse_84  h
      · replace h := uu_neg c3 h
        by_cases c4 : (s.I 6 2) < 320
        · replace h := uu_pos c4 h
          obtain ⟨v5, e6, h⟩ := uu_ob h
          obtain ⟨v7, e8, h⟩ := uu_ob h
          by_cases c116_0 : v7 = 0
          · replace h := uu_pos c116_0 h
            obtain ⟨r9, e10, h⟩ := uu_ob h
            refine ((yc_X4_require  e10).mo (by decide) (fun _ h => nomatch h)).tr ?_
            exact hK13 r9.2 (x5 + 1) _ _ h
          replace h := uu_neg c116_0 h
          by_cases c116_1 : v7 = 1
          · replace h := uu_pos c116_1 h
            by_cases c11 : (s.I 7 2) = 5
            · replace h := uu_pos c11 h
              exact hK13 3 (x5 + 1) _ _ h
            · replace h := uu_neg c11 h
              obtain ⟨r12, e13, h⟩ := uu_ob h
              refine ((yc_X4_startCommand  e13).mo (by decide) (fun _ h => nomatch h)).tr ?_
              exact hK13 r12.2 (x5 + 1) _ _ h
          replace h := uu_neg c116_1 h
          by_cases c116_2 : v7 = 2
          · replace h := uu_pos c116_2 h
            obtain ⟨r14, e15, h⟩ := uu_ob h
            refine ((yc_X4_openBlock  e15).mo (by decide) (fun _ h => nomatch h)).tr ?_
            exact hK13 r14.2 (x5 + 1) _ _ h
          replace h := uu_neg c116_2 h
          by_cases c116_3 : v7 = 3
          · replace h := uu_pos c116_3 h
            obtain ⟨v16, e17, h⟩ := uu_ob h
            by_cases c18 : v16 = true
            · replace h := uu_pos c18 h
              obtain ⟨r19, e20, h⟩ := uu_ob h
              refine ((yc_X4_closeBlock  e20).mo (by decide) (fun _ h => nomatch h)).tr ?_
              exact hK13 r19.2 (x5 + 1) _ _ h
            · replace h := uu_neg c18 h
              obtain ⟨r21, e22, h⟩ := uu_ob h
              refine ((yc_X4_startCommand  e22).mo (by decide) (fun _ h => nomatch h)).tr ?_
              exact hK13 r21.2 (x5 + 1) _ _ h
          replace h := uu_neg c116_3 h
          by_cases c116_4 : v7 = 4
          · replace h := uu_pos c116_4 h
            obtain ⟨r23, e24, h⟩ := uu_ob h
            refine ((yc_X4_startElse  e24).mo (by decide) (fun _ h => nomatch h)).tr ?_
            exact hK13 r23.2 (x5 + 1) _ _ h
          replace h := uu_neg c116_4 h
          by_cases c116_5 : v7 = 5
          · replace h := uu_pos c116_5 h
            obtain ⟨r25, e26, h⟩ := uu_ob h
            refine ((yc_X4_startTest  e26).mo (by decide) (fun _ h => nomatch h)).tr ?_
            exact hK13 r25.2 (x5 + 1) _ _ h
          replace h := uu_neg c116_5 h
          by_cases c116_6 : v7 = 6
          · replace h := uu_pos c116_6 h
            obtain ⟨r27, e28, h⟩ := uu_ob h
            refine ((yc_X4_moreTests  e28).mo (by decide) (fun _ h => nomatch h)).tr ?_
            exact hK13 r27.2 (x5 + 1) _ _ h
          replace h := uu_neg c116_6 h
          by_cases c116_7 : v7 = 7
          · replace h := uu_pos c116_7 h
            obtain ⟨r29, e30, h⟩ := uu_ob h
            refine ((yc_X4_endTest  e30).mo (by decide) (fun _ h => nomatch h)).tr ?_
            exact hK13 r29.2 (x5 + 1) _ _ h
          replace h := uu_neg c116_7 h
          by_cases c116_8 : v7 = 8
          · replace h := uu_pos c116_8 h
            by_cases c31 : (s.I 7 2) = 1
            · replace h := uu_pos c31 h
              obtain ⟨r32, e33, h⟩ := uu_ob h
              refine ((yc_X4_takeTag  e33).mo (by decide) (fun _ h => nomatch h)).tr ?_
              exact hK13 r32.2 (x5 + 1) _ _ h
            · replace h := uu_neg c31 h
              obtain ⟨r34, e35, h⟩ := uu_ob h
              refine ((yc_X4_pop  e35).mo (by decide) (fun _ h => nomatch h)).tr ?_
              exact hK13 r34.2 (x5 + 1) _ _ h
          replace h := uu_neg c116_8 h
          by_cases c116_9 : v7 = 9
          · replace h := uu_pos c116_9 h
            obtain ⟨r36, e37, h⟩ := uu_ob h
            refine ((yc_X4_takeNumber  e37).mo (by decide) (fun _ h => nomatch h)).tr ?_
            exact hK13 r36.2 (x5 + 1) _ _ h
          replace h := uu_neg c116_9 h
          by_cases c116_10 : v7 = 10
          · replace h := uu_pos c116_10 h
            obtain ⟨r38, e39, h⟩ := uu_ob h
            refine ((yc_X4_takeString  e39).mo (by decide) (fun _ h => nomatch h)).tr ?_
            exact hK13 r38.2 (x5 + 1) _ _ h
          replace h := uu_neg c116_10 h
          by_cases c116_11 : v7 = 11
          · replace h := uu_pos c116_11 h
            obtain ⟨v40, e41, h⟩ := uu_ob h
            by_cases c42 : v40 = true
            · replace h := uu_pos c42 h
              obtain ⟨r43, e44, h⟩ := uu_ob h
              refine ((yc_X4_openList  e44).mo (by decide) (fun _ h => nomatch h)).tr ?_
              exact hK13 r43.2 (x5 + 1) _ _ h
            · replace h := uu_neg c42 h
              obtain ⟨r45, e46, h⟩ := uu_ob h
              refine ((yc_X4_takeString  e46).mo (by decide) (fun _ h => nomatch h)).tr ?_
              exact hK13 r45.2 (x5 + 1) _ _ h
          replace h := uu_neg c116_11 h
          by_cases c116_12 : v7 = 12
          · replace h := uu_pos c116_12 h
            obtain ⟨r47, e48, h⟩ := uu_ob h
            refine ((yc_X4_moreStrings  e48).mo (by decide) (fun _ h => nomatch h)).tr ?_
            exact hK13 r47.2 (x5 + 1) _ _ h
          replace h := uu_neg c116_12 h
          obtain ⟨v49, e50, h⟩ := uu_ob h
          by_cases c51 : v49 = true
          · replace h := uu_pos c51 h
            obtain ⟨r52, e53, h⟩ := uu_ob h
            refine ((yc_X4_pop  e53).mo (by decide) (fun _ h => nomatch h)).tr ?_
            exact hK13 r52.2 (x5 + 1) _ _ h
          · replace h := uu_neg c51 h
            exact hK13 0 (x5 + 1) _ _ h
        · replace h := uu_neg c4 h
          exact yb_X4_parse_84  h
set_option maxRecDepth 100000 in
set_option maxHeartbeats 4000000 in
theorem yb_X4_parse_33  {K13 : Int32 → Int32 → uS → Option (uS × Int32)}  (hK13 : ∀ (x4 : Int32) (x5 : Int32)  (s : uS) (r : (uS × Int32)), K13 x4 x5 s = some r → agr [4] [] s r.1) {x4 : Int32} {x5 : Int32} {s : uS} {r : (uS × Int32)}  (h : fb_X4_parse_33  K13 x4 x5 s = some r) : agr [4] [] s r.1 := by
  unfold fb_X4_parse_33 at h
  by_cases c1 : x4 = 1
  · replace h := uu_pos c1 h
    obtain ⟨s2, e3, h⟩ := uu_ob h
    refine ((yc_X2_next  e3).mo (by decide) (fun _ h => nomatch h)).tr ?_
    exact yb_X4_parse_46 hK13 h
  · replace h := uu_neg c1 h
    exact yb_X4_parse_46 hK13 h
set_option maxRecDepth 100000 in
set_option maxHeartbeats 4000000 in
theorem yb_X4_parse_13  {K13 : Int32 → Int32 → uS → Option (uS × Int32)}  (hK13 : ∀ (x4 : Int32) (x5 : Int32)  (s : uS) (r : (uS × Int32)), K13 x4 x5 s = some r → agr [4] [] s r.1) {x4 : Int32} {x5 : Int32} {s : uS} {r : (uS × Int32)}  (h : fb_X4_parse_13  K13 x4 x5 s = some r) : agr [4] [] s r.1 := by
  unfold fb_X4_parse_13 at h
  by_cases c1 : (20000 : Int32) ≤ x5
  · replace h := uu_pos c1 h
    exact yb_X4_parse_425  h
  · replace h := uu_neg c1 h
    by_cases c2 : x4 = 2
    · replace h := uu_pos c2 h
      exact yb_X4_parse_33 hK13 h
    · replace h := uu_neg c2 h
      by_cases c3 : x4 = 1
      · replace h := uu_pos c3 h
        exact yb_X4_parse_33 hK13 h
      · replace h := uu_neg c3 h
        exact yb_X4_parse_425  h
set_option maxRecDepth 100000 in
set_option maxHeartbeats 4000000 in
theorem yn_X4_parse_13     : ∀ (n : Nat) (x4 : Int32) (x5 : Int32)  (s : uS) (r : (uS × Int32)), fn_X4_parse_13   n x4 x5 s = some r → agr [4] [] s r.1 := by
  intro n
  induction n with
  | zero => intro x4 x5  s r h
            cases h
  | succ n ih => intro x4 x5  s r h
                 exact yb_X4_parse_13  ih  h
set_option maxRecDepth 100000 in
set_option maxHeartbeats 4000000 in
theorem yc_X4_parse   {k1 : Nat} {x2 : Int32} {x3 : Int32} {s : uS} {r : (uS × Int32)}  (h : fn_X4_parse  k1 x2 x3 s = some r) : agr [4] [] s r.1 := by
  unfold fn_X4_parse at h
  obtain ⟨s1, e2, h⟩ := uu_ob h
  refine ((yc_X4_open  e2).mo (by decide) (fun _ h => nomatch h)).tr ?_
  exact yn_X4_parse_13  _ _ _ _ _ h
set_option maxRecDepth 100000 in
set_option maxHeartbeats 4000000 in
theorem yb_X6_valueStart_155     {x1 : Int32} {x4 : Int32} {x5 : Int32} {s : uS} {r : (uS × Int32)}  (h : fb_X6_valueStart_155   x1 x4 x5 s = some r) : agr [9] [] s r.1 := by
  unfold fb_X6_valueStart_155 at h
  obtain ⟨s1, e2, h⟩ := uu_ob h
  refine ((yc_X9_putRange so_1054 e2).mo (by decide) (List.forall_mem_cons.mpr ⟨(Or.inl (by decide)), List.forall_mem_cons.mpr ⟨(Or.inl (by decide)), fun _ h => nomatch h⟩⟩)).tr ?_
  obtain ⟨s3, e4, h⟩ := uu_ob h
  refine ((yc_X9_close so_1054 e4).mo (by decide) (List.forall_mem_cons.mpr ⟨(Or.inl (by decide)), List.forall_mem_cons.mpr ⟨(Or.inl (by decide)), List.forall_mem_cons.mpr ⟨(Or.inl (by decide)), fun _ h => nomatch h⟩⟩⟩)).tr ?_
  have hr := Option.some.inj h
  subst hr
  exact agr.rf
set_option maxRecDepth 100000 in
set_option maxHeartbeats 4000000 in
theorem yb_X6_valueStart_106     {x1 : Int32} {x2 : Int32} {x4 : Int32} {x5 : Int32} {s : uS} {r : (uS × Int32)}  (h : fb_X6_valueStart_106   x1 x2 x4 x5 s = some r) : agr [9] [] s r.1 := by
  unfold fb_X6_valueStart_106 at h
  by_cases c1 : x4 = x1
  · replace h := uu_pos c1 h
    have hr := Option.some.inj h
    subst hr
    exact agr.rf
  · replace h := uu_neg c1 h
    by_cases c2 : (60 : Int32) < (x4 - x1)
    · replace h := uu_pos c2 h
      have hr := Option.some.inj h
      subst hr
      exact agr.rf
    · replace h := uu_neg c2 h
      by_cases c3 : x2 ≤ x5
      · replace h := uu_pos c3 h
        have hr := Option.some.inj h
        subst hr
        exact agr.rf
      · replace h := uu_neg c3 h
        obtain ⟨v4, e5, h⟩ := uu_ob h
        by_cases c6 : v4 = 58
        · replace h := uu_pos c6 h
          by_cases c7 : (s.I 1054 3) ≤ 0
          · replace h := uu_pos c7 h
            exact yb_X6_valueStart_155  h
          · replace h := uu_neg c7 h
            obtain ⟨s8, e9, h⟩ := uu_ob h
            refine ((yc_X9_closeTrimmed so_1058 e9).mo (by decide) (List.forall_mem_cons.mpr ⟨(Or.inl (by decide)), List.forall_mem_cons.mpr ⟨(Or.inl (by decide)), List.forall_mem_cons.mpr ⟨(Or.inl (by decide)), fun _ h => nomatch h⟩⟩⟩)).tr ?_
            exact yb_X6_valueStart_155  h
        · replace h := uu_neg c6 h
          have hr := Option.some.inj h
          subst hr
          exact agr.rf
set_option maxRecDepth 100000 in
set_option maxHeartbeats 4000000 in
theorem yb_X6_valueStart_84  {K84 : Int32 → Int32 → Int32 → Int32 → uS → Option (uS × Int32)}  (hK84 : ∀ (x1 : Int32) (x2 : Int32) (x4 : Int32) (x5 : Int32)  (s : uS) (r : (uS × Int32)), K84 x1 x2 x4 x5 s = some r → agr [9] [] s r.1) {x1 : Int32} {x2 : Int32} {x4 : Int32} {x5 : Int32} {s : uS} {r : (uS × Int32)}  (h : fb_X6_valueStart_84  K84 x1 x2 x4 x5 s = some r) : agr [9] [] s r.1 := by
  unfold fb_X6_valueStart_84 at h
  by_cases c1 : x2 ≤ x5
  · replace h := uu_pos c1 h
    exact yb_X6_valueStart_106  h
  · replace h := uu_neg c1 h
    obtain ⟨v2, e3, h⟩ := uu_ob h
    obtain ⟨v4, e5, h⟩ := uu_ob h
    by_cases c6 : v4 = true
    · replace h := uu_pos c6 h
      exact hK84 x1 x2 x4 (x5 + 1) _ _ h
    · replace h := uu_neg c6 h
      exact yb_X6_valueStart_106  h
set_option maxRecDepth 100000 in
set_option maxHeartbeats 4000000 in
theorem yn_X6_valueStart_84     : ∀ (n : Nat) (x1 : Int32) (x2 : Int32) (x4 : Int32) (x5 : Int32)  (s : uS) (r : (uS × Int32)), fn_X6_valueStart_84   n x1 x2 x4 x5 s = some r → agr [9] [] s r.1 := by
  intro n
  induction n with
  | zero => intro x1 x2 x4 x5  s r h
            cases h
  | succ n ih => intro x1 x2 x4 x5  s r h
                 exact yb_X6_valueStart_84  ih  h
set_option maxRecDepth 100000 in
set_option maxHeartbeats 4000000 in
theorem yb_X6_valueStart_41  {K41 : Int32 → Int32 → Int32 → uS → Option (uS × Int32)}  (hK41 : ∀ (x1 : Int32) (x2 : Int32) (x4 : Int32)  (s : uS) (r : (uS × Int32)), K41 x1 x2 x4 s = some r → agr [9] [] s r.1) {x1 : Int32} {x2 : Int32} {x4 : Int32} {s : uS} {r : (uS × Int32)}  (h : fb_X6_valueStart_41  K41 x1 x2 x4 s = some r) : agr [9] [] s r.1 := by
  unfold fb_X6_valueStart_41 at h
  by_cases c1 : x2 ≤ x4
  · replace h := uu_pos c1 h
    exact yn_X6_valueStart_84  _ _ _ _ _ _ _ h
  · replace h := uu_neg c1 h
    obtain ⟨v2, e3, h⟩ := uu_ob h
    by_cases c4 : v2 ≤ 32
    · replace h := uu_pos c4 h
      exact yn_X6_valueStart_84  _ _ _ _ _ _ _ h
    · replace h := uu_neg c4 h
      obtain ⟨v5, e6, h⟩ := uu_ob h
      by_cases c7 : (127 : Int32) ≤ v5
      · replace h := uu_pos c7 h
        exact yn_X6_valueStart_84  _ _ _ _ _ _ _ h
      · replace h := uu_neg c7 h
        obtain ⟨v8, e9, h⟩ := uu_ob h
        by_cases c10 : v8 = 58
        · replace h := uu_pos c10 h
          exact yn_X6_valueStart_84  _ _ _ _ _ _ _ h
        · replace h := uu_neg c10 h
          exact hK41 x1 x2 (x4 + 1) _ _ h
set_option maxRecDepth 100000 in
set_option maxHeartbeats 4000000 in
theorem yn_X6_valueStart_41     : ∀ (n : Nat) (x1 : Int32) (x2 : Int32) (x4 : Int32)  (s : uS) (r : (uS × Int32)), fn_X6_valueStart_41   n x1 x2 x4 s = some r → agr [9] [] s r.1 := by
  intro n
  induction n with
  | zero => intro x1 x2 x4  s r h
            cases h
  | succ n ih => intro x1 x2 x4  s r h
                 exact yb_X6_valueStart_41  ih  h
set_option maxRecDepth 100000 in
set_option maxHeartbeats 4000000 in
theorem yc_X6_valueStart   {x1 : Int32} {x2 : Int32} {s : uS} {r : (uS × Int32)}  (h : fn_X6_valueStart  x1 x2 s = some r) : agr [9] [] s r.1 := by
  unfold fn_X6_valueStart at h
  by_cases c1 : x2 ≤ x1
  · replace h := uu_pos c1 h
    exact yn_X6_valueStart_41  _ _ _ _ _ _ h
  · replace h := uu_neg c1 h
    obtain ⟨v2, e3, h⟩ := uu_ob h
    obtain ⟨v4, e5, h⟩ := uu_ob h
    by_cases c6 : v4 = true
    · replace h := uu_pos c6 h
      by_cases c7 : (s.I 1054 3) ≤ 0
      · replace h := uu_pos c7 h
        have hr := Option.some.inj h
        subst hr
        exact agr.rf
      · replace h := uu_neg c7 h
        have hr := Option.some.inj h
        subst hr
        exact agr.rf
    · replace h := uu_neg c6 h
      exact yn_X6_valueStart_41  _ _ _ _ _ _ h
set_option maxRecDepth 100000 in
set_option maxHeartbeats 4000000 in
theorem yb_X6_readHeader_90      {s : uS} {r : uS}  (h : fb_X6_readHeader_90    s = some r) : agr [9] [] s r := by
  unfold fb_X6_readHeader_90 at h
  by_cases c1 : (s.I 1054 3) ≤ 0
  · replace h := uu_pos c1 h
    have hr := Option.some.inj h
    subst hr
    exact agr.rf
  · replace h := uu_neg c1 h
    obtain ⟨s2, e3, h⟩ := uu_ob h
    refine ((yc_X9_closeTrimmed so_1058 e3).mo (by decide) (List.forall_mem_cons.mpr ⟨(Or.inl (by decide)), List.forall_mem_cons.mpr ⟨(Or.inl (by decide)), List.forall_mem_cons.mpr ⟨(Or.inl (by decide)), fun _ h => nomatch h⟩⟩⟩)).tr ?_
    have hr := Option.some.inj h
    subst hr
    exact agr.rf
set_option maxRecDepth 100000 in
set_option maxHeartbeats 4000000 in
theorem yb_X6_readHeader_38  {K38 : Int32 → Int32 → uS → Option uS}  (hK38 : ∀ (x1 : Int32) (x2 : Int32)  (s : uS) (r : uS), K38 x1 x2 s = some r → agr [9] [] s r) {x1 : Int32} {x2 : Int32} {s : uS} {r : uS}  (h : fb_X6_readHeader_38  K38 x1 x2 s = some r) : agr [9] [] s r := by
  unfold fb_X6_readHeader_38 at h
  by_cases c1 : x1 ≤ x2
  · replace h := uu_pos c1 h
    exact yb_X6_readHeader_90  h
  · replace h := uu_neg c1 h
    obtain ⟨v2, e3, h⟩ := uu_ob h
    obtain ⟨r4, e5, h⟩ := uu_ob h
    refine ((yc_X6_valueStart  e5).mo (by decide) (fun _ h => nomatch h)).tr ?_
    by_cases c6 : 0 ≤ r4.2
    · replace h := uu_pos c6 h
      obtain ⟨s7, e8, h⟩ := uu_ob h
      refine ((yc_X9_putRange so_1058 e8).mo (by decide) (List.forall_mem_cons.mpr ⟨(Or.inl (by decide)), List.forall_mem_cons.mpr ⟨(Or.inl (by decide)), fun _ h => nomatch h⟩⟩)).tr ?_
      exact hK38 x1 (v2 + 2) _ _ h
    · replace h := uu_neg c6 h
      exact yb_X6_readHeader_90  h
set_option maxRecDepth 100000 in
set_option maxHeartbeats 4000000 in
theorem yn_X6_readHeader_38     : ∀ (n : Nat) (x1 : Int32) (x2 : Int32)  (s : uS) (r : uS), fn_X6_readHeader_38   n x1 x2 s = some r → agr [9] [] s r := by
  intro n
  induction n with
  | zero => intro x1 x2  s r h
            cases h
  | succ n ih => intro x1 x2  s r h
                 exact yb_X6_readHeader_38  ih  h
set_option maxRecDepth 100000 in
set_option maxHeartbeats 4000000 in
theorem yc_X6_readHeader    {s : uS} {r : uS}  (h : fn_X6_readHeader   s = some r) : agr [9] [] s r := by
  unfold fn_X6_readHeader at h
  obtain ⟨s1, e2, h⟩ := uu_ob h
  refine ((yc_X9_clear so_1054 e2).mo (by decide) (List.forall_mem_cons.mpr ⟨(Or.inl (by decide)), fun _ h => nomatch h⟩)).tr ?_
  obtain ⟨s3, e4, h⟩ := uu_ob h
  refine ((yc_X9_clear so_1058 e4).mo (by decide) (List.forall_mem_cons.mpr ⟨(Or.inl (by decide)), fun _ h => nomatch h⟩)).tr ?_
  obtain ⟨v5, e6, h⟩ := uu_ob h
  by_cases c7 : v5 = true
  · replace h := uu_pos c7 h
    exact yn_X6_readHeader_38  _ _ _ _ _ h
  · replace h := uu_neg c7 h
    exact yn_X6_readHeader_38  _ _ _ _ _ h
set_option maxRecDepth 100000 in
set_option maxHeartbeats 4000000 in
theorem yb_X6_findAddresses_140  {K32 : Int32 → Int32 → Int32 → Bool → Bool → Int32 → uS → Option uS}  (hK32 : ∀ (x2 : Int32) (x3 : Int32) (x4 : Int32) (b5 : Bool) (b6 : Bool) (x7 : Int32)  (s : uS) (r : uS), K32 x2 x3 x4 b5 b6 x7 s = some r → agr [9] [] s r) {x2 : Int32} {x4 : Int32} {b5 : Bool} {b6 : Bool} {x7 : Int32} {s : uS} {r : uS}  (h : fb_X6_findAddresses_140  K32 x2 x4 b5 b6 x7 s = some r) : agr [9] [] s r := by
  unfold fb_X6_findAddresses_140 at h
  obtain ⟨s1, e2, h⟩ := uu_ob h
  refine ((yc_X9_drop so_1062 e2).mo (by decide) (List.forall_mem_cons.mpr ⟨(Or.inl (by decide)), fun _ h => nomatch h⟩)).tr ?_
  exact hK32 x2 0 x4 b5 b6 (x7 + 1) _ _ h
set_option maxRecDepth 100000 in
set_option maxHeartbeats 4000000 in
theorem yb_X6_findAddresses_101  {K32 : Int32 → Int32 → Int32 → Bool → Bool → Int32 → uS → Option uS}  (hK32 : ∀ (x2 : Int32) (x3 : Int32) (x4 : Int32) (b5 : Bool) (b6 : Bool) (x7 : Int32)  (s : uS) (r : uS), K32 x2 x3 x4 b5 b6 x7 s = some r → agr [9] [] s r) {x2 : Int32} {x3 : Int32} {x4 : Int32} {b5 : Bool} {b6 : Bool} {x7 : Int32} {s : uS} {r : uS}  (h : fb_X6_findAddresses_101  K32 x2 x3 x4 b5 b6 x7 s = some r) : agr [9] [] s r := by
  unfold fb_X6_findAddresses_101 at h
  by_cases c1 : x3 = 1
  · replace h := uu_pos c1 h
    exact yb_X6_findAddresses_140 hK32 h
  · replace h := uu_neg c1 h
    obtain ⟨v2, e3, h⟩ := uu_ob h
    by_cases c4 : v2 = true
    · replace h := uu_pos c4 h
      obtain ⟨s5, e6, h⟩ := uu_ob h
      refine ((yc_X9_close so_1062 e6).mo (by decide) (List.forall_mem_cons.mpr ⟨(Or.inl (by decide)), List.forall_mem_cons.mpr ⟨(Or.inl (by decide)), List.forall_mem_cons.mpr ⟨(Or.inl (by decide)), fun _ h => nomatch h⟩⟩⟩)).tr ?_
      exact yb_X6_findAddresses_140 hK32 h
    · replace h := uu_neg c4 h
      exact yb_X6_findAddresses_140 hK32 h
set_option maxRecDepth 100000 in
set_option maxHeartbeats 4000000 in
theorem yb_X6_findAddresses_169  {K32 : Int32 → Int32 → Int32 → Bool → Bool → Int32 → uS → Option uS}  (hK32 : ∀ (x2 : Int32) (x3 : Int32) (x4 : Int32) (b5 : Bool) (b6 : Bool) (x7 : Int32)  (s : uS) (r : uS), K32 x2 x3 x4 b5 b6 x7 s = some r → agr [9] [] s r) {x2 : Int32} {x3 : Int32} {x4 : Int32} {b5 : Bool} {b6 : Bool} {x7 : Int32} {s : uS} {r : uS}  (h : fb_X6_findAddresses_169  K32 x2 x3 x4 b5 b6 x7 s = some r) : agr [9] [] s r := by
  unfold fb_X6_findAddresses_169 at h
  by_cases c1 : b6 = true
  · replace h := uu_pos c1 h
    exact hK32 x2 x3 x4 b5 false (x7 + 1) _ _ h
  · replace h := uu_neg c1 h
    exact hK32 x2 x3 x4 b5 true (x7 + 1) _ _ h
set_option maxRecDepth 100000 in
set_option maxHeartbeats 4000000 in
theorem yb_X6_findAddresses_225  {K32 : Int32 → Int32 → Int32 → Bool → Bool → Int32 → uS → Option uS}  (hK32 : ∀ (x2 : Int32) (x3 : Int32) (x4 : Int32) (b5 : Bool) (b6 : Bool) (x7 : Int32)  (s : uS) (r : uS), K32 x2 x3 x4 b5 b6 x7 s = some r → agr [9] [] s r) {x2 : Int32} {x3 : Int32} {x4 : Int32} {b5 : Bool} {b6 : Bool} {x7 : Int32} {x8 : Int32} {s : uS} {r : uS}  (h : fb_X6_findAddresses_225  K32 x2 x3 x4 b5 b6 x7 x8 s = some r) : agr [9] [] s r := by
  unfold fb_X6_findAddresses_225 at h
  by_cases c1 : x8 = 40
  · replace h := uu_pos c1 h
    exact hK32 x2 x3 (x4 + 1) b5 b6 (x7 + 1) _ _ h
  · replace h := uu_neg c1 h
    exact hK32 x2 x3 (x4 + (-1)) b5 b6 (x7 + 1) _ _ h
set_option maxRecDepth 100000 in
set_option maxHeartbeats 4000000 in
theorem yb_X6_findAddresses_319  {K32 : Int32 → Int32 → Int32 → Bool → Bool → Int32 → uS → Option uS}  (hK32 : ∀ (x2 : Int32) (x3 : Int32) (x4 : Int32) (b5 : Bool) (b6 : Bool) (x7 : Int32)  (s : uS) (r : uS), K32 x2 x3 x4 b5 b6 x7 s = some r → agr [9] [] s r) {x2 : Int32} {x3 : Int32} {x4 : Int32} {b6 : Bool} {x7 : Int32} {x8 : Int32} {bs0 : Bool} {s : uS} {r : uS}  (h : fb_X6_findAddresses_319  K32 x2 x3 x4 b6 x7 x8 bs0 s = some r) : agr [9] [] s r := by
  unfold fb_X6_findAddresses_319 at h
  by_cases c1 : x3 = 2
  · replace h := uu_pos c1 h
    exact hK32 x2 x3 x4 bs0 b6 (x7 + 1) _ _ h
  · replace h := uu_neg c1 h
    obtain ⟨s2, e3, h⟩ := uu_ob h
    refine ((yc_X9_put so_1062 e3).mo (by decide) (List.forall_mem_cons.mpr ⟨(Or.inl (by decide)), List.forall_mem_cons.mpr ⟨(Or.inl (by decide)), fun _ h => nomatch h⟩⟩)).tr ?_
    exact hK32 x2 x3 x4 bs0 b6 (x7 + 1) _ _ h
set_option maxRecDepth 100000 in
set_option maxHeartbeats 4000000 in
theorem yb_X6_findAddresses_307  {K32 : Int32 → Int32 → Int32 → Bool → Bool → Int32 → uS → Option uS}  (hK32 : ∀ (x2 : Int32) (x3 : Int32) (x4 : Int32) (b5 : Bool) (b6 : Bool) (x7 : Int32)  (s : uS) (r : uS), K32 x2 x3 x4 b5 b6 x7 s = some r → agr [9] [] s r) {x2 : Int32} {x3 : Int32} {x4 : Int32} {b6 : Bool} {x7 : Int32} {x8 : Int32} {s : uS} {r : uS}  (h : fb_X6_findAddresses_307  K32 x2 x3 x4 b6 x7 x8 s = some r) : agr [9] [] s r := by
  unfold fb_X6_findAddresses_307 at h
  by_cases c1 : x8 = 34
  · replace h := uu_pos c1 h
    exact yb_X6_findAddresses_319 hK32 h
  · replace h := uu_neg c1 h
    exact yb_X6_findAddresses_319 hK32 h
set_option maxRecDepth 100000 in
set_option maxHeartbeats 4000000 in
theorem yb_X6_findAddresses_290  {K32 : Int32 → Int32 → Int32 → Bool → Bool → Int32 → uS → Option uS}  (hK32 : ∀ (x2 : Int32) (x3 : Int32) (x4 : Int32) (b5 : Bool) (b6 : Bool) (x7 : Int32)  (s : uS) (r : uS), K32 x2 x3 x4 b5 b6 x7 s = some r → agr [9] [] s r) {x2 : Int32} {x3 : Int32} {x4 : Int32} {b5 : Bool} {b6 : Bool} {x7 : Int32} {x8 : Int32} {s : uS} {r : uS}  (h : fb_X6_findAddresses_290  K32 x2 x3 x4 b5 b6 x7 x8 s = some r) : agr [9] [] s r := by
  unfold fb_X6_findAddresses_290 at h
  by_cases c1 : x8 = 62
  · replace h := uu_pos c1 h
    by_cases c2 : x3 = 1
    · replace h := uu_pos c2 h
      exact hK32 x2 2 x4 b5 b6 (x7 + 1) _ _ h
    · replace h := uu_neg c2 h
      exact yb_X6_findAddresses_307 hK32 h
  · replace h := uu_neg c1 h
    exact yb_X6_findAddresses_307 hK32 h
set_option maxRecDepth 100000 in
set_option maxHeartbeats 4000000 in
theorem yb_X6_findAddresses_245  {K32 : Int32 → Int32 → Int32 → Bool → Bool → Int32 → uS → Option uS}  (hK32 : ∀ (x2 : Int32) (x3 : Int32) (x4 : Int32) (b5 : Bool) (b6 : Bool) (x7 : Int32)  (s : uS) (r : uS), K32 x2 x3 x4 b5 b6 x7 s = some r → agr [9] [] s r) {x2 : Int32} {x3 : Int32} {x4 : Int32} {b5 : Bool} {b6 : Bool} {x7 : Int32} {x8 : Int32} {s : uS} {r : uS}  (h : fb_X6_findAddresses_245  K32 x2 x3 x4 b5 b6 x7 x8 s = some r) : agr [9] [] s r := by
  unfold fb_X6_findAddresses_245 at h
  by_cases c1 : 0 < x4
  · replace h := uu_pos c1 h
    exact hK32 x2 x3 x4 b5 b6 (x7 + 1) _ _ h
  · replace h := uu_neg c1 h
    by_cases c2 : x8 = 32
    · replace h := uu_pos c2 h
      exact hK32 x2 x3 x4 b5 b6 (x7 + 1) _ _ h
    · replace h := uu_neg c2 h
      by_cases c3 : x8 = 9
      · replace h := uu_pos c3 h
        exact hK32 x2 x3 x4 b5 b6 (x7 + 1) _ _ h
      · replace h := uu_neg c3 h
        by_cases c4 : x8 = 60
        · replace h := uu_pos c4 h
          by_cases c5 : x3 = 0
          · replace h := uu_pos c5 h
            obtain ⟨s6, e7, h⟩ := uu_ob h
            refine ((yc_X9_drop so_1062 e7).mo (by decide) (List.forall_mem_cons.mpr ⟨(Or.inl (by decide)), fun _ h => nomatch h⟩)).tr ?_
            exact hK32 x2 1 x4 b5 b6 (x7 + 1) _ _ h
          · replace h := uu_neg c5 h
            exact yb_X6_findAddresses_290 hK32 h
        · replace h := uu_neg c4 h
          exact yb_X6_findAddresses_290 hK32 h
set_option maxRecDepth 100000 in
set_option maxHeartbeats 4000000 in
theorem yb_X6_findAddresses_184  {K32 : Int32 → Int32 → Int32 → Bool → Bool → Int32 → uS → Option uS}  (hK32 : ∀ (x2 : Int32) (x3 : Int32) (x4 : Int32) (b5 : Bool) (b6 : Bool) (x7 : Int32)  (s : uS) (r : uS), K32 x2 x3 x4 b5 b6 x7 s = some r → agr [9] [] s r) {x2 : Int32} {x3 : Int32} {x4 : Int32} {b5 : Bool} {b6 : Bool} {x7 : Int32} {x8 : Int32} {s : uS} {r : uS}  (h : fb_X6_findAddresses_184  K32 x2 x3 x4 b5 b6 x7 x8 s = some r) : agr [9] [] s r := by
  unfold fb_X6_findAddresses_184 at h
  by_cases c1 : b5 = true
  · replace h := uu_pos c1 h
    by_cases c2 : x8 = 34
    · replace h := uu_pos c2 h
      exact hK32 x2 x3 x4 false b6 (x7 + 1) _ _ h
    · replace h := uu_neg c2 h
      exact hK32 x2 x3 x4 true b6 (x7 + 1) _ _ h
  · replace h := uu_neg c1 h
    by_cases c3 : x8 = 40
    · replace h := uu_pos c3 h
      exact yb_X6_findAddresses_225 hK32 h
    · replace h := uu_neg c3 h
      by_cases c4 : x8 = 41
      · replace h := uu_pos c4 h
        by_cases c5 : x4 ≤ 0
        · replace h := uu_pos c5 h
          exact yb_X6_findAddresses_245 hK32 h
        · replace h := uu_neg c5 h
          exact yb_X6_findAddresses_225 hK32 h
      · replace h := uu_neg c4 h
        exact yb_X6_findAddresses_245 hK32 h
set_option maxRecDepth 100000 in
set_option maxHeartbeats 4000000 in
theorem yb_X6_findAddresses_152  {K32 : Int32 → Int32 → Int32 → Bool → Bool → Int32 → uS → Option uS}  (hK32 : ∀ (x2 : Int32) (x3 : Int32) (x4 : Int32) (b5 : Bool) (b6 : Bool) (x7 : Int32)  (s : uS) (r : uS), K32 x2 x3 x4 b5 b6 x7 s = some r → agr [9] [] s r) {x2 : Int32} {x3 : Int32} {x4 : Int32} {b5 : Bool} {b6 : Bool} {x7 : Int32} {x8 : Int32} {b9 : Bool} {s : uS} {r : uS}  (h : fb_X6_findAddresses_152  K32 x2 x3 x4 b5 b6 x7 x8 b9 s = some r) : agr [9] [] s r := by
  unfold fb_X6_findAddresses_152 at h
  by_cases c1 : b9 = true
  · replace h := uu_pos c1 h
    by_cases c2 : b6 = true
    · replace h := uu_pos c2 h
      exact yb_X6_findAddresses_169 hK32 h
    · replace h := uu_neg c2 h
      by_cases c3 : x8 = 92
      · replace h := uu_pos c3 h
        exact yb_X6_findAddresses_169 hK32 h
      · replace h := uu_neg c3 h
        exact yb_X6_findAddresses_184 hK32 h
  · replace h := uu_neg c1 h
    exact yb_X6_findAddresses_184 hK32 h
set_option maxRecDepth 100000 in
set_option maxHeartbeats 4000000 in
theorem yb_X6_findAddresses_76  {K32 : Int32 → Int32 → Int32 → Bool → Bool → Int32 → uS → Option uS}  (hK32 : ∀ (x2 : Int32) (x3 : Int32) (x4 : Int32) (b5 : Bool) (b6 : Bool) (x7 : Int32)  (s : uS) (r : uS), K32 x2 x3 x4 b5 b6 x7 s = some r → agr [9] [] s r) {x2 : Int32} {x3 : Int32} {x4 : Int32} {b5 : Bool} {b6 : Bool} {x7 : Int32} {x8 : Int32} {bs0 : Bool} {s : uS} {r : uS}  (h : fb_X6_findAddresses_76  K32 x2 x3 x4 b5 b6 x7 x8 bs0 s = some r) : agr [9] [] s r := by
  unfold fb_X6_findAddresses_76 at h
  by_cases c1 : x7 = x2
  · replace h := uu_pos c1 h
    exact yb_X6_findAddresses_101 hK32 h
  · replace h := uu_neg c1 h
    by_cases c2 : x8 = 44
    · replace h := uu_pos c2 h
      by_cases c3 : bs0 = true
      · replace h := uu_pos c3 h
        exact yb_X6_findAddresses_152 hK32 h
      · replace h := uu_neg c3 h
        by_cases c4 : x3 = 1
        · replace h := uu_pos c4 h
          exact yb_X6_findAddresses_152 hK32 h
        · replace h := uu_neg c4 h
          exact yb_X6_findAddresses_101 hK32 h
    · replace h := uu_neg c2 h
      exact yb_X6_findAddresses_152 hK32 h
set_option maxRecDepth 100000 in
set_option maxHeartbeats 4000000 in
theorem yb_X6_findAddresses_59  {K32 : Int32 → Int32 → Int32 → Bool → Bool → Int32 → uS → Option uS}  (hK32 : ∀ (x2 : Int32) (x3 : Int32) (x4 : Int32) (b5 : Bool) (b6 : Bool) (x7 : Int32)  (s : uS) (r : uS), K32 x2 x3 x4 b5 b6 x7 s = some r → agr [9] [] s r) {x2 : Int32} {x3 : Int32} {x4 : Int32} {b5 : Bool} {b6 : Bool} {x7 : Int32} {xs0 : Int32} {s : uS} {r : uS}  (h : fb_X6_findAddresses_59  K32 x2 x3 x4 b5 b6 x7 xs0 s = some r) : agr [9] [] s r := by
  unfold fb_X6_findAddresses_59 at h
  by_cases c1 : b5 = true
  · replace h := uu_pos c1 h
    exact yb_X6_findAddresses_76 hK32 h
  · replace h := uu_neg c1 h
    by_cases c2 : x4 ≤ 0
    · replace h := uu_pos c2 h
      exact yb_X6_findAddresses_76 hK32 h
    · replace h := uu_neg c2 h
      exact yb_X6_findAddresses_76 hK32 h
set_option maxRecDepth 100000 in
set_option maxHeartbeats 4000000 in
theorem yb_X6_findAddresses_32  {K32 : Int32 → Int32 → Int32 → Bool → Bool → Int32 → uS → Option uS}  (hK32 : ∀ (x2 : Int32) (x3 : Int32) (x4 : Int32) (b5 : Bool) (b6 : Bool) (x7 : Int32)  (s : uS) (r : uS), K32 x2 x3 x4 b5 b6 x7 s = some r → agr [9] [] s r) {x2 : Int32} {x3 : Int32} {x4 : Int32} {b5 : Bool} {b6 : Bool} {x7 : Int32} {s : uS} {r : uS}  (h : fb_X6_findAddresses_32  K32 x2 x3 x4 b5 b6 x7 s = some r) : agr [9] [] s r := by
  unfold fb_X6_findAddresses_32 at h
  by_cases c1 : x2 < x7
  · replace h := uu_pos c1 h
    have hr := Option.some.inj h
    subst hr
    exact agr.rf
  · replace h := uu_neg c1 h
    by_cases c2 : x2 ≤ x7
    · replace h := uu_pos c2 h
      exact yb_X6_findAddresses_59 hK32 h
    · replace h := uu_neg c2 h
      obtain ⟨v3, e4, h⟩ := uu_ob h
      exact yb_X6_findAddresses_59 hK32 h
set_option maxRecDepth 100000 in
set_option maxHeartbeats 4000000 in
theorem yn_X6_findAddresses_32     : ∀ (n : Nat) (x2 : Int32) (x3 : Int32) (x4 : Int32) (b5 : Bool) (b6 : Bool) (x7 : Int32)  (s : uS) (r : uS), fn_X6_findAddresses_32   n x2 x3 x4 b5 b6 x7 s = some r → agr [9] [] s r := by
  intro n
  induction n with
  | zero => intro x2 x3 x4 b5 b6 x7  s r h
            cases h
  | succ n ih => intro x2 x3 x4 b5 b6 x7  s r h
                 exact yb_X6_findAddresses_32  ih  h
set_option maxRecDepth 100000 in
set_option maxHeartbeats 4000000 in
theorem yc_X6_findAddresses   {x1 : Int32} {s : uS} {r : uS}  (h : fn_X6_findAddresses  x1 s = some r) : agr [9] [] s r := by
  unfold fn_X6_findAddresses at h
  obtain ⟨v1, e2, h⟩ := uu_ob h
  obtain ⟨v3, e4, h⟩ := uu_ob h
  exact yn_X6_findAddresses_32  _ _ _ _ _ _ _ _ _ h
set_option maxRecDepth 100000 in
set_option maxHeartbeats 4000000 in
theorem yb_X9_addFrom_32     {k0 : Nat} {s : uS} {r : uS} (hk0 : uSo k0 9) (h : fb_X9_addFrom_32   k0 s = some r) : agr [] [k0, k0 + 1, k0 + 3, k0 + 2] s r := by
  unfold fb_X9_addFrom_32 at h
  obtain ⟨s1, e2, h⟩ := uu_ob h
  refine ((yc_X9_close hk0 e2).mo (by decide) (List.forall_mem_cons.mpr ⟨(Or.inr (List.mem_of_getElem? (i := 0) rfl)), List.forall_mem_cons.mpr ⟨(Or.inr (List.mem_of_getElem? (i := 3) rfl)), List.forall_mem_cons.mpr ⟨(Or.inr (List.mem_of_getElem? (i := 2) rfl)), fun _ h => nomatch h⟩⟩⟩)).tr ?_
  have hr := Option.some.inj h
  subst hr
  exact agr.rf
set_option maxRecDepth 100000 in
set_option maxHeartbeats 4000000 in
theorem yc_X9_addFrom   {k0 : Nat} {k1 : Nat} {x2 : Int32} {s : uS} {r : uS} (hk0 : uSo k0 9) (hk1 : uSo k1 9) (h : fn_X9_addFrom  k0 k1 x2 s = some r) : agr [] [k0, k0 + 1, k0 + 3, k0 + 2] s r := by
  unfold fn_X9_addFrom at h
  by_cases c1 : x2 < 0
  · replace h := uu_pos c1 h
    exact yb_X9_addFrom_32 hk0 h
  · replace h := uu_neg c1 h
    by_cases c2 : (s.I k1 3) ≤ x2
    · replace h := uu_pos c2 h
      exact yb_X9_addFrom_32 hk0 h
    · replace h := uu_neg c2 h
      obtain ⟨v3, e4, h⟩ := uu_ob h
      obtain ⟨v5, e6, h⟩ := uu_ob h
      obtain ⟨s7, e8, h⟩ := uu_ob h
      refine ((yc_X9_putRange hk0 e8).mo (by decide) (List.forall_mem_cons.mpr ⟨(Or.inr (List.mem_of_getElem? (i := 1) rfl)), List.forall_mem_cons.mpr ⟨(Or.inr (List.mem_of_getElem? (i := 0) rfl)), fun _ h => nomatch h⟩⟩)).tr ?_
      exact yb_X9_addFrom_32 hk0 h
set_option maxRecDepth 100000 in
set_option maxHeartbeats 4000000 in
theorem yb_X6_gatherEnvelope_122     {x2 : Int32} {b4 : Bool} {s : uS} {r : uS}  (h : fb_X6_gatherEnvelope_122   x2 b4 s = some r) : agr [9] [] s r := by
  unfold fb_X6_gatherEnvelope_122 at h
  by_cases c1 : b4 = true
  · replace h := uu_pos c1 h
    obtain ⟨s2, e3, h⟩ := uu_ob h
    refine ((yc_X9_addFrom so_1062 so_1047 e3).mo (by decide) (List.forall_mem_cons.mpr ⟨(Or.inl (by decide)), List.forall_mem_cons.mpr ⟨(Or.inl (by decide)), List.forall_mem_cons.mpr ⟨(Or.inl (by decide)), List.forall_mem_cons.mpr ⟨(Or.inl (by decide)), fun _ h => nomatch h⟩⟩⟩⟩)).tr ?_
    have hr := Option.some.inj h
    subst hr
    exact agr.rf
  · replace h := uu_neg c1 h
    have hr := Option.some.inj h
    subst hr
    exact agr.rf
set_option maxRecDepth 100000 in
set_option maxHeartbeats 4000000 in
theorem yb_X6_gatherEnvelope_78  {K8 : Nat → Int32 → Bool → Bool → Int32 → uS → Option uS}  (hK8 : ∀ (k1 : Nat) (x2 : Int32) (b3 : Bool) (b4 : Bool) (x5 : Int32) (hk1 : uSo k1 3) (s : uS) (r : uS), K8 k1 x2 b3 b4 x5 s = some r → agr [9] [] s r) {k1 : Nat} {x2 : Int32} {b4 : Bool} {x5 : Int32} {x7 : Int32} {bs0 : Bool} {s : uS} {r : uS} (hk1 : uSo k1 3) (h : fb_X6_gatherEnvelope_78  K8 k1 x2 b4 x5 x7 bs0 s = some r) : agr [9] [] s r := by
  unfold fb_X6_gatherEnvelope_78 at h
  by_cases c1 : b4 = true
  · replace h := uu_pos c1 h
    exact hK8 k1 x2 bs0 true (x5 + 1) hk1 _ _ h
  · replace h := uu_neg c1 h
    by_cases c2 : x7 = 1
    · replace h := uu_pos c2 h
      exact hK8 k1 x2 bs0 true (x5 + 1) hk1 _ _ h
    · replace h := uu_neg c2 h
      exact hK8 k1 x2 bs0 false (x5 + 1) hk1 _ _ h
set_option maxRecDepth 100000 in
set_option maxHeartbeats 4000000 in
theorem yb_X6_gatherEnvelope_8  {K8 : Nat → Int32 → Bool → Bool → Int32 → uS → Option uS}  (hK8 : ∀ (k1 : Nat) (x2 : Int32) (b3 : Bool) (b4 : Bool) (x5 : Int32) (hk1 : uSo k1 3) (s : uS) (r : uS), K8 k1 x2 b3 b4 x5 s = some r → agr [9] [] s r) {k1 : Nat} {x2 : Int32} {b3 : Bool} {b4 : Bool} {x5 : Int32} {s : uS} {r : uS} (hk1 : uSo k1 3) (h : fb_X6_gatherEnvelope_8  K8 k1 x2 b3 b4 x5 s = some r) : agr [9] [] s r := by
  unfold fb_X6_gatherEnvelope_8 at h
  obtain ⟨v1, e2, h⟩ := uu_ob h
  by_cases c3 : v1 ≤ x5
  · replace h := uu_pos c3 h
    by_cases c4 : b3 = true
    · replace h := uu_pos c4 h
      obtain ⟨s5, e6, h⟩ := uu_ob h
      refine ((yc_X9_addFrom so_1062 so_1043 e6).mo (by decide) (List.forall_mem_cons.mpr ⟨(Or.inl (by decide)), List.forall_mem_cons.mpr ⟨(Or.inl (by decide)), List.forall_mem_cons.mpr ⟨(Or.inl (by decide)), List.forall_mem_cons.mpr ⟨(Or.inl (by decide)), fun _ h => nomatch h⟩⟩⟩⟩)).tr ?_
      exact yb_X6_gatherEnvelope_122  h
    · replace h := uu_neg c4 h
      exact yb_X6_gatherEnvelope_122  h
  · replace h := uu_neg c3 h
    obtain ⟨v7, e8, h⟩ := uu_ob h
    obtain ⟨v10, e11, h⟩ := uu_ob h
    obtain ⟨v12, e13, h⟩ := uu_ob h
    obtain ⟨v14, e15, h⟩ := uu_ob h
    by_cases c16 : b3 = true
    · replace h := uu_pos c16 h
      exact yb_X6_gatherEnvelope_78 hK8 hk1 h
    · replace h := uu_neg c16 h
      by_cases c17 : v14 = 0
      · replace h := uu_pos c17 h
        exact yb_X6_gatherEnvelope_78 hK8 hk1 h
      · replace h := uu_neg c17 h
        exact yb_X6_gatherEnvelope_78 hK8 hk1 h
set_option maxRecDepth 100000 in
set_option maxHeartbeats 4000000 in
theorem yn_X6_gatherEnvelope_8     : ∀ (n : Nat) (k1 : Nat) (x2 : Int32) (b3 : Bool) (b4 : Bool) (x5 : Int32) (hk1 : uSo k1 3) (s : uS) (r : uS), fn_X6_gatherEnvelope_8   n k1 x2 b3 b4 x5 s = some r → agr [9] [] s r := by
  intro n
  induction n with
  | zero => intro k1 x2 b3 b4 x5 hk1 s r h
            cases h
  | succ n ih => intro k1 x2 b3 b4 x5 hk1 s r h
                 exact yb_X6_gatherEnvelope_8  ih hk1 h
set_option maxRecDepth 100000 in
set_option maxHeartbeats 4000000 in
theorem yc_X6_gatherEnvelope   {k1 : Nat} {x2 : Int32} {s : uS} {r : uS} (hk1 : uSo k1 3) (h : fn_X6_gatherEnvelope  k1 x2 s = some r) : agr [9] [] s r := by
  unfold fn_X6_gatherEnvelope at h
  exact yn_X6_gatherEnvelope_8  _ _ _ _ _ _ hk1 _ _ h
