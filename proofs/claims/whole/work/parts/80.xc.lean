set_option maxRecDepth 100000 in
set_option maxHeartbeats 4000000 in
theorem yb_X12_tags_134  {K0 : Int32 → uS → Option uS}  (hK0 : ∀ (x1 : Int32)  (s : uS) (r : uS), K0 x1 s = some r → agr [11] [] s r) {x1 : Int32} {b2 : Bool} {s : uS} {r : uS}  (h : fb_X12_tags_134  K0 x1 b2 s = some r) : agr [11] [] s r := by
  unfold fb_X12_tags_134 at h
  by_cases c1 : b2 = true
  · replace h := uu_pos c1 h
    obtain ⟨s2, e3, h⟩ := uu_ob h
    refine (agr_iput e3 (Or.inl (by decide))).tr ?_
    obtain ⟨r4, e5, h⟩ := uu_ob h
    refine ((yc_X12_list  e5).mo (by decide) (fun _ h => nomatch h)).tr ?_
    obtain ⟨s6, e7, h⟩ := uu_ob h
    refine (agr_iput e7 (Or.inl (by decide))).tr ?_
    exact hK0 x1 _ _ h
  · replace h := uu_neg c1 h
    exact hK0 x1 _ _ h
set_option maxRecDepth 100000 in
set_option maxHeartbeats 4000000 in
theorem yb_X12_tags_116  {K0 : Int32 → uS → Option uS}  (hK0 : ∀ (x1 : Int32)  (s : uS) (r : uS), K0 x1 s = some r → agr [11] [] s r) {x1 : Int32} {b2 : Bool} {b3 : Bool} {xs0 : Int32} {s : uS} {r : uS}  (h : fb_X12_tags_116  K0 x1 b2 b3 xs0 s = some r) : agr [11] [] s r := by
  unfold fb_X12_tags_116 at h
  obtain ⟨s1, e2, h⟩ := uu_ob h
  refine ((yc_X12_needs  e2).mo (by decide) (fun _ h => nomatch h)).tr ?_
  obtain ⟨s3, e4, h⟩ := uu_ob h
  refine ((yc_X12_next  e4).mo (by decide) (fun _ h => nomatch h)).tr ?_
  by_cases c5 : b3 = true
  · replace h := uu_pos c5 h
    obtain ⟨s6, e7, h⟩ := uu_ob h
    refine (agr_iput e7 (Or.inl (by decide))).tr ?_
    exact yb_X12_tags_134 hK0 h
  · replace h := uu_neg c5 h
    exact yb_X12_tags_134 hK0 h
set_option maxRecDepth 100000 in
set_option maxHeartbeats 4000000 in
theorem yb_X12_tags_104  {K0 : Int32 → uS → Option uS}  (hK0 : ∀ (x1 : Int32)  (s : uS) (r : uS), K0 x1 s = some r → agr [11] [] s r) {x1 : Int32} {b2 : Bool} {b3 : Bool} {s : uS} {r : uS}  (h : fb_X12_tags_104  K0 x1 b2 b3 s = some r) : agr [11] [] s r := by
  unfold fb_X12_tags_104 at h
  by_cases c1 : b2 = true
  · replace h := uu_pos c1 h
    exact yb_X12_tags_116 hK0 h
  · replace h := uu_neg c1 h
    exact yb_X12_tags_116 hK0 h
set_option maxRecDepth 100000 in
set_option maxHeartbeats 4000000 in
theorem yb_X12_tags_96  {K0 : Int32 → uS → Option uS}  (hK0 : ∀ (x1 : Int32)  (s : uS) (r : uS), K0 x1 s = some r → agr [11] [] s r) {x1 : Int32} {b2 : Bool} {b3 : Bool} {s : uS} {r : uS}  (h : fb_X12_tags_96  K0 x1 b2 b3 s = some r) : agr [11] [] s r := by
  unfold fb_X12_tags_96 at h
  obtain ⟨s1, e2, h⟩ := uu_ob h
  refine ((yc_X12_fail  e2).mo (by decide) (fun _ h => nomatch h)).tr ?_
  exact yb_X12_tags_104 hK0 h
set_option maxRecDepth 100000 in
set_option maxHeartbeats 4000000 in
theorem yb_X12_tags_83  {K0 : Int32 → uS → Option uS}  (hK0 : ∀ (x1 : Int32)  (s : uS) (r : uS), K0 x1 s = some r → agr [11] [] s r) {x1 : Int32} {b2 : Bool} {b3 : Bool} {s : uS} {r : uS}  (h : fb_X12_tags_83  K0 x1 b2 b3 s = some r) : agr [11] [] s r := by
  unfold fb_X12_tags_83 at h
  by_cases c1 : b3 = true
  · replace h := uu_pos c1 h
    obtain ⟨v2, e3, h⟩ := uu_ob h
    by_cases c4 : v2 = 0
    · replace h := uu_pos c4 h
      exact yb_X12_tags_104 hK0 h
    · replace h := uu_neg c4 h
      exact yb_X12_tags_96 hK0 h
  · replace h := uu_neg c1 h
    exact yb_X12_tags_104 hK0 h
set_option maxRecDepth 100000 in
set_option maxHeartbeats 4000000 in
theorem yb_X12_tags_69  {K0 : Int32 → uS → Option uS}  (hK0 : ∀ (x1 : Int32)  (s : uS) (r : uS), K0 x1 s = some r → agr [11] [] s r) {x1 : Int32} {b2 : Bool} {b3 : Bool} {s : uS} {r : uS}  (h : fb_X12_tags_69  K0 x1 b2 b3 s = some r) : agr [11] [] s r := by
  unfold fb_X12_tags_69 at h
  by_cases c1 : b2 = true
  · replace h := uu_pos c1 h
    obtain ⟨v2, e3, h⟩ := uu_ob h
    by_cases c4 : v2 = (-1)
    · replace h := uu_pos c4 h
      exact yb_X12_tags_83 hK0 h
    · replace h := uu_neg c4 h
      exact yb_X12_tags_96 hK0 h
  · replace h := uu_neg c1 h
    exact yb_X12_tags_83 hK0 h
set_option maxRecDepth 100000 in
set_option maxHeartbeats 4000000 in
theorem yb_X12_tags_60  {K0 : Int32 → uS → Option uS}  (hK0 : ∀ (x1 : Int32)  (s : uS) (r : uS), K0 x1 s = some r → agr [11] [] s r) {x1 : Int32} {b2 : Bool} {bs0 : Bool} {s : uS} {r : uS}  (h : fb_X12_tags_60  K0 x1 b2 bs0 s = some r) : agr [11] [] s r := by
  unfold fb_X12_tags_60 at h
  by_cases c1 : b2 = true
  · replace h := uu_pos c1 h
    exact yb_X12_tags_69 hK0 h
  · replace h := uu_neg c1 h
    by_cases c2 : bs0 = true
    · replace h := uu_pos c2 h
      exact yb_X12_tags_69 hK0 h
    · replace h := uu_neg c2 h
      exact yb_X12_tags_96 hK0 h
set_option maxRecDepth 100000 in
set_option maxHeartbeats 4000000 in
theorem yb_X12_tags_34  {K0 : Int32 → uS → Option uS}  (hK0 : ∀ (x1 : Int32)  (s : uS) (r : uS), K0 x1 s = some r → agr [11] [] s r) {x1 : Int32} {bs0 : Bool} {s : uS} {r : uS}  (h : fb_X12_tags_34  K0 x1 bs0 s = some r) : agr [11] [] s r := by
  unfold fb_X12_tags_34 at h
  obtain ⟨v2, e3, h⟩ := uu_ob h
  by_cases c4 : v2 = true
  · replace h := uu_pos c4 h
    obtain ⟨v5, e6, h⟩ := uu_ob h
    by_cases c7 : v5 = 4
    · replace h := uu_pos c7 h
      exact yb_X12_tags_60 hK0 h
    · replace h := uu_neg c7 h
      exact yb_X12_tags_60 hK0 h
  · replace h := uu_neg c4 h
    exact yb_X12_tags_60 hK0 h
set_option maxRecDepth 100000 in
set_option maxHeartbeats 4000000 in
theorem yb_X12_tags_0  {K0 : Int32 → uS → Option uS}  (hK0 : ∀ (x1 : Int32)  (s : uS) (r : uS), K0 x1 s = some r → agr [11] [] s r) {x1 : Int32} {s : uS} {r : uS}  (h : fb_X12_tags_0  K0 x1 s = some r) : agr [11] [] s r := by
  unfold fb_X12_tags_0 at h
  obtain ⟨v1, e2, h⟩ := uu_ob h
  by_cases c3 : v1 = true
  · replace h := uu_pos c3 h
    obtain ⟨v5, e6, h⟩ := uu_ob h
    by_cases c7 : v5 = true
    · replace h := uu_pos c7 h
      obtain ⟨v8, e9, h⟩ := uu_ob h
      by_cases c10 : v8 = 6
      · replace h := uu_pos c10 h
        exact yb_X12_tags_34 hK0 h
      · replace h := uu_neg c10 h
        exact yb_X12_tags_34 hK0 h
    · replace h := uu_neg c7 h
      exact yb_X12_tags_34 hK0 h
  · replace h := uu_neg c3 h
    have hr := Option.some.inj h
    subst hr
    exact agr.rf
set_option maxRecDepth 100000 in
set_option maxHeartbeats 4000000 in
theorem yn_X12_tags_0     : ∀ (n : Nat) (x1 : Int32)  (s : uS) (r : uS), fn_X12_tags_0   n x1 s = some r → agr [11] [] s r := by
  intro n
  induction n with
  | zero => intro x1  s r h
            cases h
  | succ n ih => intro x1  s r h
                 exact yb_X12_tags_0  ih  h
set_option maxRecDepth 100000 in
set_option maxHeartbeats 4000000 in
theorem yc_X12_tags   {x1 : Int32} {s : uS} {r : uS}  (h : fn_X12_tags  x1 s = some r) : agr [11] [] s r := by
  unfold fn_X12_tags at h
  exact yn_X12_tags_0  _ _ _ _ h
set_option maxRecDepth 100000 in
set_option maxHeartbeats 4000000 in
theorem yb_X12_file_124     {x1 : Int32} {x2 : Int32} {s : uS} {r : uS}  (h : fb_X12_file_124   x1 x2 s = some r) : agr [11] [] s r := by
  unfold fb_X12_file_124 at h
  obtain ⟨s1, e2, h⟩ := uu_ob h
  refine (agr_iput e2 (Or.inl (by decide))).tr ?_
  obtain ⟨s3, e4, h⟩ := uu_ob h
  refine ((yc_X12_next  e4).mo (by decide) (fun _ h => nomatch h)).tr ?_
  have hr := Option.some.inj h
  subst hr
  exact agr.rf
set_option maxRecDepth 100000 in
set_option maxHeartbeats 4000000 in
theorem yb_X12_file_112     {x1 : Int32} {x2 : Int32} {b3 : Bool} {s : uS} {r : uS}  (h : fb_X12_file_112   x1 x2 b3 s = some r) : agr [11] [] s r := by
  unfold fb_X12_file_112 at h
  by_cases c1 : b3 = true
  · replace h := uu_pos c1 h
    exact yb_X12_file_124  h
  · replace h := uu_neg c1 h
    obtain ⟨s2, e3, h⟩ := uu_ob h
    refine ((yc_X12_fail  e3).mo (by decide) (fun _ h => nomatch h)).tr ?_
    exact yb_X12_file_124  h
set_option maxRecDepth 100000 in
set_option maxHeartbeats 4000000 in
theorem yb_X12_file_41  {K41 : Int32 → Int32 → Bool → Int32 → uS → Option uS}  (hK41 : ∀ (x1 : Int32) (x2 : Int32) (b3 : Bool) (x4 : Int32)  (s : uS) (r : uS), K41 x1 x2 b3 x4 s = some r → agr [11] [] s r) {x1 : Int32} {x2 : Int32} {b3 : Bool} {x4 : Int32} {s : uS} {r : uS}  (h : fb_X12_file_41  K41 x1 x2 b3 x4 s = some r) : agr [11] [] s r := by
  unfold fb_X12_file_41 at h
  by_cases c1 : 0 ≤ (s.I 1079 40)
  · replace h := uu_pos c1 h
    exact yb_X12_file_112  h
  · replace h := uu_neg c1 h
    by_cases c2 : b3 = true
    · replace h := uu_pos c2 h
      obtain ⟨v3, e4, h⟩ := uu_ob h
      by_cases c5 : v3 ≤ x4
      · replace h := uu_pos c5 h
        exact yb_X12_file_112  h
      · replace h := uu_neg c5 h
        obtain ⟨v6, e7, h⟩ := uu_ob h
        obtain ⟨v8, e9, h⟩ := uu_ob h
        by_cases c10 : v8 < 32
        · replace h := uu_pos c10 h
          exact hK41 x1 x2 false (x4 + 1) _ _ h
        · replace h := uu_neg c10 h
          by_cases c11 : (127 : Int32) ≤ v8
          · replace h := uu_pos c11 h
            exact hK41 x1 x2 false (x4 + 1) _ _ h
          · replace h := uu_neg c11 h
            by_cases c12 : v8 = 34
            · replace h := uu_pos c12 h
              exact hK41 x1 x2 false (x4 + 1) _ _ h
            · replace h := uu_neg c12 h
              exact hK41 x1 x2 true (x4 + 1) _ _ h
    · replace h := uu_neg c2 h
      exact yb_X12_file_112  h
set_option maxRecDepth 100000 in
set_option maxHeartbeats 4000000 in
theorem yn_X12_file_41     : ∀ (n : Nat) (x1 : Int32) (x2 : Int32) (b3 : Bool) (x4 : Int32)  (s : uS) (r : uS), fn_X12_file_41   n x1 x2 b3 x4 s = some r → agr [11] [] s r := by
  intro n
  induction n with
  | zero => intro x1 x2 b3 x4  s r h
            cases h
  | succ n ih => intro x1 x2 b3 x4  s r h
                 exact yb_X12_file_41  ih  h
set_option maxRecDepth 100000 in
set_option maxHeartbeats 4000000 in
theorem yc_X12_file   {x1 : Int32} {s : uS} {r : uS}  (h : fn_X12_file  x1 s = some r) : agr [11] [] s r := by
  unfold fn_X12_file at h
  obtain ⟨r1, e2, h⟩ := uu_ob h
  refine ((yc_X12_string  e2).mo (by decide) (fun _ h => nomatch h)).tr ?_
  by_cases c3 : 0 ≤ (r1.1.I 1079 40)
  · replace h := uu_pos c3 h
    exact yn_X12_file_41  _ _ _ _ _ _ _ h
  · replace h := uu_neg c3 h
    obtain ⟨v4, e5, h⟩ := uu_ob h
    by_cases c6 : v4 ≤ 0
    · replace h := uu_pos c6 h
      exact yn_X12_file_41  _ _ _ _ _ _ _ h
    · replace h := uu_neg c6 h
      obtain ⟨v7, e8, h⟩ := uu_ob h
      by_cases c9 : (20 : Int32) < v7
      · replace h := uu_pos c9 h
        exact yn_X12_file_41  _ _ _ _ _ _ _ h
      · replace h := uu_neg c9 h
        exact yn_X12_file_41  _ _ _ _ _ _ _ h
set_option maxRecDepth 100000 in
set_option maxHeartbeats 4000000 in
theorem yb_X12_redirect_39     {x1 : Int32} {x2 : Int32} {s : uS} {r : uS}  (h : fb_X12_redirect_39   x1 x2 s = some r) : agr [11] [] s r := by
  unfold fb_X12_redirect_39 at h
  obtain ⟨s1, e2, h⟩ := uu_ob h
  refine (agr_iput e2 (Or.inl (by decide))).tr ?_
  obtain ⟨s3, e4, h⟩ := uu_ob h
  refine ((yc_X12_next  e4).mo (by decide) (fun _ h => nomatch h)).tr ?_
  have hr := Option.some.inj h
  subst hr
  exact agr.rf
set_option maxRecDepth 100000 in
set_option maxHeartbeats 4000000 in
theorem yb_X12_redirect_17     {x1 : Int32} {x2 : Int32} {s : uS} {r : uS}  (h : fb_X12_redirect_17   x1 x2 s = some r) : agr [11] [] s r := by
  unfold fb_X12_redirect_17 at h
  by_cases c1 : 0 ≤ (s.I 1079 40)
  · replace h := uu_pos c1 h
    exact yb_X12_redirect_39  h
  · replace h := uu_neg c1 h
    obtain ⟨v2, e3, h⟩ := uu_ob h
    by_cases c4 : 0 ≤ v2
    · replace h := uu_pos c4 h
      exact yb_X12_redirect_39  h
    · replace h := uu_neg c4 h
      obtain ⟨s5, e6, h⟩ := uu_ob h
      refine ((yc_X12_fail  e6).mo (by decide) (fun _ h => nomatch h)).tr ?_
      exact yb_X12_redirect_39  h
set_option maxRecDepth 100000 in
set_option maxHeartbeats 4000000 in
theorem yc_X12_redirect   {x1 : Int32} {s : uS} {r : uS}  (h : fn_X12_redirect  x1 s = some r) : agr [11] [] s r := by
  unfold fn_X12_redirect at h
  obtain ⟨r1, e2, h⟩ := uu_ob h
  refine ((yc_X12_string  e2).mo (by decide) (fun _ h => nomatch h)).tr ?_
  by_cases c3 : 0 ≤ (r1.1.I 1079 40)
  · replace h := uu_pos c3 h
    exact yb_X12_redirect_17  h
  · replace h := uu_neg c3 h
    obtain ⟨s4, e5, h⟩ := uu_ob h
    refine ((yc_X12_oneString  e5).mo (by decide) (fun _ h => nomatch h)).tr ?_
    exact yb_X12_redirect_17  h
set_option maxRecDepth 100000 in
set_option maxHeartbeats 4000000 in
theorem yb_X12_absence_176  {K14 : Int32 → uS → Option uS}  (hK14 : ∀ (x1 : Int32)  (s : uS) (r : uS), K14 x1 s = some r → agr [11] [] s r) {x1 : Int32} {s : uS} {r : uS}  (h : fb_X12_absence_176  K14 x1 s = some r) : agr [11] [] s r := by
  unfold fb_X12_absence_176 at h
  obtain ⟨s1, e2, h⟩ := uu_ob h
  refine (agr_iput e2 (Or.inl (by decide))).tr ?_
  obtain ⟨s3, e4, h⟩ := uu_ob h
  refine ((yc_X12_next  e4).mo (by decide) (fun _ h => nomatch h)).tr ?_
  exact hK14 x1 _ _ h
set_option maxRecDepth 100000 in
set_option maxHeartbeats 4000000 in
theorem yb_X12_absence_152  {K14 : Int32 → uS → Option uS}  (hK14 : ∀ (x1 : Int32)  (s : uS) (r : uS), K14 x1 s = some r → agr [11] [] s r) {x1 : Int32} {b2 : Bool} {b3 : Bool} {b5 : Bool} {s : uS} {r : uS}  (h : fb_X12_absence_152  K14 x1 b2 b3 b5 s = some r) : agr [11] [] s r := by
  unfold fb_X12_absence_152 at h
  obtain ⟨s1, e2, h⟩ := uu_ob h
  refine ((yc_X12_next  e2).mo (by decide) (fun _ h => nomatch h)).tr ?_
  by_cases c3 : b2 = true
  · replace h := uu_pos c3 h
    obtain ⟨v4, e5, h⟩ := uu_ob h
    by_cases c6 : v4 = true
    · replace h := uu_pos c6 h
      exact yb_X12_absence_176 hK14 h
    · replace h := uu_neg c6 h
      obtain ⟨s7, e8, h⟩ := uu_ob h
      refine ((yc_X12_fail  e8).mo (by decide) (fun _ h => nomatch h)).tr ?_
      exact yb_X12_absence_176 hK14 h
  · replace h := uu_neg c3 h
    by_cases c9 : b3 = true
    · replace h := uu_pos c9 h
      obtain ⟨r10, e11, h⟩ := uu_ob h
      refine ((yc_X12_taken  e11).mo (by decide) (fun _ h => nomatch h)).tr ?_
      obtain ⟨s12, e13, h⟩ := uu_ob h
      refine (agr_iput e13 (Or.inl (by decide))).tr ?_
      exact hK14 x1 _ _ h
    · replace h := uu_neg c9 h
      by_cases c14 : b5 = true
      · replace h := uu_pos c14 h
        obtain ⟨r15, e16, h⟩ := uu_ob h
        refine ((yc_X12_taken  e16).mo (by decide) (fun _ h => nomatch h)).tr ?_
        obtain ⟨s17, e18, h⟩ := uu_ob h
        refine (agr_iput e18 (Or.inl (by decide))).tr ?_
        exact hK14 x1 _ _ h
      · replace h := uu_neg c14 h
        obtain ⟨s19, e20, h⟩ := uu_ob h
        refine (agr_iput e20 (Or.inl (by decide))).tr ?_
        obtain ⟨r21, e22, h⟩ := uu_ob h
        refine ((yc_X12_list  e22).mo (by decide) (fun _ h => nomatch h)).tr ?_
        obtain ⟨s23, e24, h⟩ := uu_ob h
        refine (agr_iput e24 (Or.inl (by decide))).tr ?_
        exact hK14 x1 _ _ h
set_option maxRecDepth 100000 in
set_option maxHeartbeats 4000000 in
theorem yb_X12_absence_144  {K14 : Int32 → uS → Option uS}  (hK14 : ∀ (x1 : Int32)  (s : uS) (r : uS), K14 x1 s = some r → agr [11] [] s r) {x1 : Int32} {b2 : Bool} {b3 : Bool} {b5 : Bool} {s : uS} {r : uS}  (h : fb_X12_absence_144  K14 x1 b2 b3 b5 s = some r) : agr [11] [] s r := by
  unfold fb_X12_absence_144 at h
  obtain ⟨s1, e2, h⟩ := uu_ob h
  refine ((yc_X12_fail  e2).mo (by decide) (fun _ h => nomatch h)).tr ?_
  exact yb_X12_absence_152 hK14 h
set_option maxRecDepth 100000 in
set_option maxHeartbeats 4000000 in
theorem yb_X12_absence_119  {K14 : Int32 → uS → Option uS}  (hK14 : ∀ (x1 : Int32)  (s : uS) (r : uS), K14 x1 s = some r → agr [11] [] s r) {x1 : Int32} {b2 : Bool} {b3 : Bool} {b4 : Bool} {b5 : Bool} {bs0 : Bool} {s : uS} {r : uS}  (h : fb_X12_absence_119  K14 x1 b2 b3 b4 b5 bs0 s = some r) : agr [11] [] s r := by
  unfold fb_X12_absence_119 at h
  by_cases c1 : bs0 = true
  · replace h := uu_pos c1 h
    exact yb_X12_absence_144 hK14 h
  · replace h := uu_neg c1 h
    by_cases c2 : b2 = true
    · replace h := uu_pos c2 h
      exact yb_X12_absence_152 hK14 h
    · replace h := uu_neg c2 h
      by_cases c3 : b3 = true
      · replace h := uu_pos c3 h
        exact yb_X12_absence_152 hK14 h
      · replace h := uu_neg c3 h
        by_cases c4 : b4 = true
        · replace h := uu_pos c4 h
          exact yb_X12_absence_152 hK14 h
        · replace h := uu_neg c4 h
          by_cases c5 : b5 = true
          · replace h := uu_pos c5 h
            exact yb_X12_absence_152 hK14 h
          · replace h := uu_neg c5 h
            exact yb_X12_absence_144 hK14 h
set_option maxRecDepth 100000 in
set_option maxHeartbeats 4000000 in
theorem yb_X12_absence_99  {K14 : Int32 → uS → Option uS}  (hK14 : ∀ (x1 : Int32)  (s : uS) (r : uS), K14 x1 s = some r → agr [11] [] s r) {x1 : Int32} {b2 : Bool} {b3 : Bool} {b4 : Bool} {b5 : Bool} {s : uS} {r : uS}  (h : fb_X12_absence_99  K14 x1 b2 b3 b4 b5 s = some r) : agr [11] [] s r := by
  unfold fb_X12_absence_99 at h
  by_cases c1 : b5 = true
  · replace h := uu_pos c1 h
    obtain ⟨v2, e3, h⟩ := uu_ob h
    by_cases c4 : v2 = (-1)
    · replace h := uu_pos c4 h
      exact yb_X12_absence_119 hK14 h
    · replace h := uu_neg c4 h
      exact yb_X12_absence_119 hK14 h
  · replace h := uu_neg c1 h
    exact yb_X12_absence_119 hK14 h
set_option maxRecDepth 100000 in
set_option maxHeartbeats 4000000 in
theorem yb_X12_absence_84  {K14 : Int32 → uS → Option uS}  (hK14 : ∀ (x1 : Int32)  (s : uS) (r : uS), K14 x1 s = some r → agr [11] [] s r) {x1 : Int32} {b2 : Bool} {b3 : Bool} {b4 : Bool} {b5 : Bool} {s : uS} {r : uS}  (h : fb_X12_absence_84  K14 x1 b2 b3 b4 b5 s = some r) : agr [11] [] s r := by
  unfold fb_X12_absence_84 at h
  by_cases c1 : b4 = true
  · replace h := uu_pos c1 h
    obtain ⟨v2, e3, h⟩ := uu_ob h
    by_cases c4 : v2 = (-1)
    · replace h := uu_pos c4 h
      exact yb_X12_absence_99 hK14 h
    · replace h := uu_neg c4 h
      exact yb_X12_absence_119 hK14 h
  · replace h := uu_neg c1 h
    exact yb_X12_absence_99 hK14 h
set_option maxRecDepth 100000 in
set_option maxHeartbeats 4000000 in
theorem yb_X12_absence_70  {K14 : Int32 → uS → Option uS}  (hK14 : ∀ (x1 : Int32)  (s : uS) (r : uS), K14 x1 s = some r → agr [11] [] s r) {x1 : Int32} {b2 : Bool} {b3 : Bool} {b4 : Bool} {b5 : Bool} {s : uS} {r : uS}  (h : fb_X12_absence_70  K14 x1 b2 b3 b4 b5 s = some r) : agr [11] [] s r := by
  unfold fb_X12_absence_70 at h
  by_cases c1 : b3 = true
  · replace h := uu_pos c1 h
    obtain ⟨v2, e3, h⟩ := uu_ob h
    by_cases c4 : v2 = (-1)
    · replace h := uu_pos c4 h
      exact yb_X12_absence_84 hK14 h
    · replace h := uu_neg c4 h
      exact yb_X12_absence_119 hK14 h
  · replace h := uu_neg c1 h
    exact yb_X12_absence_84 hK14 h
set_option maxRecDepth 100000 in
set_option maxHeartbeats 4000000 in
theorem yb_X12_absence_14  {K14 : Int32 → uS → Option uS}  (hK14 : ∀ (x1 : Int32)  (s : uS) (r : uS), K14 x1 s = some r → agr [11] [] s r) {x1 : Int32} {s : uS} {r : uS}  (h : fb_X12_absence_14  K14 x1 s = some r) : agr [11] [] s r := by
  unfold fb_X12_absence_14 at h
  obtain ⟨v1, e2, h⟩ := uu_ob h
  by_cases c3 : v1 = true
  · replace h := uu_pos c3 h
    obtain ⟨v5, e6, h⟩ := uu_ob h
    obtain ⟨v8, e9, h⟩ := uu_ob h
    obtain ⟨v11, e12, h⟩ := uu_ob h
    obtain ⟨v14, e15, h⟩ := uu_ob h
    by_cases c16 : v5 = true
    · replace h := uu_pos c16 h
      obtain ⟨v17, e18, h⟩ := uu_ob h
      by_cases c19 : v17 = (-1)
      · replace h := uu_pos c19 h
        exact yb_X12_absence_70 hK14 h
      · replace h := uu_neg c19 h
        exact yb_X12_absence_119 hK14 h
    · replace h := uu_neg c16 h
      exact yb_X12_absence_70 hK14 h
  · replace h := uu_neg c3 h
    obtain ⟨r20, e21, h⟩ := uu_ob h
    refine ((yc_X12_taken  e21).mo (by decide) (fun _ h => nomatch h)).tr ?_
    obtain ⟨s22, e23, h⟩ := uu_ob h
    refine (agr_iput e23 (Or.inl (by decide))).tr ?_
    have hr := Option.some.inj h
    subst hr
    exact agr.rf
set_option maxRecDepth 100000 in
set_option maxHeartbeats 4000000 in
theorem yn_X12_absence_14     : ∀ (n : Nat) (x1 : Int32)  (s : uS) (r : uS), fn_X12_absence_14   n x1 s = some r → agr [11] [] s r := by
  intro n
  induction n with
  | zero => intro x1  s r h
            cases h
  | succ n ih => intro x1  s r h
                 exact yb_X12_absence_14  ih  h
set_option maxRecDepth 100000 in
set_option maxHeartbeats 4000000 in
theorem yc_X12_absence   {x1 : Int32} {s : uS} {r : uS}  (h : fn_X12_absence  x1 s = some r) : agr [11] [] s r := by
  unfold fn_X12_absence at h
  obtain ⟨s1, e2, h⟩ := uu_ob h
  refine (agr_iput e2 (Or.inl (by decide))).tr ?_
  obtain ⟨s3, e4, h⟩ := uu_ob h
  refine (agr_iput e4 (Or.inl (by decide))).tr ?_
  exact yn_X12_absence_14  _ _ _ _ h
set_option maxRecDepth 100000 in
set_option maxHeartbeats 4000000 in
theorem yc_X12_store   {x1 : Int32} {s : uS} {r : uS}  (h : fn_X12_store  x1 s = some r) : agr [11] [] s r := by
  unfold fn_X12_store at h
  obtain ⟨v1, e2, h⟩ := uu_ob h
  obtain ⟨s3, e4, h⟩ := uu_ob h
  refine (agr_lput e4 (Or.inl (by decide))).tr ?_
  refine (agr_wI (a := 1079) (f := 69) (v := (s3.I 1079 69) + 1) (Or.inl (by decide))).tr ?_
  have hr := Option.some.inj h
  subst hr
  exact agr.rf
set_option maxRecDepth 100000 in
set_option maxHeartbeats 4000000 in
theorem yc_X12_beginMail   {x1 : Int32} {x2 : Int32} {x3 : Int32} {s : uS} {r : (uS × Int32)}  (h : fn_X12_beginMail  x1 x2 x3 s = some r) : agr [11] [] s r.1 := by
  unfold fn_X12_beginMail at h
  obtain ⟨s1, e2, h⟩ := uu_ob h
  refine (agr_iput e2 (Or.inl (by decide))).tr ?_
  obtain ⟨s3, e4, h⟩ := uu_ob h
  refine (agr_iput e4 (Or.inl (by decide))).tr ?_
  obtain ⟨s5, e6, h⟩ := uu_ob h
  refine (agr_iput e6 (Or.inl (by decide))).tr ?_
  obtain ⟨s7, e8, h⟩ := uu_ob h
  refine (agr_iput e8 (Or.inl (by decide))).tr ?_
  obtain ⟨s9, e10, h⟩ := uu_ob h
  refine (agr_iput e10 (Or.inl (by decide))).tr ?_
  by_cases c11 : (4 : Int32) ≤ x1
  · replace h := uu_pos c11 h
    have hr := Option.some.inj h
    subst hr
    exact agr.rf
  · replace h := uu_neg c11 h
    refine (agr_wI (a := 1079) (f := 70) (v := (s9.I 1079 70) + 1) (Or.inl (by decide))).tr ?_
    have hr := Option.some.inj h
    subst hr
    exact agr.rf
set_option maxRecDepth 100000 in
set_option maxHeartbeats 4000000 in
theorem yb_X12_setHandle_49     {x1 : Int32} {x3 : Int32} {x4 : Int32} {x5 : Int32} {ls0 : Int64} {s : uS} {r : uS}  (h : fb_X12_setHandle_49   x1 x3 x4 x5 ls0 s = some r) : agr [11] [] s r := by
  unfold fb_X12_setHandle_49 at h
  by_cases c1 : (80 : Int32) ≤ x1
  · replace h := uu_pos c1 h
    obtain ⟨s2, e3, h⟩ := uu_ob h
    refine (agr_lput e3 (Or.inl (by decide))).tr ?_
    have hr := Option.some.inj h
    subst hr
    exact agr.rf
  · replace h := uu_neg c1 h
    obtain ⟨s4, e5, h⟩ := uu_ob h
    refine (agr_lput e5 (Or.inl (by decide))).tr ?_
    have hr := Option.some.inj h
    subst hr
    exact agr.rf
set_option maxRecDepth 100000 in
set_option maxHeartbeats 4000000 in
theorem yc_X12_setHandle   {x1 : Int32} {x2 : Int32} {x3 : Int32} {s : uS} {r : uS}  (h : fn_X12_setHandle  x1 x2 x3 s = some r) : agr [11] [] s r := by
  unfold fn_X12_setHandle at h
  by_cases c1 : (80 : Int32) ≤ x1
  · replace h := uu_pos c1 h
    obtain ⟨v2, e3, h⟩ := uu_ob h
    exact yb_X12_setHandle_49  h
  · replace h := uu_neg c1 h
    obtain ⟨v4, e5, h⟩ := uu_ob h
    exact yb_X12_setHandle_49  h
set_option maxRecDepth 100000 in
set_option maxHeartbeats 4000000 in
theorem yc_X12_flagOf    {s : uS} {r : (uS × Int32)}  (h : fn_X12_flagOf   s = some r) : agr [11] [] s r.1 := by
  unfold fn_X12_flagOf at h
  obtain ⟨r2, e3, h⟩ := uu_ob h
  refine ((yc_X12_oneIs  e3).mo (by decide) (fun _ h => nomatch h)).tr ?_
  by_cases c4 : r2.2 = true
  · replace h := uu_pos c4 h
    have hr := Option.some.inj h
    subst hr
    exact agr.rf
  · replace h := uu_neg c4 h
    obtain ⟨r6, e7, h⟩ := uu_ob h
    refine ((yc_X12_oneIs  e7).mo (by decide) (fun _ h => nomatch h)).tr ?_
    by_cases c8 : r6.2 = true
    · replace h := uu_pos c8 h
      have hr := Option.some.inj h
      subst hr
      exact agr.rf
    · replace h := uu_neg c8 h
      obtain ⟨r10, e11, h⟩ := uu_ob h
      refine ((yc_X12_oneIs  e11).mo (by decide) (fun _ h => nomatch h)).tr ?_
      by_cases c12 : r10.2 = true
      · replace h := uu_pos c12 h
        have hr := Option.some.inj h
        subst hr
        exact agr.rf
      · replace h := uu_neg c12 h
        obtain ⟨r14, e15, h⟩ := uu_ob h
        refine ((yc_X12_oneIs  e15).mo (by decide) (fun _ h => nomatch h)).tr ?_
        by_cases c16 : r14.2 = true
        · replace h := uu_pos c16 h
          have hr := Option.some.inj h
          subst hr
          exact agr.rf
        · replace h := uu_neg c16 h
          obtain ⟨r18, e19, h⟩ := uu_ob h
          refine ((yc_X12_oneIs  e19).mo (by decide) (fun _ h => nomatch h)).tr ?_
          by_cases c20 : r18.2 = true
          · replace h := uu_pos c20 h
            have hr := Option.some.inj h
            subst hr
            exact agr.rf
          · replace h := uu_neg c20 h
            have hr := Option.some.inj h
            subst hr
            exact agr.rf
set_option maxRecDepth 100000 in
set_option maxHeartbeats 4000000 in
theorem yb_X12_flagsOf_5  {K5 : Int32 → Int32 → Int32 → Int32 → uS → Option (uS × Int32)}  (hK5 : ∀ (x1 : Int32) (x2 : Int32) (x3 : Int32) (x4 : Int32)  (s : uS) (r : (uS × Int32)), K5 x1 x2 x3 x4 s = some r → agr [11] [] s r.1) {x1 : Int32} {x2 : Int32} {x3 : Int32} {x4 : Int32} {s : uS} {r : (uS × Int32)}  (h : fb_X12_flagsOf_5  K5 x1 x2 x3 x4 s = some r) : agr [11] [] s r.1 := by
  unfold fb_X12_flagsOf_5 at h
  by_cases c1 : x2 ≤ x4
  · replace h := uu_pos c1 h
    have hr := Option.some.inj h
    subst hr
    exact agr.rf
  · replace h := uu_neg c1 h
    obtain ⟨s2, e3, h⟩ := uu_ob h
    refine ((yc_X12_oneString  e3).mo (by decide) (fun _ h => nomatch h)).tr ?_
    obtain ⟨r4, e5, h⟩ := uu_ob h
    refine ((yc_X12_flagOf  e5).mo (by decide) (fun _ h => nomatch h)).tr ?_
    exact hK5 x1 x2 (x3 ||| r4.2) (x4 + 1) _ _ h
set_option maxRecDepth 100000 in
set_option maxHeartbeats 4000000 in
theorem yn_X12_flagsOf_5     : ∀ (n : Nat) (x1 : Int32) (x2 : Int32) (x3 : Int32) (x4 : Int32)  (s : uS) (r : (uS × Int32)), fn_X12_flagsOf_5   n x1 x2 x3 x4 s = some r → agr [11] [] s r.1 := by
  intro n
  induction n with
  | zero => intro x1 x2 x3 x4  s r h
            cases h
  | succ n ih => intro x1 x2 x3 x4  s r h
                 exact yb_X12_flagsOf_5  ih  h
set_option maxRecDepth 100000 in
set_option maxHeartbeats 4000000 in
theorem yc_X12_flagsOf   {x1 : Int32} {x2 : Int32} {s : uS} {r : (uS × Int32)}  (h : fn_X12_flagsOf  x1 x2 s = some r) : agr [11] [] s r.1 := by
  unfold fn_X12_flagsOf at h
  exact yn_X12_flagsOf_5  _ _ _ _ _ _ _ h
set_option maxRecDepth 100000 in
set_option maxHeartbeats 4000000 in
theorem yb_X12_spread_2  {K2 : Nat → Int32 → uS → Option uS}  (hK2 : ∀ (k1 : Nat) (x2 : Int32)  (s : uS) (r : uS), K2 k1 x2 s = some r → agr [11] [k1] s r) {k1 : Nat} {x2 : Int32} {s : uS} {r : uS}  (h : fb_X12_spread_2  K2 k1 x2 s = some r) : agr [11] [k1] s r := by
  unfold fb_X12_spread_2 at h
  by_cases c1 : (s.I 1079 23) ≤ x2
  · replace h := uu_pos c1 h
    have hr := Option.some.inj h
    subst hr
    exact agr.rf
  · replace h := uu_neg c1 h
    obtain ⟨v2, e3, h⟩ := uu_ob h
    by_cases c4 : v2 = 0
    · replace h := uu_pos c4 h
      exact hK2 k1 (x2 + 1) _ _ h
    · replace h := uu_neg c4 h
      obtain ⟨v5, e6, h⟩ := uu_ob h
      by_cases c7 : v5 = 42
      · replace h := uu_pos c7 h
        obtain ⟨s8, e9, h⟩ := uu_ob h
        refine (agr_iput e9 (Or.inr (List.mem_of_getElem? (i := 0) rfl))).tr ?_
        exact hK2 k1 (x2 + 1) _ _ h
      · replace h := uu_neg c7 h
        exact hK2 k1 (x2 + 1) _ _ h
set_option maxRecDepth 100000 in
set_option maxHeartbeats 4000000 in
theorem yn_X12_spread_2     : ∀ (n : Nat) (k1 : Nat) (x2 : Int32)  (s : uS) (r : uS), fn_X12_spread_2   n k1 x2 s = some r → agr [11] [k1] s r := by
  intro n
  induction n with
  | zero => intro k1 x2  s r h
            cases h
  | succ n ih => intro k1 x2  s r h
                 exact yb_X12_spread_2  ih  h
set_option maxRecDepth 100000 in
set_option maxHeartbeats 4000000 in
theorem yc_X12_spread   {k1 : Nat} {s : uS} {r : uS}  (h : fn_X12_spread  k1 s = some r) : agr [11] [k1] s r := by
  unfold fn_X12_spread at h
  exact yn_X12_spread_2  _ _ _ _ _ h
set_option maxRecDepth 100000 in
set_option maxHeartbeats 4000000 in
theorem yb_X12_pattern_215  {K41 : Bool → Int32 → uS → Option (uS × Bool)} {K215 : Bool → Int32 → Int32 → uS → Option (uS × Bool)}  (hK41 : ∀ (b1 : Bool) (x2 : Int32)  (s : uS) (r : (uS × Bool)), K41 b1 x2 s = some r → agr [11] [] s r.1) (hK215 : ∀ (b1 : Bool) (x2 : Int32) (x3 : Int32)  (s : uS) (r : (uS × Bool)), K215 b1 x2 x3 s = some r → agr [11] [] s r.1) {b1 : Bool} {x2 : Int32} {x3 : Int32} {s : uS} {r : (uS × Bool)}  (h : fb_X12_pattern_215  K41 K215 b1 x2 x3 s = some r) : agr [11] [] s r.1 := by
  unfold fb_X12_pattern_215 at h
  by_cases c1 : (s.I 1079 23) < x3
  · replace h := uu_pos c1 h
    obtain ⟨s2, e3, h⟩ := uu_ob h
    refine ((yc_X12_spread  e3).mo (by decide) (List.forall_mem_cons.mpr ⟨(Or.inl (by decide)), fun _ h => nomatch h⟩)).tr ?_
    exact hK41 b1 (x2 + 1) _ _ h
  · replace h := uu_neg c1 h
    obtain ⟨v4, e5, h⟩ := uu_ob h
    obtain ⟨s6, e7, h⟩ := uu_ob h
    refine (agr_iput e7 (Or.inl (by decide))).tr ?_
    exact hK215 b1 x2 (x3 + 1) _ _ h
set_option maxRecDepth 100000 in
set_option maxHeartbeats 4000000 in
theorem yn_X12_pattern_215  {K41 : Bool → Int32 → uS → Option (uS × Bool)}  (hK41 : ∀ (b1 : Bool) (x2 : Int32)  (s : uS) (r : (uS × Bool)), K41 b1 x2 s = some r → agr [11] [] s r.1) : ∀ (n : Nat) (b1 : Bool) (x2 : Int32) (x3 : Int32)  (s : uS) (r : (uS × Bool)), fn_X12_pattern_215  K41 n b1 x2 x3 s = some r → agr [11] [] s r.1 := by
  intro n
  induction n with
  | zero => intro b1 x2 x3  s r h
            cases h
  | succ n ih => intro b1 x2 x3  s r h
                 exact yb_X12_pattern_215  hK41 ih  h
set_option maxRecDepth 100000 in
set_option maxHeartbeats 4000000 in
theorem yb_X12_pattern_74  {K41 : Bool → Int32 → uS → Option (uS × Bool)} {K74 : Bool → Int32 → Int32 → uS → Option (uS × Bool)}  (hK41 : ∀ (b1 : Bool) (x2 : Int32)  (s : uS) (r : (uS × Bool)), K41 b1 x2 s = some r → agr [11] [] s r.1) (hK74 : ∀ (b1 : Bool) (x2 : Int32) (x3 : Int32)  (s : uS) (r : (uS × Bool)), K74 b1 x2 x3 s = some r → agr [11] [] s r.1) {b1 : Bool} {x2 : Int32} {x3 : Int32} {s : uS} {r : (uS × Bool)}  (h : fb_X12_pattern_74  K41 K74 b1 x2 x3 s = some r) : agr [11] [] s r.1 := by
  unfold fb_X12_pattern_74 at h
  by_cases c1 : (s.I 1079 23) ≤ x3
  · replace h := uu_pos c1 h
    exact yn_X12_pattern_215 hK41 _ _ _ _ _ _ h
  · replace h := uu_neg c1 h
    obtain ⟨v2, e3, h⟩ := uu_ob h
    by_cases c4 : v2 = 0
    · replace h := uu_pos c4 h
      exact hK74 b1 x2 (x3 + 1) _ _ h
    · replace h := uu_neg c4 h
      obtain ⟨v5, e6, h⟩ := uu_ob h
      by_cases c7 : v5 = 42
      · replace h := uu_pos c7 h
        obtain ⟨s8, e9, h⟩ := uu_ob h
        refine (agr_iput e9 (Or.inl (by decide))).tr ?_
        exact hK74 b1 x2 (x3 + 1) _ _ h
      · replace h := uu_neg c7 h
        obtain ⟨v10, e11, h⟩ := uu_ob h
        by_cases c12 : v10 = 63
        · replace h := uu_pos c12 h
          obtain ⟨s13, e14, h⟩ := uu_ob h
          refine (agr_iput e14 (Or.inl (by decide))).tr ?_
          exact hK74 b1 x2 (x3 + 1) _ _ h
        · replace h := uu_neg c12 h
          obtain ⟨v15, e16, h⟩ := uu_ob h
          by_cases c17 : v15 = true
          · replace h := uu_pos c17 h
            obtain ⟨v18, e19, h⟩ := uu_ob h
            obtain ⟨v20, e21, h⟩ := uu_ob h
            obtain ⟨v22, e23, h⟩ := uu_ob h
            by_cases c24 : v22 = true
            · replace h := uu_pos c24 h
              obtain ⟨s25, e26, h⟩ := uu_ob h
              refine (agr_iput e26 (Or.inl (by decide))).tr ?_
              exact hK74 b1 x2 (x3 + 1) _ _ h
            · replace h := uu_neg c24 h
              exact hK74 b1 x2 (x3 + 1) _ _ h
          · replace h := uu_neg c17 h
            obtain ⟨v27, e28, h⟩ := uu_ob h
            obtain ⟨v29, e30, h⟩ := uu_ob h
            obtain ⟨v31, e32, h⟩ := uu_ob h
            by_cases c33 : v31 = true
            · replace h := uu_pos c33 h
              obtain ⟨s34, e35, h⟩ := uu_ob h
              refine (agr_iput e35 (Or.inl (by decide))).tr ?_
              exact hK74 b1 x2 (x3 + 1) _ _ h
            · replace h := uu_neg c33 h
              exact hK74 b1 x2 (x3 + 1) _ _ h
set_option maxRecDepth 100000 in
set_option maxHeartbeats 4000000 in
theorem yn_X12_pattern_74  {K41 : Bool → Int32 → uS → Option (uS × Bool)}  (hK41 : ∀ (b1 : Bool) (x2 : Int32)  (s : uS) (r : (uS × Bool)), K41 b1 x2 s = some r → agr [11] [] s r.1) : ∀ (n : Nat) (b1 : Bool) (x2 : Int32) (x3 : Int32)  (s : uS) (r : (uS × Bool)), fn_X12_pattern_74  K41 n b1 x2 x3 s = some r → agr [11] [] s r.1 := by
  intro n
  induction n with
  | zero => intro b1 x2 x3  s r h
            cases h
  | succ n ih => intro b1 x2 x3  s r h
                 exact yb_X12_pattern_74  hK41 ih  h
set_option maxRecDepth 100000 in
set_option maxHeartbeats 4000000 in
theorem yb_X12_pattern_51  {K41 : Bool → Int32 → uS → Option (uS × Bool)} {K51 : Bool → Int32 → Int32 → uS → Option (uS × Bool)}  (hK41 : ∀ (b1 : Bool) (x2 : Int32)  (s : uS) (r : (uS × Bool)), K41 b1 x2 s = some r → agr [11] [] s r.1) (hK51 : ∀ (b1 : Bool) (x2 : Int32) (x3 : Int32)  (s : uS) (r : (uS × Bool)), K51 b1 x2 x3 s = some r → agr [11] [] s r.1) {b1 : Bool} {x2 : Int32} {x3 : Int32} {s : uS} {r : (uS × Bool)}  (h : fb_X12_pattern_51  K41 K51 b1 x2 x3 s = some r) : agr [11] [] s r.1 := by
  unfold fb_X12_pattern_51 at h
  by_cases c1 : (s.I 1079 23) < x3
  · replace h := uu_pos c1 h
    exact yn_X12_pattern_74 hK41 _ _ _ _ _ _ h
  · replace h := uu_neg c1 h
    obtain ⟨s2, e3, h⟩ := uu_ob h
    refine (agr_iput e3 (Or.inl (by decide))).tr ?_
    exact hK51 b1 x2 (x3 + 1) _ _ h
set_option maxRecDepth 100000 in
set_option maxHeartbeats 4000000 in
theorem yn_X12_pattern_51  {K41 : Bool → Int32 → uS → Option (uS × Bool)}  (hK41 : ∀ (b1 : Bool) (x2 : Int32)  (s : uS) (r : (uS × Bool)), K41 b1 x2 s = some r → agr [11] [] s r.1) : ∀ (n : Nat) (b1 : Bool) (x2 : Int32) (x3 : Int32)  (s : uS) (r : (uS × Bool)), fn_X12_pattern_51  K41 n b1 x2 x3 s = some r → agr [11] [] s r.1 := by
  intro n
  induction n with
  | zero => intro b1 x2 x3  s r h
            cases h
  | succ n ih => intro b1 x2 x3  s r h
                 exact yb_X12_pattern_51  hK41 ih  h
set_option maxRecDepth 100000 in
set_option maxHeartbeats 4000000 in
theorem yb_X12_pattern_41  {K41 : Bool → Int32 → uS → Option (uS × Bool)}  (hK41 : ∀ (b1 : Bool) (x2 : Int32)  (s : uS) (r : (uS × Bool)), K41 b1 x2 s = some r → agr [11] [] s r.1) {b1 : Bool} {x2 : Int32} {s : uS} {r : (uS × Bool)}  (h : fb_X12_pattern_41  K41 b1 x2 s = some r) : agr [11] [] s r.1 := by
  unfold fb_X12_pattern_41 at h
  by_cases c1 : (s.I 1079 21) ≤ x2
  · replace h := uu_pos c1 h
    obtain ⟨v2, e3, h⟩ := uu_ob h
    obtain ⟨g4, h⟩ := uu_grd h
    have hr := Option.some.inj h
    subst hr
    exact agr.rf
  · replace h := uu_neg c1 h
    exact yn_X12_pattern_51 hK41 _ _ _ _ _ _ h
set_option maxRecDepth 100000 in
set_option maxHeartbeats 4000000 in
theorem yn_X12_pattern_41     : ∀ (n : Nat) (b1 : Bool) (x2 : Int32)  (s : uS) (r : (uS × Bool)), fn_X12_pattern_41   n b1 x2 s = some r → agr [11] [] s r.1 := by
  intro n
  induction n with
  | zero => intro b1 x2  s r h
            cases h
  | succ n ih => intro b1 x2  s r h
                 exact yb_X12_pattern_41  ih  h
set_option maxRecDepth 100000 in
set_option maxHeartbeats 4000000 in
theorem yb_X12_pattern_2  {K2 : Bool → Int32 → uS → Option (uS × Bool)}  (hK2 : ∀ (b1 : Bool) (x2 : Int32)  (s : uS) (r : (uS × Bool)), K2 b1 x2 s = some r → agr [11] [] s r.1) {b1 : Bool} {x2 : Int32} {s : uS} {r : (uS × Bool)}  (h : fb_X12_pattern_2  K2 b1 x2 s = some r) : agr [11] [] s r.1 := by
  unfold fb_X12_pattern_2 at h
  by_cases c1 : (s.I 1079 23) < x2
  · replace h := uu_pos c1 h
    obtain ⟨s2, e3, h⟩ := uu_ob h
    refine ((yc_X12_spread  e3).mo (by decide) (List.forall_mem_cons.mpr ⟨(Or.inl (by decide)), fun _ h => nomatch h⟩)).tr ?_
    exact yn_X12_pattern_41  _ _ _ _ _ h
  · replace h := uu_neg c1 h
    by_cases c4 : x2 = 0
    · replace h := uu_pos c4 h
      obtain ⟨s5, e6, h⟩ := uu_ob h
      refine (agr_iput e6 (Or.inl (by decide))).tr ?_
      exact hK2 b1 (x2 + 1) _ _ h
    · replace h := uu_neg c4 h
      obtain ⟨s7, e8, h⟩ := uu_ob h
      refine (agr_iput e8 (Or.inl (by decide))).tr ?_
      exact hK2 b1 (x2 + 1) _ _ h
set_option maxRecDepth 100000 in
set_option maxHeartbeats 4000000 in
theorem yn_X12_pattern_2     : ∀ (n : Nat) (b1 : Bool) (x2 : Int32)  (s : uS) (r : (uS × Bool)), fn_X12_pattern_2   n b1 x2 s = some r → agr [11] [] s r.1 := by
  intro n
  induction n with
  | zero => intro b1 x2  s r h
            cases h
  | succ n ih => intro b1 x2  s r h
                 exact yb_X12_pattern_2  ih  h
set_option maxRecDepth 100000 in
set_option maxHeartbeats 4000000 in
theorem yc_X12_pattern   {b1 : Bool} {s : uS} {r : (uS × Bool)}  (h : fn_X12_pattern  b1 s = some r) : agr [11] [] s r.1 := by
  unfold fn_X12_pattern at h
  exact yn_X12_pattern_2  _ _ _ _ _ h
set_option maxRecDepth 100000 in
set_option maxHeartbeats 4000000 in
theorem yb_X12_matchesKey_201     {x1 : Int32} {xs0 : Int32} {s : uS} {r : (uS × Bool)}  (h : fb_X12_matchesKey_201   x1 xs0 s = some r) : agr [11] [] s r.1 := by
  unfold fb_X12_matchesKey_201 at h
  obtain ⟨v1, e2, h⟩ := uu_ob h
  obtain ⟨v3, e4, h⟩ := uu_ob h
  have hr := Option.some.inj h
  subst hr
  exact agr.rf
set_option maxRecDepth 100000 in
set_option maxHeartbeats 4000000 in
theorem yb_X12_matchesKey_76     {x1 : Int32} {b3 : Bool} {bs0 : Bool} {s : uS} {r : (uS × Bool)}  (h : fb_X12_matchesKey_76   x1 b3 bs0 s = some r) : agr [11] [] s r.1 := by
  unfold fb_X12_matchesKey_76 at h
  obtain ⟨v1, e2, h⟩ := uu_ob h
  by_cases c84_0 : v1 = 0
  · replace h := uu_pos c84_0 h
    by_cases c3 : bs0 = true
    · replace h := uu_pos c3 h
      obtain ⟨v4, e5, h⟩ := uu_ob h
      by_cases c6 : v4 = 0
      · replace h := uu_pos c6 h
        have hr := Option.some.inj h
        subst hr
        exact agr.rf
      · replace h := uu_neg c6 h
        have hr := Option.some.inj h
        subst hr
        exact agr.rf
    · replace h := uu_neg c3 h
      obtain ⟨v7, e8, h⟩ := uu_ob h
      by_cases c9 : v7 = 0
      · replace h := uu_pos c9 h
        have hr := Option.some.inj h
        subst hr
        exact agr.rf
      · replace h := uu_neg c9 h
        have hr := Option.some.inj h
        subst hr
        exact agr.rf
  replace h := uu_neg c84_0 h
  by_cases c84_1 : v1 = 1
  · replace h := uu_pos c84_1 h
    by_cases c10 : bs0 = true
    · replace h := uu_pos c10 h
      have hr := Option.some.inj h
      subst hr
      exact agr.rf
    · replace h := uu_neg c10 h
      obtain ⟨v11, e12, h⟩ := uu_ob h
      by_cases c13 : v11 = true
      · replace h := uu_pos c13 h
        have hr := Option.some.inj h
        subst hr
        exact agr.rf
      · replace h := uu_neg c13 h
        have hr := Option.some.inj h
        subst hr
        exact agr.rf
  replace h := uu_neg c84_1 h
  by_cases c84_2 : v1 = 2
  · replace h := uu_pos c84_2 h
    by_cases c14 : bs0 = true
    · replace h := uu_pos c14 h
      have hr := Option.some.inj h
      subst hr
      exact agr.rf
    · replace h := uu_neg c14 h
      obtain ⟨r15, e16, h⟩ := uu_ob h
      refine ((yc_X12_pattern  e16).mo (by decide) (fun _ h => nomatch h)).tr ?_
      by_cases c17 : r15.2 = true
      · replace h := uu_pos c17 h
        have hr := Option.some.inj h
        subst hr
        exact agr.rf
      · replace h := uu_neg c17 h
        have hr := Option.some.inj h
        subst hr
        exact agr.rf
  replace h := uu_neg c84_2 h
  by_cases c18 : bs0 = true
  · replace h := uu_pos c18 h
    obtain ⟨v19, e20, h⟩ := uu_ob h
    exact yb_X12_matchesKey_201  h
  · replace h := uu_neg c18 h
    obtain ⟨v21, e22, h⟩ := uu_ob h
    exact yb_X12_matchesKey_201  h
set_option maxRecDepth 100000 in
set_option maxHeartbeats 4000000 in
theorem yb_X12_matchesKey_60     {x1 : Int32} {bs0 : Bool} {s : uS} {r : (uS × Bool)}  (h : fb_X12_matchesKey_60   x1 bs0 s = some r) : agr [11] [] s r.1 := by
  unfold fb_X12_matchesKey_60 at h
  obtain ⟨v1, e2, h⟩ := uu_ob h
  by_cases c3 : v1 = 2
  · replace h := uu_pos c3 h
    exact yb_X12_matchesKey_76  h
  · replace h := uu_neg c3 h
    exact yb_X12_matchesKey_76  h
set_option maxRecDepth 100000 in
set_option maxHeartbeats 4000000 in
theorem yb_X12_matchesKey_12  {K12 : Int32 → Int32 → Int32 → uS → Option (uS × Bool)}  (hK12 : ∀ (x1 : Int32) (x2 : Int32) (x3 : Int32)  (s : uS) (r : (uS × Bool)), K12 x1 x2 x3 s = some r → agr [11] [] s r.1) {x1 : Int32} {x2 : Int32} {x3 : Int32} {s : uS} {r : (uS × Bool)}  (h : fb_X12_matchesKey_12  K12 x1 x2 x3 s = some r) : agr [11] [] s r.1 := by
  unfold fb_X12_matchesKey_12 at h
  by_cases c1 : (s.I 1079 23) ≤ x3
  · replace h := uu_pos c1 h
    obtain ⟨v2, e3, h⟩ := uu_ob h
    by_cases c4 : v2 = 1
    · replace h := uu_pos c4 h
      exact yb_X12_matchesKey_60  h
    · replace h := uu_neg c4 h
      exact yb_X12_matchesKey_60  h
  · replace h := uu_neg c1 h
    obtain ⟨v5, e6, h⟩ := uu_ob h
    obtain ⟨v7, e8, h⟩ := uu_ob h
    obtain ⟨s9, e10, h⟩ := uu_ob h
    refine (agr_iput e10 (Or.inl (by decide))).tr ?_
    exact hK12 x1 x2 (x3 + 1) _ _ h
set_option maxRecDepth 100000 in
set_option maxHeartbeats 4000000 in
theorem yn_X12_matchesKey_12     : ∀ (n : Nat) (x1 : Int32) (x2 : Int32) (x3 : Int32)  (s : uS) (r : (uS × Bool)), fn_X12_matchesKey_12   n x1 x2 x3 s = some r → agr [11] [] s r.1 := by
  intro n
  induction n with
  | zero => intro x1 x2 x3  s r h
            cases h
  | succ n ih => intro x1 x2 x3  s r h
                 exact yb_X12_matchesKey_12  ih  h
set_option maxRecDepth 100000 in
set_option maxHeartbeats 4000000 in
theorem yc_X12_matchesKey   {x1 : Int32} {x2 : Int32} {s : uS} {r : (uS × Bool)}  (h : fn_X12_matchesKey  x1 x2 s = some r) : agr [11] [] s r.1 := by
  unfold fn_X12_matchesKey at h
  obtain ⟨v1, e2, h⟩ := uu_ob h
  refine (agr_wI (a := 1079) (f := 23) (v := v1) (Or.inl (by decide))).tr ?_
  exact yn_X12_matchesKey_12  _ _ _ _ _ _ h
set_option maxRecDepth 100000 in
set_option maxHeartbeats 4000000 in
theorem yb_X12_value_12  {K12 : Int32 → Int32 → uS → Option uS}  (hK12 : ∀ (x1 : Int32) (x2 : Int32)  (s : uS) (r : uS), K12 x1 x2 s = some r → agr [11] [] s r) {x1 : Int32} {x2 : Int32} {s : uS} {r : uS}  (h : fb_X12_value_12  K12 x1 x2 s = some r) : agr [11] [] s r := by
  unfold fb_X12_value_12 at h
  obtain ⟨v1, e2, h⟩ := uu_ob h
  by_cases c3 : v1 ≤ x2
  · replace h := uu_pos c3 h
    have hr := Option.some.inj h
    subst hr
    exact agr.rf
  · replace h := uu_neg c3 h
    obtain ⟨v4, e5, h⟩ := uu_ob h
    by_cases c6 : v4 = 3
    · replace h := uu_pos c6 h
      have hr := Option.some.inj h
      subst hr
      exact agr.rf
    · replace h := uu_neg c6 h
      by_cases c7 : (s.I 1079 110) = 0
      · replace h := uu_pos c7 h
        obtain ⟨v8, e9, h⟩ := uu_ob h
        obtain ⟨r10, e11, h⟩ := uu_ob h
        refine ((yc_X12_matchesKey  e11).mo (by decide) (fun _ h => nomatch h)).tr ?_
        by_cases c12 : r10.2 = true
        · replace h := uu_pos c12 h
          refine (agr_wI (a := 1079) (f := 110) (v := 1) (Or.inl (by decide))).tr ?_
          exact hK12 x1 (x2 + 1) _ _ h
        · replace h := uu_neg c12 h
          refine (agr_wI (a := 1079) (f := 110) (v := 0) (Or.inl (by decide))).tr ?_
          exact hK12 x1 (x2 + 1) _ _ h
      · replace h := uu_neg c7 h
        refine (agr_wI (a := 1079) (f := 110) (v := 1) (Or.inl (by decide))).tr ?_
        exact hK12 x1 (x2 + 1) _ _ h
set_option maxRecDepth 100000 in
set_option maxHeartbeats 4000000 in
theorem yn_X12_value_12     : ∀ (n : Nat) (x1 : Int32) (x2 : Int32)  (s : uS) (r : uS), fn_X12_value_12   n x1 x2 s = some r → agr [11] [] s r := by
  intro n
  induction n with
  | zero => intro x1 x2  s r h
            cases h
  | succ n ih => intro x1 x2  s r h
                 exact yb_X12_value_12  ih  h
set_option maxRecDepth 100000 in
set_option maxHeartbeats 4000000 in
theorem yc_X12_value   {x1 : Int32} {s : uS} {r : uS}  (h : fn_X12_value  x1 s = some r) : agr [11] [] s r := by
  unfold fn_X12_value at h
  refine (agr_wI (a := 1079) (f := 109) (v := (s.I 1079 109) + 1) (Or.inl (by decide))).tr ?_
  exact yn_X12_value_12  _ _ _ _ _ h
set_option maxRecDepth 100000 in
set_option maxHeartbeats 4000000 in
theorem yb_X12_oneNumber_23  {K23 : Int32 → Int32 → uS → Option uS}  (hK23 : ∀ (x1 : Int32) (x2 : Int32)  (s : uS) (r : uS), K23 x1 x2 s = some r → agr [11] [] s r) {x1 : Int32} {x2 : Int32} {s : uS} {r : uS}  (h : fb_X12_oneNumber_23  K23 x1 x2 s = some r) : agr [11] [] s r := by
  unfold fb_X12_oneNumber_23 at h
  by_cases c1 : x2 ≤ 0
  · replace h := uu_pos c1 h
    have hr := Option.some.inj h
    subst hr
    exact agr.rf
  · replace h := uu_neg c1 h
    obtain ⟨g2, h⟩ := uu_grd h
    obtain ⟨s3, e4, h⟩ := uu_ob h
    refine ((yc_X12_add  e4).mo (by decide) (fun _ h => nomatch h)).tr ?_
    exact hK23 x1 (x2 / 10) _ _ h
set_option maxRecDepth 100000 in
set_option maxHeartbeats 4000000 in
theorem yn_X12_oneNumber_23     : ∀ (n : Nat) (x1 : Int32) (x2 : Int32)  (s : uS) (r : uS), fn_X12_oneNumber_23   n x1 x2 s = some r → agr [11] [] s r := by
  intro n
  induction n with
  | zero => intro x1 x2  s r h
            cases h
  | succ n ih => intro x1 x2  s r h
                 exact yb_X12_oneNumber_23  ih  h
set_option maxRecDepth 100000 in
set_option maxHeartbeats 4000000 in
theorem yb_X12_oneNumber_2  {K2 : Int32 → Int32 → uS → Option uS}  (hK2 : ∀ (x1 : Int32) (x2 : Int32)  (s : uS) (r : uS), K2 x1 x2 s = some r → agr [11] [] s r) {x1 : Int32} {x2 : Int32} {s : uS} {r : uS}  (h : fb_X12_oneNumber_2  K2 x1 x2 s = some r) : agr [11] [] s r := by
  unfold fb_X12_oneNumber_2 at h
  obtain ⟨g1, h⟩ := uu_grd h
  by_cases c2 : (x1 / x2) < 10
  · replace h := uu_pos c2 h
    refine (agr_wI (a := 1079) (f := 21) (v := 0) (Or.inl (by decide))).tr ?_
    exact yn_X12_oneNumber_23  _ _ _ _ _ h
  · replace h := uu_neg c2 h
    exact hK2 x1 (x2 * 10) _ _ h
set_option maxRecDepth 100000 in
set_option maxHeartbeats 4000000 in
theorem yn_X12_oneNumber_2     : ∀ (n : Nat) (x1 : Int32) (x2 : Int32)  (s : uS) (r : uS), fn_X12_oneNumber_2   n x1 x2 s = some r → agr [11] [] s r := by
  intro n
  induction n with
  | zero => intro x1 x2  s r h
            cases h
  | succ n ih => intro x1 x2  s r h
                 exact yb_X12_oneNumber_2  ih  h
set_option maxRecDepth 100000 in
set_option maxHeartbeats 4000000 in
theorem yc_X12_oneNumber   {x1 : Int32} {s : uS} {r : uS}  (h : fn_X12_oneNumber  x1 s = some r) : agr [11] [] s r := by
  unfold fn_X12_oneNumber at h
  exact yn_X12_oneNumber_2  _ _ _ _ _ h
set_option maxRecDepth 100000 in
set_option maxHeartbeats 4000000 in
theorem yb_X12_tested_61  {K27 : Int32 → Bool → Int32 → uS → Option (uS × Bool)} {K61 : Int32 → Bool → Int32 → Int32 → Int32 → uS → Option (uS × Bool)}  (hK27 : ∀ (x1 : Int32) (b2 : Bool) (x3 : Int32)  (s : uS) (r : (uS × Bool)), K27 x1 b2 x3 s = some r → agr [11] [] s r.1) (hK61 : ∀ (x1 : Int32) (b2 : Bool) (x3 : Int32) (x4 : Int32) (x5 : Int32)  (s : uS) (r : (uS × Bool)), K61 x1 b2 x3 x4 x5 s = some r → agr [11] [] s r.1) {x1 : Int32} {b2 : Bool} {x3 : Int32} {x4 : Int32} {x5 : Int32} {s : uS} {r : (uS × Bool)}  (h : fb_X12_tested_61  K27 K61 x1 b2 x3 x4 x5 s = some r) : agr [11] [] s r.1 := by
  unfold fb_X12_tested_61 at h
  by_cases c1 : (s.I 1079 23) ≤ x5
  · replace h := uu_pos c1 h
    by_cases c2 : b2 = true
    · replace h := uu_pos c2 h
      exact hK27 x1 true (x3 + 1) _ _ h
    · replace h := uu_neg c2 h
      obtain ⟨v3, e4, h⟩ := uu_ob h
      obtain ⟨v5, e6, h⟩ := uu_ob h
      obtain ⟨v7, e8, h⟩ := uu_ob h
      by_cases c9 : v7 = true
      · replace h := uu_pos c9 h
        exact hK27 x1 true (x3 + 1) _ _ h
      · replace h := uu_neg c9 h
        exact hK27 x1 false (x3 + 1) _ _ h
  · replace h := uu_neg c1 h
    obtain ⟨v10, e11, h⟩ := uu_ob h
    obtain ⟨v12, e13, h⟩ := uu_ob h
    obtain ⟨s14, e15, h⟩ := uu_ob h
    refine (agr_iput e15 (Or.inl (by decide))).tr ?_
    exact hK61 x1 b2 x3 x4 (x5 + 1) _ _ h
set_option maxRecDepth 100000 in
set_option maxHeartbeats 4000000 in
theorem yn_X12_tested_61  {K27 : Int32 → Bool → Int32 → uS → Option (uS × Bool)}  (hK27 : ∀ (x1 : Int32) (b2 : Bool) (x3 : Int32)  (s : uS) (r : (uS × Bool)), K27 x1 b2 x3 s = some r → agr [11] [] s r.1) : ∀ (n : Nat) (x1 : Int32) (b2 : Bool) (x3 : Int32) (x4 : Int32) (x5 : Int32)  (s : uS) (r : (uS × Bool)), fn_X12_tested_61  K27 n x1 b2 x3 x4 x5 s = some r → agr [11] [] s r.1 := by
  intro n
  induction n with
  | zero => intro x1 b2 x3 x4 x5  s r h
            cases h
  | succ n ih => intro x1 b2 x3 x4 x5  s r h
                 exact yb_X12_tested_61  hK27 ih  h
set_option maxRecDepth 100000 in
set_option maxHeartbeats 4000000 in
theorem yb_X12_tested_27  {K27 : Int32 → Bool → Int32 → uS → Option (uS × Bool)}  (hK27 : ∀ (x1 : Int32) (b2 : Bool) (x3 : Int32)  (s : uS) (r : (uS × Bool)), K27 x1 b2 x3 s = some r → agr [11] [] s r.1) {x1 : Int32} {b2 : Bool} {x3 : Int32} {s : uS} {r : (uS × Bool)}  (h : fb_X12_tested_27  K27 x1 b2 x3 s = some r) : agr [11] [] s r.1 := by
  unfold fb_X12_tested_27 at h
  obtain ⟨v1, e2, h⟩ := uu_ob h
  by_cases c3 : v1 ≤ x3
  · replace h := uu_pos c3 h
    have hr := Option.some.inj h
    subst hr
    exact agr.rf
  · replace h := uu_neg c3 h
    obtain ⟨v4, e5, h⟩ := uu_ob h
    obtain ⟨v6, e7, h⟩ := uu_ob h
    refine (agr_wI (a := 1079) (f := 23) (v := v6) (Or.inl (by decide))).tr ?_
    exact yn_X12_tested_61 hK27 _ _ _ _ _ _ _ _ h
set_option maxRecDepth 100000 in
set_option maxHeartbeats 4000000 in
theorem yn_X12_tested_27     : ∀ (n : Nat) (x1 : Int32) (b2 : Bool) (x3 : Int32)  (s : uS) (r : (uS × Bool)), fn_X12_tested_27   n x1 b2 x3 s = some r → agr [11] [] s r.1 := by
  intro n
  induction n with
  | zero => intro x1 b2 x3  s r h
            cases h
  | succ n ih => intro x1 b2 x3  s r h
                 exact yb_X12_tested_27  ih  h
set_option maxRecDepth 100000 in
set_option maxHeartbeats 4000000 in
theorem yc_X12_tested   {x1 : Int32} {s : uS} {r : (uS × Bool)}  (h : fn_X12_tested  x1 s = some r) : agr [11] [] s r.1 := by
  unfold fn_X12_tested at h
  obtain ⟨v1, e2, h⟩ := uu_ob h
  by_cases c3 : v1 = 3
  · replace h := uu_pos c3 h
    obtain ⟨s4, e5, h⟩ := uu_ob h
    refine ((yc_X12_oneNumber  e5).mo (by decide) (fun _ h => nomatch h)).tr ?_
    exact yn_X12_tested_27  _ _ _ _ _ _ h
  · replace h := uu_neg c3 h
    obtain ⟨g6, h⟩ := uu_grd h
    have hr := Option.some.inj h
    subst hr
    exact agr.rf
set_option maxRecDepth 100000 in
set_option maxHeartbeats 4000000 in
theorem yb_X12_part_54  {K54 : Int32 → Int32 → Int32 → uS → Option uS}  (hK54 : ∀ (x2 : Int32) (x3 : Int32) (x4 : Int32)  (s : uS) (r : uS), K54 x2 x3 x4 s = some r → agr [11] [] s r) {x2 : Int32} {x3 : Int32} {x4 : Int32} {s : uS} {r : uS}  (h : fb_X12_part_54  K54 x2 x3 x4 s = some r) : agr [11] [] s r := by
  unfold fb_X12_part_54 at h
  by_cases c1 : x3 ≤ x4
  · replace h := uu_pos c1 h
    refine (agr_wI (a := 1079) (f := 21) (v := x3) (Or.inl (by decide))).tr ?_
    have hr := Option.some.inj h
    subst hr
    exact agr.rf
  · replace h := uu_neg c1 h
    obtain ⟨v2, e3, h⟩ := uu_ob h
    obtain ⟨s4, e5, h⟩ := uu_ob h
    refine (agr_iput e5 (Or.inl (by decide))).tr ?_
    exact hK54 x2 x3 (x4 + 1) _ _ h
set_option maxRecDepth 100000 in
set_option maxHeartbeats 4000000 in
theorem yn_X12_part_54     : ∀ (n : Nat) (x2 : Int32) (x3 : Int32) (x4 : Int32)  (s : uS) (r : uS), fn_X12_part_54   n x2 x3 x4 s = some r → agr [11] [] s r := by
  intro n
  induction n with
  | zero => intro x2 x3 x4  s r h
            cases h
  | succ n ih => intro x2 x3 x4  s r h
                 exact yb_X12_part_54  ih  h
set_option maxRecDepth 100000 in
set_option maxHeartbeats 4000000 in
theorem yc_X12_part   {x1 : Int32} {x2 : Int32} {s : uS} {r : uS}  (h : fn_X12_part  x1 x2 s = some r) : agr [11] [] s r := by
  unfold fn_X12_part at h
  obtain ⟨v1, e2, h⟩ := uu_ob h
  by_cases c3 : v1 = 0
  · replace h := uu_pos c3 h
    have hr := Option.some.inj h
    subst hr
    exact agr.rf
  · replace h := uu_neg c3 h
    obtain ⟨v4, e5, h⟩ := uu_ob h
    by_cases c6 : v4 = 1
    · replace h := uu_pos c6 h
      by_cases c7 : 0 ≤ x2
      · replace h := uu_pos c7 h
        refine (agr_wI (a := 1079) (f := 21) (v := x2) (Or.inl (by decide))).tr ?_
        have hr := Option.some.inj h
        subst hr
        exact agr.rf
      · replace h := uu_neg c7 h
        refine (agr_wI (a := 1079) (f := 21) (v := 0) (Or.inl (by decide))).tr ?_
        have hr := Option.some.inj h
        subst hr
        exact agr.rf
    · replace h := uu_neg c6 h
      by_cases c8 : 0 ≤ x2
      · replace h := uu_pos c8 h
        exact yn_X12_part_54  _ _ _ _ _ _ h
      · replace h := uu_neg c8 h
        exact yn_X12_part_54  _ _ _ _ _ _ h
set_option maxRecDepth 100000 in
set_option maxHeartbeats 4000000 in
theorem yb_X12_headers_54  {K2 : Int32 → Int32 → uS → Option uS} {K54 : Int32 → Int32 → uS → Option uS}  (hK2 : ∀ (x1 : Int32) (x2 : Int32)  (s : uS) (r : uS), K2 x1 x2 s = some r → agr [11] [] s r) (hK54 : ∀ (x1 : Int32) (x2 : Int32)  (s : uS) (r : uS), K54 x1 x2 s = some r → agr [11] [] s r) {x1 : Int32} {x2 : Int32} {s : uS} {r : uS}  (h : fb_X12_headers_54  K2 K54 x1 x2 s = some r) : agr [11] [] s r := by
  unfold fb_X12_headers_54 at h
  obtain ⟨r1, e2, h⟩ := uu_ob h
  refine ((yc_X12_nextPart  e2).mo (by decide) (fun _ h => nomatch h)).tr ?_
  by_cases c3 : r1.2 = true
  · replace h := uu_pos c3 h
    obtain ⟨v4, e5, h⟩ := uu_ob h
    by_cases c6 : 0 ≤ v4
    · replace h := uu_pos c6 h
      obtain ⟨s7, e8, h⟩ := uu_ob h
      refine ((yc_X12_part  e8).mo (by decide) (fun _ h => nomatch h)).tr ?_
      obtain ⟨s9, e10, h⟩ := uu_ob h
      refine ((yc_X12_value  e10).mo (by decide) (fun _ h => nomatch h)).tr ?_
      exact hK54 x1 x2 _ _ h
    · replace h := uu_neg c6 h
      exact hK54 x1 x2 _ _ h
  · replace h := uu_neg c3 h
    exact hK2 x1 (x2 + 1) _ _ h
set_option maxRecDepth 100000 in
set_option maxHeartbeats 4000000 in
theorem yn_X12_headers_54  {K2 : Int32 → Int32 → uS → Option uS}  (hK2 : ∀ (x1 : Int32) (x2 : Int32)  (s : uS) (r : uS), K2 x1 x2 s = some r → agr [11] [] s r) : ∀ (n : Nat) (x1 : Int32) (x2 : Int32)  (s : uS) (r : uS), fn_X12_headers_54  K2 n x1 x2 s = some r → agr [11] [] s r := by
  intro n
  induction n with
  | zero => intro x1 x2  s r h
            cases h
  | succ n ih => intro x1 x2  s r h
                 exact yb_X12_headers_54  hK2 ih  h
set_option maxRecDepth 100000 in
set_option maxHeartbeats 4000000 in
theorem yb_X12_headers_2  {K2 : Int32 → Int32 → uS → Option uS}  (hK2 : ∀ (x1 : Int32) (x2 : Int32)  (s : uS) (r : uS), K2 x1 x2 s = some r → agr [11] [] s r) {x1 : Int32} {x2 : Int32} {s : uS} {r : uS}  (h : fb_X12_headers_2  K2 x1 x2 s = some r) : agr [11] [] s r := by
  unfold fb_X12_headers_2 at h
  by_cases c1 : (s.I 1079 14) ≤ x2
  · replace h := uu_pos c1 h
    have hr := Option.some.inj h
    subst hr
    exact agr.rf
  · replace h := uu_neg c1 h
    obtain ⟨v2, e3, h⟩ := uu_ob h
    by_cases c4 : v2 = true
    · replace h := uu_pos c4 h
      obtain ⟨s5, e6, h⟩ := uu_ob h
      refine ((yc_X12_oneValue  e6).mo (by decide) (fun _ h => nomatch h)).tr ?_
      obtain ⟨v7, e8, h⟩ := uu_ob h
      by_cases c9 : v7 = 20
      · replace h := uu_pos c9 h
        obtain ⟨s10, e11, h⟩ := uu_ob h
        refine ((yc_X12_value  e11).mo (by decide) (fun _ h => nomatch h)).tr ?_
        exact hK2 x1 (x2 + 1) _ _ h
      · replace h := uu_neg c9 h
        obtain ⟨s12, e13, h⟩ := uu_ob h
        refine ((yc_X12_keepWhole  e13).mo (by decide) (fun _ h => nomatch h)).tr ?_
        obtain ⟨s14, e15, h⟩ := uu_ob h
        refine ((yc_X12_beginParts  e15).mo (by decide) (fun _ h => nomatch h)).tr ?_
        exact yn_X12_headers_54 hK2 _ _ _ _ _ h
    · replace h := uu_neg c4 h
      exact hK2 x1 (x2 + 1) _ _ h
set_option maxRecDepth 100000 in
set_option maxHeartbeats 4000000 in
theorem yn_X12_headers_2     : ∀ (n : Nat) (x1 : Int32) (x2 : Int32)  (s : uS) (r : uS), fn_X12_headers_2   n x1 x2 s = some r → agr [11] [] s r := by
  intro n
  induction n with
  | zero => intro x1 x2  s r h
            cases h
  | succ n ih => intro x1 x2  s r h
                 exact yb_X12_headers_2  ih  h
set_option maxRecDepth 100000 in
set_option maxHeartbeats 4000000 in
theorem yc_X12_headers   {x1 : Int32} {s : uS} {r : uS}  (h : fn_X12_headers  x1 s = some r) : agr [11] [] s r := by
  unfold fn_X12_headers at h
  exact yn_X12_headers_2  _ _ _ _ _ h
set_option maxRecDepth 100000 in
set_option maxHeartbeats 4000000 in
theorem yb_X12_oneFrom_10  {K10 : Int32 → uS → Option uS}  (hK10 : ∀ (x1 : Int32)  (s : uS) (r : uS), K10 x1 s = some r → agr [11] [] s r) {x1 : Int32} {s : uS} {r : uS}  (h : fb_X12_oneFrom_10  K10 x1 s = some r) : agr [11] [] s r := by
  unfold fb_X12_oneFrom_10 at h
  by_cases c1 : (s.I 1079 93) ≤ x1
  · replace h := uu_pos c1 h
    have hr := Option.some.inj h
    subst hr
    exact agr.rf
  · replace h := uu_neg c1 h
    obtain ⟨v2, e3, h⟩ := uu_ob h
    obtain ⟨s4, e5, h⟩ := uu_ob h
    refine (agr_iput e5 (Or.inl (by decide))).tr ?_
    exact hK10 (x1 + 1) _ _ h
set_option maxRecDepth 100000 in
set_option maxHeartbeats 4000000 in
theorem yn_X12_oneFrom_10     : ∀ (n : Nat) (x1 : Int32)  (s : uS) (r : uS), fn_X12_oneFrom_10   n x1 s = some r → agr [11] [] s r := by
  intro n
  induction n with
  | zero => intro x1  s r h
            cases h
  | succ n ih => intro x1  s r h
                 exact yb_X12_oneFrom_10  ih  h
set_option maxRecDepth 100000 in
set_option maxHeartbeats 4000000 in
theorem yc_X12_oneFrom    {s : uS} {r : uS}  (h : fn_X12_oneFrom   s = some r) : agr [11] [] s r := by
  unfold fn_X12_oneFrom at h
  refine (agr_wI (a := 1079) (f := 21) (v := s.I 1079 93) (Or.inl (by decide))).tr ?_
  exact yn_X12_oneFrom_10  _ _ _ _ h
set_option maxRecDepth 100000 in
set_option maxHeartbeats 4000000 in
theorem yb_X12_oneTo_10  {K10 : Int32 → uS → Option uS}  (hK10 : ∀ (x1 : Int32)  (s : uS) (r : uS), K10 x1 s = some r → agr [11] [] s r) {x1 : Int32} {s : uS} {r : uS}  (h : fb_X12_oneTo_10  K10 x1 s = some r) : agr [11] [] s r := by
  unfold fb_X12_oneTo_10 at h
  by_cases c1 : (s.I 1079 91) ≤ x1
  · replace h := uu_pos c1 h
    have hr := Option.some.inj h
    subst hr
    exact agr.rf
  · replace h := uu_neg c1 h
    obtain ⟨v2, e3, h⟩ := uu_ob h
    obtain ⟨s4, e5, h⟩ := uu_ob h
    refine (agr_iput e5 (Or.inl (by decide))).tr ?_
    exact hK10 (x1 + 1) _ _ h
set_option maxRecDepth 100000 in
set_option maxHeartbeats 4000000 in
theorem yn_X12_oneTo_10     : ∀ (n : Nat) (x1 : Int32)  (s : uS) (r : uS), fn_X12_oneTo_10   n x1 s = some r → agr [11] [] s r := by
  intro n
  induction n with
  | zero => intro x1  s r h
            cases h
  | succ n ih => intro x1  s r h
                 exact yb_X12_oneTo_10  ih  h
set_option maxRecDepth 100000 in
set_option maxHeartbeats 4000000 in
theorem yc_X12_oneTo    {s : uS} {r : uS}  (h : fn_X12_oneTo   s = some r) : agr [11] [] s r := by
  unfold fn_X12_oneTo at h
  refine (agr_wI (a := 1079) (f := 21) (v := s.I 1079 91) (Or.inl (by decide))).tr ?_
  exact yn_X12_oneTo_10  _ _ _ _ h
set_option maxRecDepth 100000 in
set_option maxHeartbeats 4000000 in
theorem yb_X12_envelope_99     {x1 : Int32} {b3 : Bool} {s : uS} {r : uS}  (h : fb_X12_envelope_99   x1 b3 s = some r) : agr [11] [] s r := by
  unfold fb_X12_envelope_99 at h
  by_cases c1 : b3 = true
  · replace h := uu_pos c1 h
    obtain ⟨s2, e3, h⟩ := uu_ob h
    refine ((yc_X12_oneTo  e3).mo (by decide) (fun _ h => nomatch h)).tr ?_
    obtain ⟨v4, e5, h⟩ := uu_ob h
    obtain ⟨s6, e7, h⟩ := uu_ob h
    refine ((yc_X12_part  e7).mo (by decide) (fun _ h => nomatch h)).tr ?_
    obtain ⟨s8, e9, h⟩ := uu_ob h
    refine ((yc_X12_value  e9).mo (by decide) (fun _ h => nomatch h)).tr ?_
    have hr := Option.some.inj h
    subst hr
    exact agr.rf
  · replace h := uu_neg c1 h
    have hr := Option.some.inj h
    subst hr
    exact agr.rf
set_option maxRecDepth 100000 in
set_option maxHeartbeats 4000000 in
theorem yb_X12_envelope_50  {K7 : Int32 → Bool → Bool → Int32 → uS → Option uS}  (hK7 : ∀ (x1 : Int32) (b2 : Bool) (b3 : Bool) (x4 : Int32)  (s : uS) (r : uS), K7 x1 b2 b3 x4 s = some r → agr [11] [] s r) {x1 : Int32} {b3 : Bool} {x4 : Int32} {bs0 : Bool} {s : uS} {r : uS}  (h : fb_X12_envelope_50  K7 x1 b3 x4 bs0 s = some r) : agr [11] [] s r := by
  unfold fb_X12_envelope_50 at h
  by_cases c1 : b3 = true
  · replace h := uu_pos c1 h
    exact hK7 x1 bs0 true (x4 + 1) _ _ h
  · replace h := uu_neg c1 h
    obtain ⟨r3, e4, h⟩ := uu_ob h
    refine ((yc_X12_oneIs  e4).mo (by decide) (fun _ h => nomatch h)).tr ?_
    by_cases c5 : r3.2 = true
    · replace h := uu_pos c5 h
      exact hK7 x1 bs0 true (x4 + 1) _ _ h
    · replace h := uu_neg c5 h
      exact hK7 x1 bs0 false (x4 + 1) _ _ h
set_option maxRecDepth 100000 in
set_option maxHeartbeats 4000000 in
theorem yb_X12_envelope_7  {K7 : Int32 → Bool → Bool → Int32 → uS → Option uS}  (hK7 : ∀ (x1 : Int32) (b2 : Bool) (b3 : Bool) (x4 : Int32)  (s : uS) (r : uS), K7 x1 b2 b3 x4 s = some r → agr [11] [] s r) {x1 : Int32} {b2 : Bool} {b3 : Bool} {x4 : Int32} {s : uS} {r : uS}  (h : fb_X12_envelope_7  K7 x1 b2 b3 x4 s = some r) : agr [11] [] s r := by
  unfold fb_X12_envelope_7 at h
  obtain ⟨v1, e2, h⟩ := uu_ob h
  by_cases c3 : v1 ≤ x4
  · replace h := uu_pos c3 h
    by_cases c4 : b2 = true
    · replace h := uu_pos c4 h
      obtain ⟨s5, e6, h⟩ := uu_ob h
      refine ((yc_X12_oneFrom  e6).mo (by decide) (fun _ h => nomatch h)).tr ?_
      obtain ⟨v7, e8, h⟩ := uu_ob h
      obtain ⟨s9, e10, h⟩ := uu_ob h
      refine ((yc_X12_part  e10).mo (by decide) (fun _ h => nomatch h)).tr ?_
      obtain ⟨s11, e12, h⟩ := uu_ob h
      refine ((yc_X12_value  e12).mo (by decide) (fun _ h => nomatch h)).tr ?_
      exact yb_X12_envelope_99  h
    · replace h := uu_neg c4 h
      exact yb_X12_envelope_99  h
  · replace h := uu_neg c3 h
    obtain ⟨v13, e14, h⟩ := uu_ob h
    obtain ⟨s15, e16, h⟩ := uu_ob h
    refine ((yc_X12_oneString  e16).mo (by decide) (fun _ h => nomatch h)).tr ?_
    by_cases c17 : b2 = true
    · replace h := uu_pos c17 h
      exact yb_X12_envelope_50 hK7 h
    · replace h := uu_neg c17 h
      obtain ⟨r19, e20, h⟩ := uu_ob h
      refine ((yc_X12_oneIs  e20).mo (by decide) (fun _ h => nomatch h)).tr ?_
      by_cases c21 : r19.2 = true
      · replace h := uu_pos c21 h
        exact yb_X12_envelope_50 hK7 h
      · replace h := uu_neg c21 h
        exact yb_X12_envelope_50 hK7 h
set_option maxRecDepth 100000 in
set_option maxHeartbeats 4000000 in
theorem yn_X12_envelope_7     : ∀ (n : Nat) (x1 : Int32) (b2 : Bool) (b3 : Bool) (x4 : Int32)  (s : uS) (r : uS), fn_X12_envelope_7   n x1 b2 b3 x4 s = some r → agr [11] [] s r := by
  intro n
  induction n with
  | zero => intro x1 b2 b3 x4  s r h
            cases h
  | succ n ih => intro x1 b2 b3 x4  s r h
                 exact yb_X12_envelope_7  ih  h
set_option maxRecDepth 100000 in
set_option maxHeartbeats 4000000 in
theorem yc_X12_envelope   {x1 : Int32} {s : uS} {r : uS}  (h : fn_X12_envelope  x1 s = some r) : agr [11] [] s r := by
  unfold fn_X12_envelope at h
  exact yn_X12_envelope_7  _ _ _ _ _ _ _ h
set_option maxRecDepth 100000 in
set_option maxHeartbeats 4000000 in
theorem yb_X12_flagsSet_80  {K2 : Int32 → Int32 → uS → Option uS} {K80 : Int32 → Int32 → List Nat → Int32 → uS → Option uS}  (hK2 : ∀ (x1 : Int32) (x2 : Int32)  (s : uS) (r : uS), K2 x1 x2 s = some r → agr [11] [] s r) (hK80 : ∀ (x1 : Int32) (x2 : Int32) (w3 : List Nat) (x4 : Int32)  (s : uS) (r : uS), K80 x1 x2 w3 x4 s = some r → agr [11] [] s r) {x1 : Int32} {x2 : Int32} {w3 : List Nat} {x4 : Int32} {s : uS} {r : uS}  (h : fb_X12_flagsSet_80  K2 K80 x1 x2 w3 x4 s = some r) : agr [11] [] s r := by
  unfold fb_X12_flagsSet_80 at h
  by_cases c1 : (s.I 1079 21) ≤ x4
  · replace h := uu_pos c1 h
    obtain ⟨s2, e3, h⟩ := uu_ob h
    refine ((yc_X12_value  e3).mo (by decide) (fun _ h => nomatch h)).tr ?_
    exact hK2 x1 (x2 * 2) _ _ h
  · replace h := uu_neg c1 h
    obtain ⟨v4, e5, h⟩ := uu_ob h
    obtain ⟨s6, e7, h⟩ := uu_ob h
    refine (agr_iput e7 (Or.inl (by decide))).tr ?_
    exact hK80 x1 x2 w3 (x4 + 1) _ _ h
set_option maxRecDepth 100000 in
set_option maxHeartbeats 4000000 in
theorem yn_X12_flagsSet_80  {K2 : Int32 → Int32 → uS → Option uS}  (hK2 : ∀ (x1 : Int32) (x2 : Int32)  (s : uS) (r : uS), K2 x1 x2 s = some r → agr [11] [] s r) : ∀ (n : Nat) (x1 : Int32) (x2 : Int32) (w3 : List Nat) (x4 : Int32)  (s : uS) (r : uS), fn_X12_flagsSet_80  K2 n x1 x2 w3 x4 s = some r → agr [11] [] s r := by
  intro n
  induction n with
  | zero => intro x1 x2 w3 x4  s r h
            cases h
  | succ n ih => intro x1 x2 w3 x4  s r h
                 exact yb_X12_flagsSet_80  hK2 ih  h
set_option maxRecDepth 100000 in
set_option maxHeartbeats 4000000 in
theorem yb_X12_flagsSet_68  {K2 : Int32 → Int32 → uS → Option uS}  (hK2 : ∀ (x1 : Int32) (x2 : Int32)  (s : uS) (r : uS), K2 x1 x2 s = some r → agr [11] [] s r) {x1 : Int32} {x2 : Int32} {ws0 : List Nat} {s : uS} {r : uS}  (h : fb_X12_flagsSet_68  K2 x1 x2 ws0 s = some r) : agr [11] [] s r := by
  unfold fb_X12_flagsSet_68 at h
  refine (agr_wI (a := 1079) (f := 21) (v := nI ws0.length) (Or.inl (by decide))).tr ?_
  exact yn_X12_flagsSet_80 hK2 _ _ _ _ _ _ _ h
set_option maxRecDepth 100000 in
set_option maxHeartbeats 4000000 in
theorem yb_X12_flagsSet_2  {K2 : Int32 → Int32 → uS → Option uS}  (hK2 : ∀ (x1 : Int32) (x2 : Int32)  (s : uS) (r : uS), K2 x1 x2 s = some r → agr [11] [] s r) {x1 : Int32} {x2 : Int32} {s : uS} {r : uS}  (h : fb_X12_flagsSet_2  K2 x1 x2 s = some r) : agr [11] [] s r := by
  unfold fb_X12_flagsSet_2 at h
  by_cases c1 : (32 : Int32) ≤ x2
  · replace h := uu_pos c1 h
    have hr := Option.some.inj h
    subst hr
    exact agr.rf
  · replace h := uu_neg c1 h
    by_cases c2 : ((s.I 1079 94) &&& x2) = 0
    · replace h := uu_pos c2 h
      exact hK2 x1 (x2 * 2) _ _ h
    · replace h := uu_neg c2 h
      by_cases c3 : x2 = 1
      · replace h := uu_pos c3 h
        exact yb_X12_flagsSet_68 hK2 h
      · replace h := uu_neg c3 h
        by_cases c5 : x2 = 2
        · replace h := uu_pos c5 h
          exact yb_X12_flagsSet_68 hK2 h
        · replace h := uu_neg c5 h
          by_cases c7 : x2 = 4
          · replace h := uu_pos c7 h
            exact yb_X12_flagsSet_68 hK2 h
          · replace h := uu_neg c7 h
            by_cases c9 : x2 = 8
            · replace h := uu_pos c9 h
              exact yb_X12_flagsSet_68 hK2 h
            · replace h := uu_neg c9 h
              exact yb_X12_flagsSet_68 hK2 h
set_option maxRecDepth 100000 in
set_option maxHeartbeats 4000000 in
theorem yn_X12_flagsSet_2     : ∀ (n : Nat) (x1 : Int32) (x2 : Int32)  (s : uS) (r : uS), fn_X12_flagsSet_2   n x1 x2 s = some r → agr [11] [] s r := by
  intro n
  induction n with
  | zero => intro x1 x2  s r h
            cases h
  | succ n ih => intro x1 x2  s r h
                 exact yb_X12_flagsSet_2  ih  h
set_option maxRecDepth 100000 in
set_option maxHeartbeats 4000000 in
theorem yc_X12_flagsSet   {x1 : Int32} {s : uS} {r : uS}  (h : fn_X12_flagsSet  x1 s = some r) : agr [11] [] s r := by
  unfold fn_X12_flagsSet at h
  exact yn_X12_flagsSet_2  _ _ _ _ _ h
set_option maxRecDepth 100000 in
set_option maxHeartbeats 4000000 in
theorem yc_X12_isInbox   {x1 : Int32} {s : uS} {r : (uS × Bool)}  (h : fn_X12_isInbox  x1 s = some r) : agr [11] [] s r.1 := by
  unfold fn_X12_isInbox at h
  by_cases c1 : x1 = (-1)
  · replace h := uu_pos c1 h
    have hr := Option.some.inj h
    subst hr
    exact agr.rf
  · replace h := uu_neg c1 h
    obtain ⟨s2, e3, h⟩ := uu_ob h
    refine ((yc_X12_oneString  e3).mo (by decide) (fun _ h => nomatch h)).tr ?_
    obtain ⟨r5, e6, h⟩ := uu_ob h
    refine ((yc_X12_oneIs  e6).mo (by decide) (fun _ h => nomatch h)).tr ?_
    have hr := Option.some.inj h
    subst hr
    exact agr.rf
set_option maxRecDepth 100000 in
set_option maxHeartbeats 4000000 in
theorem yb_X12_sameBox_22     {b3 : Bool} {b4 : Bool} {s : uS} {r : (uS × Bool)}  (h : fb_X12_sameBox_22   b3 b4 s = some r) : agr [11] [] s r.1 := by
  unfold fb_X12_sameBox_22 at h
  by_cases c1 : b3 = true
  · replace h := uu_pos c1 h
    by_cases c2 : b4 = true
    · replace h := uu_pos c2 h
      have hr := Option.some.inj h
      subst hr
      exact agr.rf
    · replace h := uu_neg c2 h
      have hr := Option.some.inj h
      subst hr
      exact agr.rf
  · replace h := uu_neg c1 h
    have hr := Option.some.inj h
    subst hr
    exact agr.rf
set_option maxRecDepth 100000 in
set_option maxHeartbeats 4000000 in
theorem yc_X12_sameBox   {x1 : Int32} {x2 : Int32} {s : uS} {r : (uS × Bool)}  (h : fn_X12_sameBox  x1 x2 s = some r) : agr [11] [] s r.1 := by
  unfold fn_X12_sameBox at h
  obtain ⟨r1, e2, h⟩ := uu_ob h
  refine ((yc_X12_isInbox  e2).mo (by decide) (fun _ h => nomatch h)).tr ?_
  obtain ⟨r3, e4, h⟩ := uu_ob h
  refine ((yc_X12_isInbox  e4).mo (by decide) (fun _ h => nomatch h)).tr ?_
  by_cases c5 : r1.2 = true
  · replace h := uu_pos c5 h
    exact yb_X12_sameBox_22  h
  · replace h := uu_neg c5 h
    by_cases c6 : r3.2 = true
    · replace h := uu_pos c6 h
      exact yb_X12_sameBox_22  h
    · replace h := uu_neg c6 h
      obtain ⟨v7, e8, h⟩ := uu_ob h
      have hr := Option.some.inj h
      subst hr
      exact agr.rf
set_option maxRecDepth 100000 in
set_option maxHeartbeats 4000000 in
theorem yb_X12_file1_5  {K5 : Int32 → Int32 → Bool → Int32 → uS → Option uS}  (hK5 : ∀ (x1 : Int32) (x2 : Int32) (b3 : Bool) (x4 : Int32)  (s : uS) (r : uS), K5 x1 x2 b3 x4 s = some r → agr [11] [] s r) {x1 : Int32} {x2 : Int32} {b3 : Bool} {x4 : Int32} {s : uS} {r : uS}  (h : fb_X12_file1_5  K5 x1 x2 b3 x4 s = some r) : agr [11] [] s r := by
  unfold fb_X12_file1_5 at h
  by_cases c1 : (s.I 1079 97) ≤ x4
  · replace h := uu_pos c1 h
    by_cases c2 : b3 = true
    · replace h := uu_pos c2 h
      have hr := Option.some.inj h
      subst hr
      exact agr.rf
    · replace h := uu_neg c2 h
      obtain ⟨s3, e4, h⟩ := uu_ob h
      refine (agr_iput e4 (Or.inl (by decide))).tr ?_
      obtain ⟨s5, e6, h⟩ := uu_ob h
      refine (agr_iput e6 (Or.inl (by decide))).tr ?_
      refine (agr_wI (a := 1079) (f := 97) (v := (s5.I 1079 97) + 1) (Or.inl (by decide))).tr ?_
      have hr := Option.some.inj h
      subst hr
      exact agr.rf
  · replace h := uu_neg c1 h
    by_cases c7 : b3 = true
    · replace h := uu_pos c7 h
      exact hK5 x1 x2 true (x4 + 1) _ _ h
    · replace h := uu_neg c7 h
      obtain ⟨v8, e9, h⟩ := uu_ob h
      obtain ⟨r10, e11, h⟩ := uu_ob h
      refine ((yc_X12_sameBox  e11).mo (by decide) (fun _ h => nomatch h)).tr ?_
      by_cases c12 : r10.2 = true
      · replace h := uu_pos c12 h
        exact hK5 x1 x2 true (x4 + 1) _ _ h
      · replace h := uu_neg c12 h
        exact hK5 x1 x2 false (x4 + 1) _ _ h
set_option maxRecDepth 100000 in
set_option maxHeartbeats 4000000 in
theorem yn_X12_file1_5     : ∀ (n : Nat) (x1 : Int32) (x2 : Int32) (b3 : Bool) (x4 : Int32)  (s : uS) (r : uS), fn_X12_file1_5   n x1 x2 b3 x4 s = some r → agr [11] [] s r := by
  intro n
  induction n with
  | zero => intro x1 x2 b3 x4  s r h
            cases h
  | succ n ih => intro x1 x2 b3 x4  s r h
                 exact yb_X12_file1_5  ih  h
set_option maxRecDepth 100000 in
set_option maxHeartbeats 4000000 in
theorem yc_X12_file1   {x1 : Int32} {x2 : Int32} {s : uS} {r : uS}  (h : fn_X12_file1  x1 x2 s = some r) : agr [11] [] s r := by
  unfold fn_X12_file1 at h
  exact yn_X12_file1_5  _ _ _ _ _ _ _ h
set_option maxRecDepth 100000 in
set_option maxHeartbeats 4000000 in
theorem yb_X12_redirect1_4  {K4 : Int32 → Bool → Int32 → uS → Option uS}  (hK4 : ∀ (x1 : Int32) (b2 : Bool) (x3 : Int32)  (s : uS) (r : uS), K4 x1 b2 x3 s = some r → agr [11] [] s r) {x1 : Int32} {b2 : Bool} {x3 : Int32} {s : uS} {r : uS}  (h : fb_X12_redirect1_4  K4 x1 b2 x3 s = some r) : agr [11] [] s r := by
  unfold fb_X12_redirect1_4 at h
  by_cases c1 : (s.I 1079 100) ≤ x3
  · replace h := uu_pos c1 h
    by_cases c2 : b2 = true
    · replace h := uu_pos c2 h
      have hr := Option.some.inj h
      subst hr
      exact agr.rf
    · replace h := uu_neg c2 h
      obtain ⟨s3, e4, h⟩ := uu_ob h
      refine (agr_iput e4 (Or.inl (by decide))).tr ?_
      refine (agr_wI (a := 1079) (f := 100) (v := (s3.I 1079 100) + 1) (Or.inl (by decide))).tr ?_
      have hr := Option.some.inj h
      subst hr
      exact agr.rf
  · replace h := uu_neg c1 h
    by_cases c5 : b2 = true
    · replace h := uu_pos c5 h
      exact hK4 x1 true (x3 + 1) _ _ h
    · replace h := uu_neg c5 h
      obtain ⟨v6, e7, h⟩ := uu_ob h
      obtain ⟨v8, e9, h⟩ := uu_ob h
      by_cases c10 : v8 = true
      · replace h := uu_pos c10 h
        exact hK4 x1 true (x3 + 1) _ _ h
      · replace h := uu_neg c10 h
        exact hK4 x1 false (x3 + 1) _ _ h
set_option maxRecDepth 100000 in
set_option maxHeartbeats 4000000 in
theorem yn_X12_redirect1_4     : ∀ (n : Nat) (x1 : Int32) (b2 : Bool) (x3 : Int32)  (s : uS) (r : uS), fn_X12_redirect1_4   n x1 b2 x3 s = some r → agr [11] [] s r := by
  intro n
  induction n with
  | zero => intro x1 b2 x3  s r h
            cases h
  | succ n ih => intro x1 b2 x3  s r h
                 exact yb_X12_redirect1_4  ih  h
set_option maxRecDepth 100000 in
set_option maxHeartbeats 4000000 in
theorem yc_X12_redirect1   {x1 : Int32} {s : uS} {r : uS}  (h : fn_X12_redirect1  x1 s = some r) : agr [11] [] s r := by
  unfold fn_X12_redirect1 at h
  exact yn_X12_redirect1_4  _ _ _ _ _ _ h
set_option maxRecDepth 100000 in
set_option maxHeartbeats 4000000 in
theorem yb_X12_boxOf_126  {K12 : Int32 → Int32 → uS → Option (uS × Int32)}  (hK12 : ∀ (x1 : Int32) (x2 : Int32)  (s : uS) (r : (uS × Int32)), K12 x1 x2 s = some r → agr [11] [] s r.1) {x1 : Int32} {x2 : Int32} {b4 : Bool} {s : uS} {r : (uS × Int32)}  (h : fb_X12_boxOf_126  K12 x1 x2 b4 s = some r) : agr [11] [] s r.1 := by
  unfold fb_X12_boxOf_126 at h
  by_cases c1 : b4 = true
  · replace h := uu_pos c1 h
    have hr := Option.some.inj h
    subst hr
    exact agr.rf
  · replace h := uu_neg c1 h
    exact hK12 x1 (x2 + 1) _ _ h
set_option maxRecDepth 100000 in
set_option maxHeartbeats 4000000 in
theorem yb_X12_boxOf_71  {K12 : Int32 → Int32 → uS → Option (uS × Int32)} {K71 : Int32 → Int32 → Int32 → Bool → Int32 → uS → Option (uS × Int32)}  (hK12 : ∀ (x1 : Int32) (x2 : Int32)  (s : uS) (r : (uS × Int32)), K12 x1 x2 s = some r → agr [11] [] s r.1) (hK71 : ∀ (x1 : Int32) (x2 : Int32) (x3 : Int32) (b4 : Bool) (x5 : Int32)  (s : uS) (r : (uS × Int32)), K71 x1 x2 x3 b4 x5 s = some r → agr [11] [] s r.1) {x1 : Int32} {x2 : Int32} {x3 : Int32} {b4 : Bool} {x5 : Int32} {s : uS} {r : (uS × Int32)}  (h : fb_X12_boxOf_71  K12 K71 x1 x2 x3 b4 x5 s = some r) : agr [11] [] s r.1 := by
  unfold fb_X12_boxOf_71 at h
  obtain ⟨v1, e2, h⟩ := uu_ob h
  by_cases c3 : v1 ≤ x5
  · replace h := uu_pos c3 h
    exact yb_X12_boxOf_126 hK12 h
  · replace h := uu_neg c3 h
    by_cases c4 : b4 = true
    · replace h := uu_pos c4 h
      obtain ⟨v5, e6, h⟩ := uu_ob h
      obtain ⟨v7, e8, h⟩ := uu_ob h
      obtain ⟨v9, e10, h⟩ := uu_ob h
      by_cases c11 : v5 = v9
      · replace h := uu_pos c11 h
        exact hK71 x1 x2 x3 true (x5 + 1) _ _ h
      · replace h := uu_neg c11 h
        exact hK71 x1 x2 x3 false (x5 + 1) _ _ h
    · replace h := uu_neg c4 h
      exact yb_X12_boxOf_126 hK12 h
set_option maxRecDepth 100000 in
set_option maxHeartbeats 4000000 in
theorem yn_X12_boxOf_71  {K12 : Int32 → Int32 → uS → Option (uS × Int32)}  (hK12 : ∀ (x1 : Int32) (x2 : Int32)  (s : uS) (r : (uS × Int32)), K12 x1 x2 s = some r → agr [11] [] s r.1) : ∀ (n : Nat) (x1 : Int32) (x2 : Int32) (x3 : Int32) (b4 : Bool) (x5 : Int32)  (s : uS) (r : (uS × Int32)), fn_X12_boxOf_71  K12 n x1 x2 x3 b4 x5 s = some r → agr [11] [] s r.1 := by
  intro n
  induction n with
  | zero => intro x1 x2 x3 b4 x5  s r h
            cases h
  | succ n ih => intro x1 x2 x3 b4 x5  s r h
                 exact yb_X12_boxOf_71  hK12 ih  h
set_option maxRecDepth 100000 in
set_option maxHeartbeats 4000000 in
theorem yb_X12_boxOf_12  {K12 : Int32 → Int32 → uS → Option (uS × Int32)}  (hK12 : ∀ (x1 : Int32) (x2 : Int32)  (s : uS) (r : (uS × Int32)), K12 x1 x2 s = some r → agr [11] [] s r.1) {x1 : Int32} {x2 : Int32} {s : uS} {r : (uS × Int32)}  (h : fb_X12_boxOf_12  K12 x1 x2 s = some r) : agr [11] [] s r.1 := by
  unfold fb_X12_boxOf_12 at h
  obtain ⟨v1, e2, h⟩ := uu_ob h
  by_cases c3 : v1 ≤ x2
  · replace h := uu_pos c3 h
    have hr := Option.some.inj h
    subst hr
    exact agr.rf
  · replace h := uu_neg c3 h
    obtain ⟨v4, e5, h⟩ := uu_ob h
    obtain ⟨v6, e7, h⟩ := uu_ob h
    by_cases c8 : v4 = v6
    · replace h := uu_pos c8 h
      exact yn_X12_boxOf_71 hK12 _ _ _ _ _ _ _ _ h
    · replace h := uu_neg c8 h
      exact yn_X12_boxOf_71 hK12 _ _ _ _ _ _ _ _ h
set_option maxRecDepth 100000 in
set_option maxHeartbeats 4000000 in
theorem yn_X12_boxOf_12     : ∀ (n : Nat) (x1 : Int32) (x2 : Int32)  (s : uS) (r : (uS × Int32)), fn_X12_boxOf_12   n x1 x2 s = some r → agr [11] [] s r.1 := by
  intro n
  induction n with
  | zero => intro x1 x2  s r h
            cases h
  | succ n ih => intro x1 x2  s r h
                 exact yb_X12_boxOf_12  ih  h
set_option maxRecDepth 100000 in
set_option maxHeartbeats 4000000 in
theorem yc_X12_boxOf   {x1 : Int32} {s : uS} {r : (uS × Int32)}  (h : fn_X12_boxOf  x1 s = some r) : agr [11] [] s r.1 := by
  unfold fn_X12_boxOf at h
  obtain ⟨r1, e2, h⟩ := uu_ob h
  refine ((yc_X12_isInbox  e2).mo (by decide) (fun _ h => nomatch h)).tr ?_
  by_cases c3 : r1.2 = true
  · replace h := uu_pos c3 h
    have hr := Option.some.inj h
    subst hr
    exact agr.rf
  · replace h := uu_neg c3 h
    exact yn_X12_boxOf_12  _ _ _ _ _ h
set_option maxRecDepth 100000 in
set_option maxHeartbeats 4000000 in
theorem yb_X12_newBoxes_4  {K4 : Int32 → Int32 → uS → Option (uS × Int32)}  (hK4 : ∀ (x1 : Int32) (x2 : Int32)  (s : uS) (r : (uS × Int32)), K4 x1 x2 s = some r → agr [11] [] s r.1) {x1 : Int32} {x2 : Int32} {s : uS} {r : (uS × Int32)}  (h : fb_X12_newBoxes_4  K4 x1 x2 s = some r) : agr [11] [] s r.1 := by
  unfold fb_X12_newBoxes_4 at h
  by_cases c1 : (s.I 1079 97) ≤ x2
  · replace h := uu_pos c1 h
    have hr := Option.some.inj h
    subst hr
    exact agr.rf
  · replace h := uu_neg c1 h
    obtain ⟨v2, e3, h⟩ := uu_ob h
    obtain ⟨r4, e5, h⟩ := uu_ob h
    refine ((yc_X12_boxOf  e5).mo (by decide) (fun _ h => nomatch h)).tr ?_
    by_cases c6 : 0 ≤ r4.2
    · replace h := uu_pos c6 h
      exact hK4 x1 (x2 + 1) _ _ h
    · replace h := uu_neg c6 h
      exact hK4 (x1 + 1) (x2 + 1) _ _ h
set_option maxRecDepth 100000 in
set_option maxHeartbeats 4000000 in
theorem yn_X12_newBoxes_4     : ∀ (n : Nat) (x1 : Int32) (x2 : Int32)  (s : uS) (r : (uS × Int32)), fn_X12_newBoxes_4   n x1 x2 s = some r → agr [11] [] s r.1 := by
  intro n
  induction n with
  | zero => intro x1 x2  s r h
            cases h
  | succ n ih => intro x1 x2  s r h
                 exact yb_X12_newBoxes_4  ih  h
set_option maxRecDepth 100000 in
set_option maxHeartbeats 4000000 in
theorem yc_X12_newBoxes    {s : uS} {r : (uS × Int32)}  (h : fn_X12_newBoxes   s = some r) : agr [11] [] s r.1 := by
  unfold fn_X12_newBoxes at h
  exact yn_X12_newBoxes_4  _ _ _ _ _ h
set_option maxRecDepth 100000 in
set_option maxHeartbeats 4000000 in
theorem yb_X12_boxMade_56  {K56 : Int32 → Int32 → Int32 → uS → Option (uS × Int32)}  (hK56 : ∀ (x1 : Int32) (x2 : Int32) (x3 : Int32)  (s : uS) (r : (uS × Int32)), K56 x1 x2 x3 s = some r → agr [11] [] s r.1) {x1 : Int32} {x2 : Int32} {x3 : Int32} {s : uS} {r : (uS × Int32)}  (h : fb_X12_boxMade_56  K56 x1 x2 x3 s = some r) : agr [11] [] s r.1 := by
  unfold fb_X12_boxMade_56 at h
  obtain ⟨v1, e2, h⟩ := uu_ob h
  by_cases c3 : v1 ≤ x3
  · replace h := uu_pos c3 h
    have hr := Option.some.inj h
    subst hr
    exact agr.rf
  · replace h := uu_neg c3 h
    obtain ⟨v4, e5, h⟩ := uu_ob h
    obtain ⟨v6, e7, h⟩ := uu_ob h
    obtain ⟨s8, e9, h⟩ := uu_ob h
    refine (agr_iput e9 (Or.inl (by decide))).tr ?_
    exact hK56 x1 x2 (x3 + 1) _ _ h
set_option maxRecDepth 100000 in
set_option maxHeartbeats 4000000 in
theorem yn_X12_boxMade_56     : ∀ (n : Nat) (x1 : Int32) (x2 : Int32) (x3 : Int32)  (s : uS) (r : (uS × Int32)), fn_X12_boxMade_56   n x1 x2 x3 s = some r → agr [11] [] s r.1 := by
  intro n
  induction n with
  | zero => intro x1 x2 x3  s r h
            cases h
  | succ n ih => intro x1 x2 x3  s r h
                 exact yb_X12_boxMade_56  ih  h
set_option maxRecDepth 100000 in
set_option maxHeartbeats 4000000 in
theorem yc_X12_boxMade   {x1 : Int32} {s : uS} {r : (uS × Int32)}  (h : fn_X12_boxMade  x1 s = some r) : agr [11] [] s r.1 := by
  unfold fn_X12_boxMade at h
  obtain ⟨r1, e2, h⟩ := uu_ob h
  refine ((yc_X12_boxOf  e2).mo (by decide) (fun _ h => nomatch h)).tr ?_
  by_cases c3 : r1.2 < 0
  · replace h := uu_pos c3 h
    obtain ⟨v4, e5, h⟩ := uu_ob h
    obtain ⟨s6, e7, h⟩ := uu_ob h
    refine (agr_iput e7 (Or.inl (by decide))).tr ?_
    obtain ⟨v8, e9, h⟩ := uu_ob h
    obtain ⟨s10, e11, h⟩ := uu_ob h
    refine (agr_iput e11 (Or.inl (by decide))).tr ?_
    exact yn_X12_boxMade_56  _ _ _ _ _ _ h
  · replace h := uu_neg c3 h
    have hr := Option.some.inj h
    subst hr
    exact agr.rf
set_option maxRecDepth 100000 in
set_option maxHeartbeats 4000000 in
theorem yb_X12_hasField_4  {K4 : List Nat → Bool → Int32 → uS → Option (uS × Bool)}  (hK4 : ∀ (w1 : List Nat) (b2 : Bool) (x3 : Int32)  (s : uS) (r : (uS × Bool)), K4 w1 b2 x3 s = some r → agr [11] [] s r.1) {w1 : List Nat} {b2 : Bool} {x3 : Int32} {s : uS} {r : (uS × Bool)}  (h : fb_X12_hasField_4  K4 w1 b2 x3 s = some r) : agr [11] [] s r.1 := by
  unfold fb_X12_hasField_4 at h
  by_cases c1 : (s.I 1079 14) ≤ x3
  · replace h := uu_pos c1 h
    have hr := Option.some.inj h
    subst hr
    exact agr.rf
  · replace h := uu_neg c1 h
    obtain ⟨s2, e3, h⟩ := uu_ob h
    refine ((yc_X12_oneName  e3).mo (by decide) (fun _ h => nomatch h)).tr ?_
    by_cases c4 : b2 = true
    · replace h := uu_pos c4 h
      exact hK4 w1 true (x3 + 1) _ _ h
    · replace h := uu_neg c4 h
      obtain ⟨r5, e6, h⟩ := uu_ob h
      refine ((yc_X12_oneIs  e6).mo (by decide) (fun _ h => nomatch h)).tr ?_
      by_cases c7 : r5.2 = true
      · replace h := uu_pos c7 h
        exact hK4 w1 true (x3 + 1) _ _ h
      · replace h := uu_neg c7 h
        exact hK4 w1 false (x3 + 1) _ _ h
set_option maxRecDepth 100000 in
set_option maxHeartbeats 4000000 in
theorem yn_X12_hasField_4     : ∀ (n : Nat) (w1 : List Nat) (b2 : Bool) (x3 : Int32)  (s : uS) (r : (uS × Bool)), fn_X12_hasField_4   n w1 b2 x3 s = some r → agr [11] [] s r.1 := by
  intro n
  induction n with
  | zero => intro w1 b2 x3  s r h
            cases h
  | succ n ih => intro w1 b2 x3  s r h
                 exact yb_X12_hasField_4  ih  h
set_option maxRecDepth 100000 in
set_option maxHeartbeats 4000000 in
theorem yc_X12_hasField   {w1 : List Nat} {s : uS} {r : (uS × Bool)}  (h : fn_X12_hasField  w1 s = some r) : agr [11] [] s r.1 := by
  unfold fn_X12_hasField at h
  exact yn_X12_hasField_4  _ _ _ _ _ _ h
set_option maxRecDepth 100000 in
set_option maxHeartbeats 4000000 in
theorem yb_X12_isAutomatic_4  {K4 : Bool → Int32 → uS → Option (uS × Bool)}  (hK4 : ∀ (b1 : Bool) (x2 : Int32)  (s : uS) (r : (uS × Bool)), K4 b1 x2 s = some r → agr [11] [] s r.1) {b1 : Bool} {x2 : Int32} {s : uS} {r : (uS × Bool)}  (h : fb_X12_isAutomatic_4  K4 b1 x2 s = some r) : agr [11] [] s r.1 := by
  unfold fb_X12_isAutomatic_4 at h
  by_cases c1 : (s.I 1079 14) ≤ x2
  · replace h := uu_pos c1 h
    have hr := Option.some.inj h
    subst hr
    exact agr.rf
  · replace h := uu_neg c1 h
    obtain ⟨s2, e3, h⟩ := uu_ob h
    refine ((yc_X12_oneName  e3).mo (by decide) (fun _ h => nomatch h)).tr ?_
    obtain ⟨r5, e6, h⟩ := uu_ob h
    refine ((yc_X12_oneIs  e6).mo (by decide) (fun _ h => nomatch h)).tr ?_
    by_cases c7 : r5.2 = true
    · replace h := uu_pos c7 h
      obtain ⟨s8, e9, h⟩ := uu_ob h
      refine ((yc_X12_oneValue  e9).mo (by decide) (fun _ h => nomatch h)).tr ?_
      by_cases c10 : b1 = true
      · replace h := uu_pos c10 h
        exact hK4 true (x2 + 1) _ _ h
      · replace h := uu_neg c10 h
        obtain ⟨r12, e13, h⟩ := uu_ob h
        refine ((yc_X12_oneIs  e13).mo (by decide) (fun _ h => nomatch h)).tr ?_
        by_cases c14 : r12.2 = true
        · replace h := uu_pos c14 h
          exact hK4 false (x2 + 1) _ _ h
        · replace h := uu_neg c14 h
          exact hK4 true (x2 + 1) _ _ h
    · replace h := uu_neg c7 h
      exact hK4 b1 (x2 + 1) _ _ h
set_option maxRecDepth 100000 in
set_option maxHeartbeats 4000000 in
theorem yn_X12_isAutomatic_4     : ∀ (n : Nat) (b1 : Bool) (x2 : Int32)  (s : uS) (r : (uS × Bool)), fn_X12_isAutomatic_4   n b1 x2 s = some r → agr [11] [] s r.1 := by
  intro n
  induction n with
  | zero => intro b1 x2  s r h
            cases h
  | succ n ih => intro b1 x2  s r h
                 exact yb_X12_isAutomatic_4  ih  h
set_option maxRecDepth 100000 in
set_option maxHeartbeats 4000000 in
theorem yc_X12_isAutomatic    {s : uS} {r : (uS × Bool)}  (h : fn_X12_isAutomatic   s = some r) : agr [11] [] s r.1 := by
  unfold fn_X12_isAutomatic at h
  exact yn_X12_isAutomatic_4  _ _ _ _ _ h
set_option maxRecDepth 100000 in
set_option maxHeartbeats 4000000 in
theorem yb_X12_isNobody_65     {x1 : Int32} {bs0 : Bool} {s : uS} {r : (uS × Bool)}  (h : fb_X12_isNobody_65   x1 bs0 s = some r) : agr [11] [] s r.1 := by
  unfold fb_X12_isNobody_65 at h
  by_cases c1 : bs0 = true
  · replace h := uu_pos c1 h
    have hr := Option.some.inj h
    subst hr
    exact agr.rf
  · replace h := uu_neg c1 h
    obtain ⟨v3, e4, h⟩ := uu_ob h
    by_cases c5 : v3 = true
    · replace h := uu_pos c5 h
      have hr := Option.some.inj h
      subst hr
      exact agr.rf
    · replace h := uu_neg c5 h
      obtain ⟨v7, e8, h⟩ := uu_ob h
      by_cases c9 : v7 = true
      · replace h := uu_pos c9 h
        have hr := Option.some.inj h
        subst hr
        exact agr.rf
      · replace h := uu_neg c9 h
        have hr := Option.some.inj h
        subst hr
        exact agr.rf
set_option maxRecDepth 100000 in
set_option maxHeartbeats 4000000 in
theorem yb_X12_isNobody_43     {x1 : Int32} {s : uS} {r : (uS × Bool)}  (h : fb_X12_isNobody_43   x1 s = some r) : agr [11] [] s r.1 := by
  unfold fb_X12_isNobody_43 at h
  obtain ⟨v2, e3, h⟩ := uu_ob h
  by_cases c4 : v2 = true
  · replace h := uu_pos c4 h
    by_cases c5 : x1 = 9
    · replace h := uu_pos c5 h
      exact yb_X12_isNobody_65  h
    · replace h := uu_neg c5 h
      exact yb_X12_isNobody_65  h
  · replace h := uu_neg c4 h
    exact yb_X12_isNobody_65  h
set_option maxRecDepth 100000 in
set_option maxHeartbeats 4000000 in
theorem yb_X12_isNobody_26     {x1 : Int32} {s : uS} {r : (uS × Bool)}  (h : fb_X12_isNobody_26   x1 s = some r) : agr [11] [] s r.1 := by
  unfold fb_X12_isNobody_26 at h
  obtain ⟨v2, e3, h⟩ := uu_ob h
  by_cases c4 : v2 = true
  · replace h := uu_pos c4 h
    by_cases c5 : x1 = 8
    · replace h := uu_pos c5 h
      exact yb_X12_isNobody_65  h
    · replace h := uu_neg c5 h
      exact yb_X12_isNobody_43  h
  · replace h := uu_neg c4 h
    exact yb_X12_isNobody_43  h
set_option maxRecDepth 100000 in
set_option maxHeartbeats 4000000 in
theorem yc_X12_isNobody    {s : uS} {r : (uS × Bool)}  (h : fn_X12_isNobody   s = some r) : agr [11] [] s r.1 := by
  unfold fn_X12_isNobody at h
  obtain ⟨s1, e2, h⟩ := uu_ob h
  refine ((yc_X12_oneFrom  e2).mo (by decide) (fun _ h => nomatch h)).tr ?_
  obtain ⟨v3, e4, h⟩ := uu_ob h
  obtain ⟨v6, e7, h⟩ := uu_ob h
  by_cases c8 : v6 = true
  · replace h := uu_pos c8 h
    by_cases c9 : v3 = 13
    · replace h := uu_pos c9 h
      exact yb_X12_isNobody_65  h
    · replace h := uu_neg c9 h
      exact yb_X12_isNobody_26  h
  · replace h := uu_neg c8 h
    exact yb_X12_isNobody_26  h
set_option maxRecDepth 100000 in
set_option maxHeartbeats 4000000 in
theorem yb_X12_isMine_95  {K48 : Bool → Int32 → Int32 → uS → Option (uS × Bool)} {K95 : Int32 → Int32 → Int32 → Int32 → uS → Option (uS × Bool)}  (hK48 : ∀ (b1 : Bool) (x2 : Int32) (x3 : Int32)  (s : uS) (r : (uS × Bool)), K48 b1 x2 x3 s = some r → agr [11] [] s r.1) (hK95 : ∀ (x2 : Int32) (x3 : Int32) (x4 : Int32) (x5 : Int32)  (s : uS) (r : (uS × Bool)), K95 x2 x3 x4 x5 s = some r → agr [11] [] s r.1) {x2 : Int32} {x3 : Int32} {x4 : Int32} {x5 : Int32} {s : uS} {r : (uS × Bool)}  (h : fb_X12_isMine_95  K48 K95 x2 x3 x4 x5 s = some r) : agr [11] [] s r.1 := by
  unfold fb_X12_isMine_95 at h
  by_cases c1 : (s.I 1079 23) ≤ x5
  · replace h := uu_pos c1 h
    obtain ⟨v2, e3, h⟩ := uu_ob h
    exact hK48 v2 x2 (x3 + 1) _ _ h
  · replace h := uu_neg c1 h
    obtain ⟨v4, e5, h⟩ := uu_ob h
    obtain ⟨v6, e7, h⟩ := uu_ob h
    obtain ⟨s8, e9, h⟩ := uu_ob h
    refine (agr_iput e9 (Or.inl (by decide))).tr ?_
    exact hK95 x2 x3 x4 (x5 + 1) _ _ h
set_option maxRecDepth 100000 in
set_option maxHeartbeats 4000000 in
theorem yn_X12_isMine_95  {K48 : Bool → Int32 → Int32 → uS → Option (uS × Bool)}  (hK48 : ∀ (b1 : Bool) (x2 : Int32) (x3 : Int32)  (s : uS) (r : (uS × Bool)), K48 b1 x2 x3 s = some r → agr [11] [] s r.1) : ∀ (n : Nat) (x2 : Int32) (x3 : Int32) (x4 : Int32) (x5 : Int32)  (s : uS) (r : (uS × Bool)), fn_X12_isMine_95  K48 n x2 x3 x4 x5 s = some r → agr [11] [] s r.1 := by
  intro n
  induction n with
  | zero => intro x2 x3 x4 x5  s r h
            cases h
  | succ n ih => intro x2 x3 x4 x5  s r h
                 exact yb_X12_isMine_95  hK48 ih  h
set_option maxRecDepth 100000 in
set_option maxHeartbeats 4000000 in
theorem yb_X12_isMine_48  {K48 : Bool → Int32 → Int32 → uS → Option (uS × Bool)}  (hK48 : ∀ (b1 : Bool) (x2 : Int32) (x3 : Int32)  (s : uS) (r : (uS × Bool)), K48 b1 x2 x3 s = some r → agr [11] [] s r.1) {b1 : Bool} {x2 : Int32} {x3 : Int32} {s : uS} {r : (uS × Bool)}  (h : fb_X12_isMine_48  K48 b1 x2 x3 s = some r) : agr [11] [] s r.1 := by
  unfold fb_X12_isMine_48 at h
  obtain ⟨v1, e2, h⟩ := uu_ob h
  by_cases c3 : v1 < 0
  · replace h := uu_pos c3 h
    have hr := Option.some.inj h
    subst hr
    exact agr.rf
  · replace h := uu_neg c3 h
    obtain ⟨v4, e5, h⟩ := uu_ob h
    by_cases c6 : v4 ≤ x3
    · replace h := uu_pos c6 h
      have hr := Option.some.inj h
      subst hr
      exact agr.rf
    · replace h := uu_neg c6 h
      by_cases c7 : b1 = true
      · replace h := uu_pos c7 h
        have hr := Option.some.inj h
        subst hr
        exact agr.rf
      · replace h := uu_neg c7 h
        obtain ⟨v8, e9, h⟩ := uu_ob h
        obtain ⟨v10, e11, h⟩ := uu_ob h
        refine (agr_wI (a := 1079) (f := 23) (v := v10) (Or.inl (by decide))).tr ?_
        exact yn_X12_isMine_95 hK48 _ _ _ _ _ _ _ h
set_option maxRecDepth 100000 in
set_option maxHeartbeats 4000000 in
theorem yn_X12_isMine_48     : ∀ (n : Nat) (b1 : Bool) (x2 : Int32) (x3 : Int32)  (s : uS) (r : (uS × Bool)), fn_X12_isMine_48   n b1 x2 x3 s = some r → agr [11] [] s r.1 := by
  intro n
  induction n with
  | zero => intro b1 x2 x3  s r h
            cases h
  | succ n ih => intro b1 x2 x3  s r h
                 exact yb_X12_isMine_48  ih  h
set_option maxRecDepth 100000 in
set_option maxHeartbeats 4000000 in
theorem yb_X12_isMine_10  {K10 : Int32 → uS → Option (uS × Bool)}  (hK10 : ∀ (x1 : Int32)  (s : uS) (r : (uS × Bool)), K10 x1 s = some r → agr [11] [] s r.1) {x1 : Int32} {s : uS} {r : (uS × Bool)}  (h : fb_X12_isMine_10  K10 x1 s = some r) : agr [11] [] s r.1 := by
  unfold fb_X12_isMine_10 at h
  by_cases c1 : (s.I 1079 91) ≤ x1
  · replace h := uu_pos c1 h
    obtain ⟨v2, e3, h⟩ := uu_ob h
    exact yn_X12_isMine_48  _ _ _ _ _ _ h
  · replace h := uu_neg c1 h
    obtain ⟨v4, e5, h⟩ := uu_ob h
    obtain ⟨s6, e7, h⟩ := uu_ob h
    refine (agr_iput e7 (Or.inl (by decide))).tr ?_
    exact hK10 (x1 + 1) _ _ h
set_option maxRecDepth 100000 in
set_option maxHeartbeats 4000000 in
theorem yn_X12_isMine_10     : ∀ (n : Nat) (x1 : Int32)  (s : uS) (r : (uS × Bool)), fn_X12_isMine_10   n x1 s = some r → agr [11] [] s r.1 := by
  intro n
  induction n with
  | zero => intro x1  s r h
            cases h
  | succ n ih => intro x1  s r h
                 exact yb_X12_isMine_10  ih  h
set_option maxRecDepth 100000 in
set_option maxHeartbeats 4000000 in
theorem yc_X12_isMine    {s : uS} {r : (uS × Bool)}  (h : fn_X12_isMine   s = some r) : agr [11] [] s r.1 := by
  unfold fn_X12_isMine at h
  refine (agr_wI (a := 1079) (f := 23) (v := s.I 1079 91) (Or.inl (by decide))).tr ?_
  exact yn_X12_isMine_10  _ _ _ _ h
set_option maxRecDepth 100000 in
set_option maxHeartbeats 4000000 in
theorem yb_X12_isForMe_73  {K4 : Bool → Int32 → uS → Option (uS × Bool)} {K73 : Bool → Int32 → uS → Option (uS × Bool)}  (hK4 : ∀ (b1 : Bool) (x2 : Int32)  (s : uS) (r : (uS × Bool)), K4 b1 x2 s = some r → agr [11] [] s r.1) (hK73 : ∀ (b1 : Bool) (x2 : Int32)  (s : uS) (r : (uS × Bool)), K73 b1 x2 s = some r → agr [11] [] s r.1) {b1 : Bool} {x2 : Int32} {s : uS} {r : (uS × Bool)}  (h : fb_X12_isForMe_73  K4 K73 b1 x2 s = some r) : agr [11] [] s r.1 := by
  unfold fb_X12_isForMe_73 at h
  obtain ⟨r1, e2, h⟩ := uu_ob h
  refine ((yc_X12_nextPart  e2).mo (by decide) (fun _ h => nomatch h)).tr ?_
  by_cases c3 : r1.2 = true
  · replace h := uu_pos c3 h
    by_cases c4 : b1 = true
    · replace h := uu_pos c4 h
      exact hK73 true x2 _ _ h
    · replace h := uu_neg c4 h
      obtain ⟨v5, e6, h⟩ := uu_ob h
      by_cases c7 : v5 < 0
      · replace h := uu_pos c7 h
        exact hK73 false x2 _ _ h
      · replace h := uu_neg c7 h
        obtain ⟨r8, e9, h⟩ := uu_ob h
        refine ((yc_X12_isMine  e9).mo (by decide) (fun _ h => nomatch h)).tr ?_
        by_cases c10 : r8.2 = true
        · replace h := uu_pos c10 h
          exact hK73 true x2 _ _ h
        · replace h := uu_neg c10 h
          exact hK73 false x2 _ _ h
  · replace h := uu_neg c3 h
    exact hK4 b1 (x2 + 1) _ _ h
set_option maxRecDepth 100000 in
set_option maxHeartbeats 4000000 in
theorem yn_X12_isForMe_73  {K4 : Bool → Int32 → uS → Option (uS × Bool)}  (hK4 : ∀ (b1 : Bool) (x2 : Int32)  (s : uS) (r : (uS × Bool)), K4 b1 x2 s = some r → agr [11] [] s r.1) : ∀ (n : Nat) (b1 : Bool) (x2 : Int32)  (s : uS) (r : (uS × Bool)), fn_X12_isForMe_73  K4 n b1 x2 s = some r → agr [11] [] s r.1 := by
  intro n
  induction n with
  | zero => intro b1 x2  s r h
            cases h
  | succ n ih => intro b1 x2  s r h
                 exact yb_X12_isForMe_73  hK4 ih  h
set_option maxRecDepth 100000 in
set_option maxHeartbeats 4000000 in
theorem yb_X12_isForMe_52  {K4 : Bool → Int32 → uS → Option (uS × Bool)}  (hK4 : ∀ (b1 : Bool) (x2 : Int32)  (s : uS) (r : (uS × Bool)), K4 b1 x2 s = some r → agr [11] [] s r.1) {b1 : Bool} {x2 : Int32} {bs0 : Bool} {s : uS} {r : (uS × Bool)}  (h : fb_X12_isForMe_52  K4 b1 x2 bs0 s = some r) : agr [11] [] s r.1 := by
  unfold fb_X12_isForMe_52 at h
  by_cases c1 : bs0 = true
  · replace h := uu_pos c1 h
    obtain ⟨s2, e3, h⟩ := uu_ob h
    refine ((yc_X12_oneValue  e3).mo (by decide) (fun _ h => nomatch h)).tr ?_
    obtain ⟨s4, e5, h⟩ := uu_ob h
    refine ((yc_X12_keepWhole  e5).mo (by decide) (fun _ h => nomatch h)).tr ?_
    obtain ⟨s6, e7, h⟩ := uu_ob h
    refine ((yc_X12_beginParts  e7).mo (by decide) (fun _ h => nomatch h)).tr ?_
    exact yn_X12_isForMe_73 hK4 _ _ _ _ _ h
  · replace h := uu_neg c1 h
    exact hK4 b1 (x2 + 1) _ _ h
set_option maxRecDepth 100000 in
set_option maxHeartbeats 4000000 in
theorem yb_X12_isForMe_4  {K4 : Bool → Int32 → uS → Option (uS × Bool)}  (hK4 : ∀ (b1 : Bool) (x2 : Int32)  (s : uS) (r : (uS × Bool)), K4 b1 x2 s = some r → agr [11] [] s r.1) {b1 : Bool} {x2 : Int32} {s : uS} {r : (uS × Bool)}  (h : fb_X12_isForMe_4  K4 b1 x2 s = some r) : agr [11] [] s r.1 := by
  unfold fb_X12_isForMe_4 at h
  by_cases c1 : (s.I 1079 14) ≤ x2
  · replace h := uu_pos c1 h
    have hr := Option.some.inj h
    subst hr
    exact agr.rf
  · replace h := uu_neg c1 h
    obtain ⟨s2, e3, h⟩ := uu_ob h
    refine ((yc_X12_oneName  e3).mo (by decide) (fun _ h => nomatch h)).tr ?_
    obtain ⟨r5, e6, h⟩ := uu_ob h
    refine ((yc_X12_oneIs  e6).mo (by decide) (fun _ h => nomatch h)).tr ?_
    by_cases c7 : r5.2 = true
    · replace h := uu_pos c7 h
      exact yb_X12_isForMe_52 hK4 h
    · replace h := uu_neg c7 h
      obtain ⟨r9, e10, h⟩ := uu_ob h
      refine ((yc_X12_oneIs  e10).mo (by decide) (fun _ h => nomatch h)).tr ?_
      by_cases c11 : r9.2 = true
      · replace h := uu_pos c11 h
        exact yb_X12_isForMe_52 hK4 h
      · replace h := uu_neg c11 h
        obtain ⟨r13, e14, h⟩ := uu_ob h
        refine ((yc_X12_oneIs  e14).mo (by decide) (fun _ h => nomatch h)).tr ?_
        by_cases c15 : r13.2 = true
        · replace h := uu_pos c15 h
          exact yb_X12_isForMe_52 hK4 h
        · replace h := uu_neg c15 h
          exact yb_X12_isForMe_52 hK4 h
set_option maxRecDepth 100000 in
set_option maxHeartbeats 4000000 in
theorem yn_X12_isForMe_4     : ∀ (n : Nat) (b1 : Bool) (x2 : Int32)  (s : uS) (r : (uS × Bool)), fn_X12_isForMe_4   n b1 x2 s = some r → agr [11] [] s r.1 := by
  intro n
  induction n with
  | zero => intro b1 x2  s r h
            cases h
  | succ n ih => intro b1 x2  s r h
                 exact yb_X12_isForMe_4  ih  h
set_option maxRecDepth 100000 in
set_option maxHeartbeats 4000000 in
theorem yc_X12_isForMe    {s : uS} {r : (uS × Bool)}  (h : fn_X12_isForMe   s = some r) : agr [11] [] s r.1 := by
  unfold fn_X12_isForMe at h
  exact yn_X12_isForMe_4  _ _ _ _ _ h
set_option maxRecDepth 100000 in
set_option maxHeartbeats 4000000 in
theorem yc_X12_answers    {s : uS} {r : (uS × Bool)}  (h : fn_X12_answers   s = some r) : agr [11] [] s r.1 := by
  unfold fn_X12_answers at h
  by_cases c1 : (s.I 1079 104) ≤ 0
  · replace h := uu_pos c1 h
    have hr := Option.some.inj h
    subst hr
    exact agr.rf
  · replace h := uu_neg c1 h
    by_cases c2 : (s.I 1079 93) ≤ 0
    · replace h := uu_pos c2 h
      have hr := Option.some.inj h
      subst hr
      exact agr.rf
    · replace h := uu_neg c2 h
      obtain ⟨r3, e4, h⟩ := uu_ob h
      refine ((yc_X12_isNobody  e4).mo (by decide) (fun _ h => nomatch h)).tr ?_
      by_cases c5 : r3.2 = true
      · replace h := uu_pos c5 h
        have hr := Option.some.inj h
        subst hr
        exact agr.rf
      · replace h := uu_neg c5 h
        obtain ⟨r7, e8, h⟩ := uu_ob h
        refine ((yc_X12_hasField  e8).mo (by decide) (fun _ h => nomatch h)).tr ?_
        by_cases c9 : r7.2 = true
        · replace h := uu_pos c9 h
          have hr := Option.some.inj h
          subst hr
          exact agr.rf
        · replace h := uu_neg c9 h
          obtain ⟨r11, e12, h⟩ := uu_ob h
          refine ((yc_X12_hasField  e12).mo (by decide) (fun _ h => nomatch h)).tr ?_
          by_cases c13 : r11.2 = true
          · replace h := uu_pos c13 h
            have hr := Option.some.inj h
            subst hr
            exact agr.rf
          · replace h := uu_neg c13 h
            obtain ⟨r15, e16, h⟩ := uu_ob h
            refine ((yc_X12_hasField  e16).mo (by decide) (fun _ h => nomatch h)).tr ?_
            by_cases c17 : r15.2 = true
            · replace h := uu_pos c17 h
              have hr := Option.some.inj h
              subst hr
              exact agr.rf
            · replace h := uu_neg c17 h
              obtain ⟨r18, e19, h⟩ := uu_ob h
              refine ((yc_X12_isAutomatic  e19).mo (by decide) (fun _ h => nomatch h)).tr ?_
              by_cases c20 : r18.2 = true
              · replace h := uu_pos c20 h
                have hr := Option.some.inj h
                subst hr
                exact agr.rf
              · replace h := uu_neg c20 h
                obtain ⟨r21, e22, h⟩ := uu_ob h
                refine ((yc_X12_isForMe  e22).mo (by decide) (fun _ h => nomatch h)).tr ?_
                by_cases c23 : r21.2 = true
                · replace h := uu_pos c23 h
                  obtain ⟨v24, e25, h⟩ := uu_ob h
                  by_cases c26 : v24 = true
                  · replace h := uu_pos c26 h
                    have hr := Option.some.inj h
                    subst hr
                    exact agr.rf
                  · replace h := uu_neg c26 h
                    have hr := Option.some.inj h
                    subst hr
                    exact agr.rf
                · replace h := uu_neg c23 h
                  have hr := Option.some.inj h
                  subst hr
                  exact agr.rf
set_option maxRecDepth 100000 in
set_option maxHeartbeats 4000000 in
theorem yb_X12_moveNote_78  {K78 : Int32 → Int32 → Int32 → uS → Option uS}  (hK78 : ∀ (x1 : Int32) (x2 : Int32) (x3 : Int32)  (s : uS) (r : uS), K78 x1 x2 x3 s = some r → agr [11] [] s r) {x1 : Int32} {x2 : Int32} {x3 : Int32} {s : uS} {r : uS}  (h : fb_X12_moveNote_78  K78 x1 x2 x3 s = some r) : agr [11] [] s r := by
  unfold fb_X12_moveNote_78 at h
  obtain ⟨v1, e2, h⟩ := uu_ob h
  by_cases c3 : v1 ≤ x3
  · replace h := uu_pos c3 h
    have hr := Option.some.inj h
    subst hr
    exact agr.rf
  · replace h := uu_neg c3 h
    obtain ⟨v4, e5, h⟩ := uu_ob h
    obtain ⟨s6, e7, h⟩ := uu_ob h
    refine ((yc_X12_setHandle  e7).mo (by decide) (fun _ h => nomatch h)).tr ?_
    exact hK78 x1 x2 (x3 + 1) _ _ h
set_option maxRecDepth 100000 in
set_option maxHeartbeats 4000000 in
theorem yn_X12_moveNote_78     : ∀ (n : Nat) (x1 : Int32) (x2 : Int32) (x3 : Int32)  (s : uS) (r : uS), fn_X12_moveNote_78   n x1 x2 x3 s = some r → agr [11] [] s r := by
  intro n
  induction n with
  | zero => intro x1 x2 x3  s r h
            cases h
  | succ n ih => intro x1 x2 x3  s r h
                 exact yb_X12_moveNote_78  ih  h
set_option maxRecDepth 100000 in
set_option maxHeartbeats 4000000 in
theorem yb_X12_moveNote_38  {K38 : Int32 → Int32 → Int32 → uS → Option uS}  (hK38 : ∀ (x1 : Int32) (x2 : Int32) (x3 : Int32)  (s : uS) (r : uS), K38 x1 x2 x3 s = some r → agr [11] [] s r) {x1 : Int32} {x2 : Int32} {x3 : Int32} {s : uS} {r : uS}  (h : fb_X12_moveNote_38  K38 x1 x2 x3 s = some r) : agr [11] [] s r := by
  unfold fb_X12_moveNote_38 at h
  obtain ⟨v1, e2, h⟩ := uu_ob h
  by_cases c3 : v1 ≤ x3
  · replace h := uu_pos c3 h
    exact yn_X12_moveNote_78  _ _ _ _ _ _ h
  · replace h := uu_neg c3 h
    obtain ⟨v4, e5, h⟩ := uu_ob h
    obtain ⟨s6, e7, h⟩ := uu_ob h
    refine (agr_iput e7 (Or.inl (by decide))).tr ?_
    exact hK38 x1 x2 (x3 + 1) _ _ h
set_option maxRecDepth 100000 in
set_option maxHeartbeats 4000000 in
theorem yn_X12_moveNote_38     : ∀ (n : Nat) (x1 : Int32) (x2 : Int32) (x3 : Int32)  (s : uS) (r : uS), fn_X12_moveNote_38   n x1 x2 x3 s = some r → agr [11] [] s r := by
  intro n
  induction n with
  | zero => intro x1 x2 x3  s r h
            cases h
  | succ n ih => intro x1 x2 x3  s r h
                 exact yb_X12_moveNote_38  ih  h
set_option maxRecDepth 100000 in
set_option maxHeartbeats 4000000 in
theorem yc_X12_moveNote   {x1 : Int32} {x2 : Int32} {s : uS} {r : uS}  (h : fn_X12_moveNote  x1 x2 s = some r) : agr [11] [] s r := by
  unfold fn_X12_moveNote at h
  obtain ⟨v1, e2, h⟩ := uu_ob h
  obtain ⟨s3, e4, h⟩ := uu_ob h
  refine (agr_iput e4 (Or.inl (by decide))).tr ?_
  obtain ⟨v5, e6, h⟩ := uu_ob h
  obtain ⟨s7, e8, h⟩ := uu_ob h
  refine (agr_iput e8 (Or.inl (by decide))).tr ?_
  obtain ⟨v9, e10, h⟩ := uu_ob h
  obtain ⟨s11, e12, h⟩ := uu_ob h
  refine (agr_iput e12 (Or.inl (by decide))).tr ?_
  exact yn_X12_moveNote_38  _ _ _ _ _ _ h
set_option maxRecDepth 100000 in
set_option maxHeartbeats 4000000 in
theorem yb_X12_addNote_173  {K173 : Int32 → Int32 → Int32 → uS → Option uS}  (hK173 : ∀ (x1 : Int32) (x2 : Int32) (x3 : Int32)  (s : uS) (r : uS), K173 x1 x2 x3 s = some r → agr [11] [] s r) {x1 : Int32} {x2 : Int32} {x3 : Int32} {s : uS} {r : uS}  (h : fb_X12_addNote_173  K173 x1 x2 x3 s = some r) : agr [11] [] s r := by
  unfold fb_X12_addNote_173 at h
  obtain ⟨v1, e2, h⟩ := uu_ob h
  by_cases c3 : v1 ≤ x3
  · replace h := uu_pos c3 h
    have hr := Option.some.inj h
    subst hr
    exact agr.rf
  · replace h := uu_neg c3 h
    obtain ⟨v4, e5, h⟩ := uu_ob h
    obtain ⟨v6, e7, h⟩ := uu_ob h
    obtain ⟨s8, e9, h⟩ := uu_ob h
    refine ((yc_X12_setHandle  e9).mo (by decide) (fun _ h => nomatch h)).tr ?_
    exact hK173 x1 x2 (x3 + 1) _ _ h
set_option maxRecDepth 100000 in
set_option maxHeartbeats 4000000 in
theorem yn_X12_addNote_173     : ∀ (n : Nat) (x1 : Int32) (x2 : Int32) (x3 : Int32)  (s : uS) (r : uS), fn_X12_addNote_173   n x1 x2 x3 s = some r → agr [11] [] s r := by
  intro n
  induction n with
  | zero => intro x1 x2 x3  s r h
            cases h
  | succ n ih => intro x1 x2 x3  s r h
                 exact yb_X12_addNote_173  ih  h
set_option maxRecDepth 100000 in
set_option maxHeartbeats 4000000 in
theorem yb_X12_addNote_123  {K123 : Int32 → Int32 → uS → Option uS}  (hK123 : ∀ (x1 : Int32) (x2 : Int32)  (s : uS) (r : uS), K123 x1 x2 s = some r → agr [11] [] s r) {x1 : Int32} {x2 : Int32} {s : uS} {r : uS}  (h : fb_X12_addNote_123  K123 x1 x2 s = some r) : agr [11] [] s r := by
  unfold fb_X12_addNote_123 at h
  by_cases c1 : (s.I 1079 93) ≤ x2
  · replace h := uu_pos c1 h
    obtain ⟨v2, e3, h⟩ := uu_ob h
    obtain ⟨v4, e5, h⟩ := uu_ob h
    obtain ⟨s6, e7, h⟩ := uu_ob h
    refine (agr_iput e7 (Or.inl (by decide))).tr ?_
    exact yn_X12_addNote_173  _ _ _ _ _ _ h
  · replace h := uu_neg c1 h
    obtain ⟨v8, e9, h⟩ := uu_ob h
    obtain ⟨s10, e11, h⟩ := uu_ob h
    refine (agr_iput e11 (Or.inl (by decide))).tr ?_
    exact hK123 x1 (x2 + 1) _ _ h
set_option maxRecDepth 100000 in
set_option maxHeartbeats 4000000 in
theorem yn_X12_addNote_123     : ∀ (n : Nat) (x1 : Int32) (x2 : Int32)  (s : uS) (r : uS), fn_X12_addNote_123   n x1 x2 s = some r → agr [11] [] s r := by
  intro n
  induction n with
  | zero => intro x1 x2  s r h
            cases h
  | succ n ih => intro x1 x2  s r h
                 exact yb_X12_addNote_123  ih  h
set_option maxRecDepth 100000 in
set_option maxHeartbeats 4000000 in
theorem yb_X12_addNote_63      {s : uS} {r : uS}  (h : fb_X12_addNote_63    s = some r) : agr [11] [] s r := by
  unfold fb_X12_addNote_63 at h
  obtain ⟨v1, e2, h⟩ := uu_ob h
  obtain ⟨v3, e4, h⟩ := uu_ob h
  obtain ⟨s5, e6, h⟩ := uu_ob h
  refine (agr_iput e6 (Or.inl (by decide))).tr ?_
  obtain ⟨s7, e8, h⟩ := uu_ob h
  refine (agr_iput e8 (Or.inl (by decide))).tr ?_
  obtain ⟨s9, e10, h⟩ := uu_ob h
  refine (agr_iput e10 (Or.inl (by decide))).tr ?_
  exact yn_X12_addNote_123  _ _ _ _ _ h
set_option maxRecDepth 100000 in
set_option maxHeartbeats 4000000 in
theorem yb_X12_addNote_16  {K16 : Int32 → uS → Option uS}  (hK16 : ∀ (x1 : Int32)  (s : uS) (r : uS), K16 x1 s = some r → agr [11] [] s r) {x1 : Int32} {s : uS} {r : uS}  (h : fb_X12_addNote_16  K16 x1 s = some r) : agr [11] [] s r := by
  unfold fb_X12_addNote_16 at h
  by_cases c1 : (40 : Int32) ≤ x1
  · replace h := uu_pos c1 h
    obtain ⟨s2, e3, h⟩ := uu_ob h
    refine (agr_iput e3 (Or.inl (by decide))).tr ?_
    exact yb_X12_addNote_63  h
  · replace h := uu_neg c1 h
    obtain ⟨s4, e5, h⟩ := uu_ob h
    refine ((yc_X12_moveNote  e5).mo (by decide) (fun _ h => nomatch h)).tr ?_
    exact hK16 (x1 + 1) _ _ h
set_option maxRecDepth 100000 in
set_option maxHeartbeats 4000000 in
theorem yn_X12_addNote_16     : ∀ (n : Nat) (x1 : Int32)  (s : uS) (r : uS), fn_X12_addNote_16   n x1 s = some r → agr [11] [] s r := by
  intro n
  induction n with
  | zero => intro x1  s r h
            cases h
  | succ n ih => intro x1  s r h
                 exact yb_X12_addNote_16  ih  h
set_option maxRecDepth 100000 in
set_option maxHeartbeats 4000000 in
theorem yc_X12_addNote    {s : uS} {r : uS}  (h : fn_X12_addNote   s = some r) : agr [11] [] s r := by
  unfold fn_X12_addNote at h
  obtain ⟨v1, e2, h⟩ := uu_ob h
  by_cases c3 : v1 = 40
  · replace h := uu_pos c3 h
    exact yn_X12_addNote_16  _ _ _ _ h
  · replace h := uu_neg c3 h
    exact yb_X12_addNote_63  h
set_option maxRecDepth 100000 in
set_option maxHeartbeats 4000000 in
theorem yc_X12_write   {x1 : Int32} {s : uS} {r : uS}  (h : fn_X12_write  x1 s = some r) : agr [11] [] s r := by
  unfold fn_X12_write at h
  obtain ⟨s1, e2, h⟩ := uu_ob h
  refine (agr_iput e2 (Or.inl (by decide))).tr ?_
  refine (agr_wI (a := 1079) (f := 112) (v := (s1.I 1079 112) + 1) (Or.inl (by decide))).tr ?_
  have hr := Option.some.inj h
  subst hr
  exact agr.rf
set_option maxRecDepth 100000 in
set_option maxHeartbeats 4000000 in
theorem yb_X12_writeWord_2  {K2 : List Nat → Int32 → uS → Option uS}  (hK2 : ∀ (w1 : List Nat) (x2 : Int32)  (s : uS) (r : uS), K2 w1 x2 s = some r → agr [11] [] s r) {w1 : List Nat} {x2 : Int32} {s : uS} {r : uS}  (h : fb_X12_writeWord_2  K2 w1 x2 s = some r) : agr [11] [] s r := by
  unfold fb_X12_writeWord_2 at h
  by_cases c1 : (nI w1.length) ≤ x2
  · replace h := uu_pos c1 h
    have hr := Option.some.inj h
    subst hr
    exact agr.rf
  · replace h := uu_neg c1 h
    obtain ⟨v2, e3, h⟩ := uu_ob h
    obtain ⟨s4, e5, h⟩ := uu_ob h
    refine ((yc_X12_write  e5).mo (by decide) (fun _ h => nomatch h)).tr ?_
    exact hK2 w1 (x2 + 1) _ _ h
set_option maxRecDepth 100000 in
set_option maxHeartbeats 4000000 in
theorem yn_X12_writeWord_2     : ∀ (n : Nat) (w1 : List Nat) (x2 : Int32)  (s : uS) (r : uS), fn_X12_writeWord_2   n w1 x2 s = some r → agr [11] [] s r := by
  intro n
  induction n with
  | zero => intro w1 x2  s r h
            cases h
  | succ n ih => intro w1 x2  s r h
                 exact yb_X12_writeWord_2  ih  h
set_option maxRecDepth 100000 in
set_option maxHeartbeats 4000000 in
theorem yc_X12_writeWord   {w1 : List Nat} {s : uS} {r : uS}  (h : fn_X12_writeWord  w1 s = some r) : agr [11] [] s r := by
  unfold fn_X12_writeWord at h
  exact yn_X12_writeWord_2  _ _ _ _ _ h
set_option maxRecDepth 100000 in
set_option maxHeartbeats 4000000 in
theorem yb_X12_writeString_2  {K2 : Int32 → Int32 → uS → Option uS}  (hK2 : ∀ (x1 : Int32) (x2 : Int32)  (s : uS) (r : uS), K2 x1 x2 s = some r → agr [11] [] s r) {x1 : Int32} {x2 : Int32} {s : uS} {r : uS}  (h : fb_X12_writeString_2  K2 x1 x2 s = some r) : agr [11] [] s r := by
  unfold fb_X12_writeString_2 at h
  obtain ⟨v1, e2, h⟩ := uu_ob h
  by_cases c3 : v1 ≤ x2
  · replace h := uu_pos c3 h
    have hr := Option.some.inj h
    subst hr
    exact agr.rf
  · replace h := uu_neg c3 h
    obtain ⟨v4, e5, h⟩ := uu_ob h
    obtain ⟨v6, e7, h⟩ := uu_ob h
    obtain ⟨s8, e9, h⟩ := uu_ob h
    refine ((yc_X12_write  e9).mo (by decide) (fun _ h => nomatch h)).tr ?_
    exact hK2 x1 (x2 + 1) _ _ h
set_option maxRecDepth 100000 in
set_option maxHeartbeats 4000000 in
theorem yn_X12_writeString_2     : ∀ (n : Nat) (x1 : Int32) (x2 : Int32)  (s : uS) (r : uS), fn_X12_writeString_2   n x1 x2 s = some r → agr [11] [] s r := by
  intro n
  induction n with
  | zero => intro x1 x2  s r h
            cases h
  | succ n ih => intro x1 x2  s r h
                 exact yb_X12_writeString_2  ih  h
set_option maxRecDepth 100000 in
set_option maxHeartbeats 4000000 in
theorem yc_X12_writeString   {x1 : Int32} {s : uS} {r : uS}  (h : fn_X12_writeString  x1 s = some r) : agr [11] [] s r := by
  unfold fn_X12_writeString at h
  exact yn_X12_writeString_2  _ _ _ _ _ h
set_option maxRecDepth 100000 in
set_option maxHeartbeats 4000000 in
theorem yc_X12_writeEnd    {s : uS} {r : uS}  (h : fn_X12_writeEnd   s = some r) : agr [11] [] s r := by
  unfold fn_X12_writeEnd at h
  obtain ⟨s1, e2, h⟩ := uu_ob h
  refine ((yc_X12_write  e2).mo (by decide) (fun _ h => nomatch h)).tr ?_
  obtain ⟨s3, e4, h⟩ := uu_ob h
  refine ((yc_X12_write  e4).mo (by decide) (fun _ h => nomatch h)).tr ?_
  have hr := Option.some.inj h
  subst hr
  exact agr.rf
set_option maxRecDepth 100000 in
set_option maxHeartbeats 4000000 in
theorem yb_X12_writeSubject_30  {K30 : Int32 → Int32 → uS → Option uS}  (hK30 : ∀ (x1 : Int32) (x2 : Int32)  (s : uS) (r : uS), K30 x1 x2 s = some r → agr [11] [] s r) {x1 : Int32} {x2 : Int32} {s : uS} {r : uS}  (h : fb_X12_writeSubject_30  K30 x1 x2 s = some r) : agr [11] [] s r := by
  unfold fb_X12_writeSubject_30 at h
  obtain ⟨v1, e2, h⟩ := uu_ob h
  by_cases c3 : v1 ≤ x2
  · replace h := uu_pos c3 h
    have hr := Option.some.inj h
    subst hr
    exact agr.rf
  · replace h := uu_neg c3 h
    obtain ⟨v4, e5, h⟩ := uu_ob h
    obtain ⟨v6, e7, h⟩ := uu_ob h
    obtain ⟨s8, e9, h⟩ := uu_ob h
    refine ((yc_X12_write  e9).mo (by decide) (fun _ h => nomatch h)).tr ?_
    exact hK30 x1 (x2 + 1) _ _ h
set_option maxRecDepth 100000 in
set_option maxHeartbeats 4000000 in
theorem yn_X12_writeSubject_30     : ∀ (n : Nat) (x1 : Int32) (x2 : Int32)  (s : uS) (r : uS), fn_X12_writeSubject_30   n x1 x2 s = some r → agr [11] [] s r := by
  intro n
  induction n with
  | zero => intro x1 x2  s r h
            cases h
  | succ n ih => intro x1 x2  s r h
                 exact yb_X12_writeSubject_30  ih  h
set_option maxRecDepth 100000 in
set_option maxHeartbeats 4000000 in
theorem yb_X12_writeSubject_2  {K2 : Int32 → uS → Option uS}  (hK2 : ∀ (x1 : Int32)  (s : uS) (r : uS), K2 x1 s = some r → agr [11] [] s r) {x1 : Int32} {s : uS} {r : uS}  (h : fb_X12_writeSubject_2  K2 x1 s = some r) : agr [11] [] s r := by
  unfold fb_X12_writeSubject_2 at h
  by_cases c1 : (s.I 1079 14) ≤ x1
  · replace h := uu_pos c1 h
    have hr := Option.some.inj h
    subst hr
    exact agr.rf
  · replace h := uu_neg c1 h
    obtain ⟨s2, e3, h⟩ := uu_ob h
    refine ((yc_X12_oneName  e3).mo (by decide) (fun _ h => nomatch h)).tr ?_
    obtain ⟨r5, e6, h⟩ := uu_ob h
    refine ((yc_X12_oneIs  e6).mo (by decide) (fun _ h => nomatch h)).tr ?_
    by_cases c7 : r5.2 = true
    · replace h := uu_pos c7 h
      exact yn_X12_writeSubject_30  _ _ _ _ _ h
    · replace h := uu_neg c7 h
      exact hK2 (x1 + 1) _ _ h
set_option maxRecDepth 100000 in
set_option maxHeartbeats 4000000 in
theorem yn_X12_writeSubject_2     : ∀ (n : Nat) (x1 : Int32)  (s : uS) (r : uS), fn_X12_writeSubject_2   n x1 s = some r → agr [11] [] s r := by
  intro n
  induction n with
  | zero => intro x1  s r h
            cases h
  | succ n ih => intro x1  s r h
                 exact yb_X12_writeSubject_2  ih  h
set_option maxRecDepth 100000 in
set_option maxHeartbeats 4000000 in
theorem yc_X12_writeSubject    {s : uS} {r : uS}  (h : fn_X12_writeSubject   s = some r) : agr [11] [] s r := by
  unfold fn_X12_writeSubject at h
  exact yn_X12_writeSubject_2  _ _ _ _ h
set_option maxRecDepth 100000 in
set_option maxHeartbeats 4000000 in
theorem yb_X12_writeLetter_136     {xs0 : Int32} {s : uS} {r : uS}  (h : fb_X12_writeLetter_136   xs0 s = some r) : agr [11] [] s r := by
  unfold fb_X12_writeLetter_136 at h
  obtain ⟨s1, e2, h⟩ := uu_ob h
  refine ((yc_X12_writeString  e2).mo (by decide) (fun _ h => nomatch h)).tr ?_
  obtain ⟨s3, e4, h⟩ := uu_ob h
  refine ((yc_X12_writeEnd  e4).mo (by decide) (fun _ h => nomatch h)).tr ?_
  have hr := Option.some.inj h
  subst hr
  exact agr.rf
set_option maxRecDepth 100000 in
set_option maxHeartbeats 4000000 in
theorem yb_X12_writeLetter_102     {b1 : Bool} {s : uS} {r : uS}  (h : fb_X12_writeLetter_102   b1 s = some r) : agr [11] [] s r := by
  unfold fb_X12_writeLetter_102 at h
  obtain ⟨s1, e2, h⟩ := uu_ob h
  refine ((yc_X12_writeEnd  e2).mo (by decide) (fun _ h => nomatch h)).tr ?_
  obtain ⟨s3, e4, h⟩ := uu_ob h
  refine ((yc_X12_writeEnd  e4).mo (by decide) (fun _ h => nomatch h)).tr ?_
  by_cases c5 : b1 = true
  · replace h := uu_pos c5 h
    obtain ⟨v6, e7, h⟩ := uu_ob h
    exact yb_X12_writeLetter_136  h
  · replace h := uu_neg c5 h
    obtain ⟨v8, e9, h⟩ := uu_ob h
    exact yb_X12_writeLetter_136  h
set_option maxRecDepth 100000 in
set_option maxHeartbeats 4000000 in
theorem yb_X12_writeLetter_14  {K14 : Bool → Int32 → uS → Option uS}  (hK14 : ∀ (b1 : Bool) (x2 : Int32)  (s : uS) (r : uS), K14 b1 x2 s = some r → agr [11] [] s r) {b1 : Bool} {x2 : Int32} {s : uS} {r : uS}  (h : fb_X12_writeLetter_14  K14 b1 x2 s = some r) : agr [11] [] s r := by
  unfold fb_X12_writeLetter_14 at h
  by_cases c1 : (s.I 1079 93) ≤ x2
  · replace h := uu_pos c1 h
    obtain ⟨s2, e3, h⟩ := uu_ob h
    refine ((yc_X12_writeEnd  e3).mo (by decide) (fun _ h => nomatch h)).tr ?_
    obtain ⟨s5, e6, h⟩ := uu_ob h
    refine ((yc_X12_writeWord  e6).mo (by decide) (fun _ h => nomatch h)).tr ?_
    by_cases c7 : b1 = true
    · replace h := uu_pos c7 h
      obtain ⟨s9, e10, h⟩ := uu_ob h
      refine ((yc_X12_writeWord  e10).mo (by decide) (fun _ h => nomatch h)).tr ?_
      exact yb_X12_writeLetter_102  h
    · replace h := uu_neg c7 h
      obtain ⟨v11, e12, h⟩ := uu_ob h
      by_cases c13 : v11 < 0
      · replace h := uu_pos c13 h
        obtain ⟨s15, e16, h⟩ := uu_ob h
        refine ((yc_X12_writeWord  e16).mo (by decide) (fun _ h => nomatch h)).tr ?_
        obtain ⟨s17, e18, h⟩ := uu_ob h
        refine ((yc_X12_writeSubject  e18).mo (by decide) (fun _ h => nomatch h)).tr ?_
        exact yb_X12_writeLetter_102  h
      · replace h := uu_neg c13 h
        obtain ⟨v19, e20, h⟩ := uu_ob h
        obtain ⟨s21, e22, h⟩ := uu_ob h
        refine ((yc_X12_writeString  e22).mo (by decide) (fun _ h => nomatch h)).tr ?_
        exact yb_X12_writeLetter_102  h
  · replace h := uu_neg c1 h
    obtain ⟨v23, e24, h⟩ := uu_ob h
    obtain ⟨s25, e26, h⟩ := uu_ob h
    refine ((yc_X12_write  e26).mo (by decide) (fun _ h => nomatch h)).tr ?_
    exact hK14 b1 (x2 + 1) _ _ h
set_option maxRecDepth 100000 in
set_option maxHeartbeats 4000000 in
theorem yn_X12_writeLetter_14     : ∀ (n : Nat) (b1 : Bool) (x2 : Int32)  (s : uS) (r : uS), fn_X12_writeLetter_14   n b1 x2 s = some r → agr [11] [] s r := by
  intro n
  induction n with
  | zero => intro b1 x2  s r h
            cases h
  | succ n ih => intro b1 x2  s r h
                 exact yb_X12_writeLetter_14  ih  h
set_option maxRecDepth 100000 in
set_option maxHeartbeats 4000000 in
theorem yc_X12_writeLetter   {b1 : Bool} {s : uS} {r : uS}  (h : fn_X12_writeLetter  b1 s = some r) : agr [11] [] s r := by
  unfold fn_X12_writeLetter at h
  refine (agr_wI (a := 1079) (f := 112) (v := 0) (Or.inl (by decide))).tr ?_
  obtain ⟨s2, e3, h⟩ := uu_ob h
  refine ((yc_X12_writeWord  e3).mo (by decide) (fun _ h => nomatch h)).tr ?_
  exact yn_X12_writeLetter_14  _ _ _ _ _ h
set_option maxRecDepth 100000 in
set_option maxHeartbeats 4000000 in
theorem yc_X12_begin    {s : uS} {r : uS}  (h : fn_X12_begin   s = some r) : agr [11] [] s r := by
  unfold fn_X12_begin at h
  refine (agr_wI (a := 1079) (f := 94) (v := 0) (Or.inl (by decide))).tr ?_
  refine (agr_wI (a := 1079) (f := 95) (v := 1) (Or.inl (by decide))).tr ?_
  refine (agr_wI (a := 1079) (f := 96) (v := 0) (Or.inl (by decide))).tr ?_
  refine (agr_wI (a := 1079) (f := 106) (v := 0) (Or.inl (by decide))).tr ?_
  refine (agr_wI (a := 1079) (f := 97) (v := 0) (Or.inl (by decide))).tr ?_
  refine (agr_wI (a := 1079) (f := 100) (v := 0) (Or.inl (by decide))).tr ?_
  refine (agr_wI (a := 1079) (f := 102) (v := 0) (Or.inl (by decide))).tr ?_
  refine (agr_wI (a := 1079) (f := 104) (v := 0) (Or.inl (by decide))).tr ?_
  have hr := Option.some.inj h
  subst hr
  exact agr.rf
set_option maxRecDepth 100000 in
set_option maxHeartbeats 4000000 in
theorem yb_X12_loadScript_12  {K12 : Int32 → Int32 → uS → Option uS}  (hK12 : ∀ (x1 : Int32) (x2 : Int32)  (s : uS) (r : uS), K12 x1 x2 s = some r → agr [11] [] s r) {x1 : Int32} {x2 : Int32} {s : uS} {r : uS}  (h : fb_X12_loadScript_12  K12 x1 x2 s = some r) : agr [11] [] s r := by
  unfold fb_X12_loadScript_12 at h
  by_cases c1 : (s.I 1079 29) ≤ x2
  · replace h := uu_pos c1 h
    have hr := Option.some.inj h
    subst hr
    exact agr.rf
  · replace h := uu_neg c1 h
    obtain ⟨v2, e3, h⟩ := uu_ob h
    obtain ⟨s4, e5, h⟩ := uu_ob h
    refine (agr_iput e5 (Or.inl (by decide))).tr ?_
    exact hK12 x1 (x2 + 1) _ _ h
set_option maxRecDepth 100000 in
set_option maxHeartbeats 4000000 in
theorem yn_X12_loadScript_12     : ∀ (n : Nat) (x1 : Int32) (x2 : Int32)  (s : uS) (r : uS), fn_X12_loadScript_12   n x1 x2 s = some r → agr [11] [] s r := by
  intro n
  induction n with
  | zero => intro x1 x2  s r h
            cases h
  | succ n ih => intro x1 x2  s r h
                 exact yb_X12_loadScript_12  ih  h
set_option maxRecDepth 100000 in
set_option maxHeartbeats 4000000 in
theorem yc_X12_loadScript   {x1 : Int32} {s : uS} {r : uS}  (h : fn_X12_loadScript  x1 s = some r) : agr [11] [] s r := by
  unfold fn_X12_loadScript at h
  obtain ⟨v1, e2, h⟩ := uu_ob h
  refine (agr_wI (a := 1079) (f := 29) (v := v1) (Or.inl (by decide))).tr ?_
  exact yn_X12_loadScript_12  _ _ _ _ _ h
set_option maxRecDepth 100000 in
set_option maxHeartbeats 4000000 in
theorem yb_X12_fails_34     {bs0 : Bool} {s : uS} {r : (uS × Bool)}  (h : fb_X12_fails_34   bs0 s = some r) : agr [11] [] s r.1 := by
  unfold fb_X12_fails_34 at h
  by_cases c1 : (4 : Int32) < (s.I 1079 100)
  · replace h := uu_pos c1 h
    have hr := Option.some.inj h
    subst hr
    exact agr.rf
  · replace h := uu_neg c1 h
    by_cases c2 : bs0 = true
    · replace h := uu_pos c2 h
      have hr := Option.some.inj h
      subst hr
      exact agr.rf
    · replace h := uu_neg c2 h
      by_cases c3 : (1 : Int32) < (s.I 1079 104)
      · replace h := uu_pos c3 h
        have hr := Option.some.inj h
        subst hr
        exact agr.rf
      · replace h := uu_neg c3 h
        obtain ⟨v4, e5, h⟩ := uu_ob h
        obtain ⟨r6, e7, h⟩ := uu_ob h
        refine ((yc_X12_newBoxes  e7).mo (by decide) (fun _ h => nomatch h)).tr ?_
        by_cases c8 : (v4 + r6.2) ≤ 6
        · replace h := uu_pos c8 h
          have hr := Option.some.inj h
          subst hr
          exact agr.rf
        · replace h := uu_neg c8 h
          have hr := Option.some.inj h
          subst hr
          exact agr.rf
set_option maxRecDepth 100000 in
set_option maxHeartbeats 4000000 in
theorem yb_X12_fails_21      {s : uS} {r : (uS × Bool)}  (h : fb_X12_fails_21    s = some r) : agr [11] [] s r.1 := by
  unfold fb_X12_fails_21 at h
  by_cases c1 : (s.I 1079 102) ≤ 1
  · replace h := uu_pos c1 h
    exact yb_X12_fails_34  h
  · replace h := uu_neg c1 h
    exact yb_X12_fails_34  h
set_option maxRecDepth 100000 in
set_option maxHeartbeats 4000000 in
theorem yc_X12_fails    {s : uS} {r : (uS × Bool)}  (h : fn_X12_fails   s = some r) : agr [11] [] s r.1 := by
  unfold fn_X12_fails at h
  by_cases c1 : (s.I 1079 102) ≤ 0
  · replace h := uu_pos c1 h
    exact yb_X12_fails_21  h
  · replace h := uu_neg c1 h
    by_cases c2 : (s.I 1079 106) = 0
    · replace h := uu_pos c2 h
      by_cases c3 : 0 < (s.I 1079 104)
      · replace h := uu_pos c3 h
        exact yb_X12_fails_34  h
      · replace h := uu_neg c3 h
        exact yb_X12_fails_21  h
    · replace h := uu_neg c2 h
      exact yb_X12_fails_34  h
set_option maxRecDepth 100000 in
set_option maxHeartbeats 4000000 in
theorem yb_X12_copyMail_2  {K2 : Int32 → Int32 → uS → Option uS}  (hK2 : ∀ (x1 : Int32) (x2 : Int32)  (s : uS) (r : uS), K2 x1 x2 s = some r → agr [11] [] s r) {x1 : Int32} {x2 : Int32} {s : uS} {r : uS}  (h : fb_X12_copyMail_2  K2 x1 x2 s = some r) : agr [11] [] s r := by
  unfold fb_X12_copyMail_2 at h
  by_cases c1 : (s.I 1079 13) ≤ x2
  · replace h := uu_pos c1 h
    obtain ⟨s2, e3, h⟩ := uu_ob h
    refine (agr_iput e3 (Or.inl (by decide))).tr ?_
    have hr := Option.some.inj h
    subst hr
    exact agr.rf
  · replace h := uu_neg c1 h
    obtain ⟨v4, e5, h⟩ := uu_ob h
    obtain ⟨s6, e7, h⟩ := uu_ob h
    refine ((yc_X12_store  e7).mo (by decide) (fun _ h => nomatch h)).tr ?_
    exact hK2 x1 (x2 + 1) _ _ h
set_option maxRecDepth 100000 in
set_option maxHeartbeats 4000000 in
theorem yn_X12_copyMail_2     : ∀ (n : Nat) (x1 : Int32) (x2 : Int32)  (s : uS) (r : uS), fn_X12_copyMail_2   n x1 x2 s = some r → agr [11] [] s r := by
  intro n
  induction n with
  | zero => intro x1 x2  s r h
            cases h
  | succ n ih => intro x1 x2  s r h
                 exact yb_X12_copyMail_2  ih  h
set_option maxRecDepth 100000 in
set_option maxHeartbeats 4000000 in
theorem yc_X12_copyMail   {x1 : Int32} {s : uS} {r : uS}  (h : fn_X12_copyMail  x1 s = some r) : agr [11] [] s r := by
  unfold fn_X12_copyMail at h
  exact yn_X12_copyMail_2  _ _ _ _ _ h
set_option maxRecDepth 100000 in
set_option maxHeartbeats 4000000 in
theorem yb_X12_sendTo_25  {K25 : Int32 → Int32 → Int32 → uS → Option uS}  (hK25 : ∀ (x1 : Int32) (x2 : Int32) (x3 : Int32)  (s : uS) (r : uS), K25 x1 x2 x3 s = some r → agr [11] [] s r) {x1 : Int32} {x2 : Int32} {x3 : Int32} {s : uS} {r : uS}  (h : fb_X12_sendTo_25  K25 x1 x2 x3 s = some r) : agr [11] [] s r := by
  unfold fb_X12_sendTo_25 at h
  obtain ⟨v1, e2, h⟩ := uu_ob h
  by_cases c3 : v1 ≤ x3
  · replace h := uu_pos c3 h
    refine (agr_wI (a := 1079) (f := 71) (v := (s.I 1079 71) + 1) (Or.inl (by decide))).tr ?_
    obtain ⟨s4, e5, h⟩ := uu_ob h
    refine ((yc_X12_copyMail  e5).mo (by decide) (fun _ h => nomatch h)).tr ?_
    have hr := Option.some.inj h
    subst hr
    exact agr.rf
  · replace h := uu_neg c3 h
    obtain ⟨v6, e7, h⟩ := uu_ob h
    obtain ⟨v8, e9, h⟩ := uu_ob h
    obtain ⟨s10, e11, h⟩ := uu_ob h
    refine (agr_iput e11 (Or.inl (by decide))).tr ?_
    exact hK25 x1 x2 (x3 + 1) _ _ h
set_option maxRecDepth 100000 in
set_option maxHeartbeats 4000000 in
theorem yn_X12_sendTo_25     : ∀ (n : Nat) (x1 : Int32) (x2 : Int32) (x3 : Int32)  (s : uS) (r : uS), fn_X12_sendTo_25   n x1 x2 x3 s = some r → agr [11] [] s r := by
  intro n
  induction n with
  | zero => intro x1 x2 x3  s r h
            cases h
  | succ n ih => intro x1 x2 x3  s r h
                 exact yb_X12_sendTo_25  ih  h
set_option maxRecDepth 100000 in
set_option maxHeartbeats 4000000 in
theorem yc_X12_sendTo   {x1 : Int32} {s : uS} {r : uS}  (h : fn_X12_sendTo  x1 s = some r) : agr [11] [] s r := by
  unfold fn_X12_sendTo at h
  obtain ⟨r1, e2, h⟩ := uu_ob h
  refine ((yc_X12_beginMail  e2).mo (by decide) (fun _ h => nomatch h)).tr ?_
  obtain ⟨v3, e4, h⟩ := uu_ob h
  obtain ⟨s5, e6, h⟩ := uu_ob h
  refine (agr_iput e6 (Or.inl (by decide))).tr ?_
  exact yn_X12_sendTo_25  _ _ _ _ _ _ h
set_option maxRecDepth 100000 in
set_option maxHeartbeats 4000000 in
theorem yb_X12_sendLetter_69  {K69 : Int32 → Int32 → uS → Option uS}  (hK69 : ∀ (x1 : Int32) (x2 : Int32)  (s : uS) (r : uS), K69 x1 x2 s = some r → agr [11] [] s r) {x1 : Int32} {x2 : Int32} {s : uS} {r : uS}  (h : fb_X12_sendLetter_69  K69 x1 x2 s = some r) : agr [11] [] s r := by
  unfold fb_X12_sendLetter_69 at h
  by_cases c1 : (s.I 1079 112) ≤ x2
  · replace h := uu_pos c1 h
    obtain ⟨s2, e3, h⟩ := uu_ob h
    refine (agr_iput e3 (Or.inl (by decide))).tr ?_
    have hr := Option.some.inj h
    subst hr
    exact agr.rf
  · replace h := uu_neg c1 h
    obtain ⟨v4, e5, h⟩ := uu_ob h
    obtain ⟨s6, e7, h⟩ := uu_ob h
    refine ((yc_X12_store  e7).mo (by decide) (fun _ h => nomatch h)).tr ?_
    exact hK69 x1 (x2 + 1) _ _ h
set_option maxRecDepth 100000 in
set_option maxHeartbeats 4000000 in
theorem yn_X12_sendLetter_69     : ∀ (n : Nat) (x1 : Int32) (x2 : Int32)  (s : uS) (r : uS), fn_X12_sendLetter_69   n x1 x2 s = some r → agr [11] [] s r := by
  intro n
  induction n with
  | zero => intro x1 x2  s r h
            cases h
  | succ n ih => intro x1 x2  s r h
                 exact yb_X12_sendLetter_69  ih  h
set_option maxRecDepth 100000 in
set_option maxHeartbeats 4000000 in
theorem yb_X12_sendLetter_23  {K23 : Int32 → Int32 → uS → Option uS}  (hK23 : ∀ (x1 : Int32) (x2 : Int32)  (s : uS) (r : uS), K23 x1 x2 s = some r → agr [11] [] s r) {x1 : Int32} {x2 : Int32} {s : uS} {r : uS}  (h : fb_X12_sendLetter_23  K23 x1 x2 s = some r) : agr [11] [] s r := by
  unfold fb_X12_sendLetter_23 at h
  by_cases c1 : (s.I 1079 93) ≤ x2
  · replace h := uu_pos c1 h
    refine (agr_wI (a := 1079) (f := 71) (v := (s.I 1079 71) + 1) (Or.inl (by decide))).tr ?_
    exact yn_X12_sendLetter_69  _ _ _ _ _ h
  · replace h := uu_neg c1 h
    obtain ⟨v2, e3, h⟩ := uu_ob h
    obtain ⟨s4, e5, h⟩ := uu_ob h
    refine (agr_iput e5 (Or.inl (by decide))).tr ?_
    exact hK23 x1 (x2 + 1) _ _ h
set_option maxRecDepth 100000 in
set_option maxHeartbeats 4000000 in
theorem yn_X12_sendLetter_23     : ∀ (n : Nat) (x1 : Int32) (x2 : Int32)  (s : uS) (r : uS), fn_X12_sendLetter_23   n x1 x2 s = some r → agr [11] [] s r := by
  intro n
  induction n with
  | zero => intro x1 x2  s r h
            cases h
  | succ n ih => intro x1 x2  s r h
                 exact yb_X12_sendLetter_23  ih  h
set_option maxRecDepth 100000 in
set_option maxHeartbeats 4000000 in
theorem yc_X12_sendLetter    {s : uS} {r : uS}  (h : fn_X12_sendLetter   s = some r) : agr [11] [] s r := by
  unfold fn_X12_sendLetter at h
  obtain ⟨r1, e2, h⟩ := uu_ob h
  refine ((yc_X12_beginMail  e2).mo (by decide) (fun _ h => nomatch h)).tr ?_
  obtain ⟨s3, e4, h⟩ := uu_ob h
  refine (agr_iput e4 (Or.inl (by decide))).tr ?_
  exact yn_X12_sendLetter_23  _ _ _ _ _ h
set_option maxRecDepth 100000 in
set_option maxHeartbeats 4000000 in
theorem yc_X12_reset    {s : uS} {r : uS}  (h : fn_X12_reset   s = some r) : agr [11] [] s r := by
  unfold fn_X12_reset at h
  refine (agr_wI (a := 1079) (f := 115) (v := 0) (Or.inl (by decide))).tr ?_
  refine (agr_wI (a := 1079) (f := 117) (v := 0) (Or.inl (by decide))).tr ?_
  have hr := Option.some.inj h
  subst hr
  exact agr.rf
set_option maxRecDepth 100000 in
set_option maxHeartbeats 4000000 in
theorem yc_X12_connect    {s : uS} {r : (uS × Bool)}  (h : fn_X12_connect   s = some r) : agr [11] [] s r.1 := by
  unfold fn_X12_connect at h
  by_cases c1 : (s.I 1079 0) = 0
  · replace h := uu_pos c1 h
    have hr := Option.some.inj h
    subst hr
    exact agr.rf
  · replace h := uu_neg c1 h
    refine (agr_wI (a := 1079) (f := 113) (v := 1) (Or.inl (by decide))).tr ?_
    refine (agr_wI (a := 1079) (f := 114) (v := 0) (Or.inl (by decide))).tr ?_
    obtain ⟨s2, e3, h⟩ := uu_ob h
    refine ((yc_X12_reset  e3).mo (by decide) (fun _ h => nomatch h)).tr ?_
    refine (agr_wI (a := 1079) (f := 116) (v := 0) (Or.inl (by decide))).tr ?_
    refine (agr_wI (a := 1079) (f := 122) (v := 0) (Or.inl (by decide))).tr ?_
    refine (agr_wI (a := 1079) (f := 123) (v := 0) (Or.inl (by decide))).tr ?_
    obtain ⟨s5, e6, h⟩ := uu_ob h
    refine ((yc_X12_line  e6).mo (by decide) (fun _ h => nomatch h)).tr ?_
    have hr := Option.some.inj h
    subst hr
    exact agr.rf
set_option maxRecDepth 100000 in
set_option maxHeartbeats 4000000 in
theorem yb_X12_cmdByte_20      {s : uS} {r : uS}  (h : fb_X12_cmdByte_20    s = some r) : agr [11] [] s r := by
  unfold fb_X12_cmdByte_20 at h
  by_cases c1 : (100000 : Int32) ≤ (s.I 1079 122)
  · replace h := uu_pos c1 h
    refine (agr_wI (a := 1079) (f := 122) (v := s.I 1079 122) (Or.inl (by decide))).tr ?_
    have hr := Option.some.inj h
    subst hr
    exact agr.rf
  · replace h := uu_neg c1 h
    refine (agr_wI (a := 1079) (f := 122) (v := (s.I 1079 122) + 1) (Or.inl (by decide))).tr ?_
    have hr := Option.some.inj h
    subst hr
    exact agr.rf
set_option maxRecDepth 100000 in
set_option maxHeartbeats 4000000 in
theorem yc_X12_cmdByte   {x1 : Int32} {s : uS} {r : uS}  (h : fn_X12_cmdByte  x1 s = some r) : agr [11] [] s r := by
  unfold fn_X12_cmdByte at h
  by_cases c1 : (505 : Int32) ≤ (s.I 1079 122)
  · replace h := uu_pos c1 h
    exact yb_X12_cmdByte_20  h
  · replace h := uu_neg c1 h
    obtain ⟨s2, e3, h⟩ := uu_ob h
    refine (agr_iput e3 (Or.inl (by decide))).tr ?_
    exact yb_X12_cmdByte_20  h
set_option maxRecDepth 100000 in
set_option maxHeartbeats 4000000 in
theorem yb_X12_stands_70     {w1 : List Nat} {b2 : Bool} {s : uS} {r : (uS × Bool)}  (h : fb_X12_stands_70   w1 b2 s = some r) : agr [11] [] s r.1 := by
  unfold fb_X12_stands_70 at h
  by_cases c1 : b2 = true
  · replace h := uu_pos c1 h
    refine (agr_wI (a := 1079) (f := 127) (v := (s.I 1079 127) + (nI w1.length)) (Or.inl (by decide))).tr ?_
    have hr := Option.some.inj h
    subst hr
    exact agr.rf
  · replace h := uu_neg c1 h
    refine (agr_wI (a := 1079) (f := 127) (v := s.I 1079 127) (Or.inl (by decide))).tr ?_
    have hr := Option.some.inj h
    subst hr
    exact agr.rf
set_option maxRecDepth 100000 in
set_option maxHeartbeats 4000000 in
theorem yb_X12_stands_24  {K24 : List Nat → Bool → Int32 → uS → Option (uS × Bool)}  (hK24 : ∀ (w1 : List Nat) (b2 : Bool) (x3 : Int32)  (s : uS) (r : (uS × Bool)), K24 w1 b2 x3 s = some r → agr [11] [] s r.1) {w1 : List Nat} {b2 : Bool} {x3 : Int32} {s : uS} {r : (uS × Bool)}  (h : fb_X12_stands_24  K24 w1 b2 x3 s = some r) : agr [11] [] s r.1 := by
  unfold fb_X12_stands_24 at h
  by_cases c1 : (nI w1.length) ≤ x3
  · replace h := uu_pos c1 h
    exact yb_X12_stands_70  h
  · replace h := uu_neg c1 h
    by_cases c2 : b2 = true
    · replace h := uu_pos c2 h
      obtain ⟨v3, e4, h⟩ := uu_ob h
      obtain ⟨v5, e6, h⟩ := uu_ob h
      obtain ⟨v7, e8, h⟩ := uu_ob h
      by_cases c9 : v5 = v7
      · replace h := uu_pos c9 h
        exact hK24 w1 true (x3 + 1) _ _ h
      · replace h := uu_neg c9 h
        exact hK24 w1 false (x3 + 1) _ _ h
    · replace h := uu_neg c2 h
      exact yb_X12_stands_70  h
set_option maxRecDepth 100000 in
set_option maxHeartbeats 4000000 in
theorem yn_X12_stands_24     : ∀ (n : Nat) (w1 : List Nat) (b2 : Bool) (x3 : Int32)  (s : uS) (r : (uS × Bool)), fn_X12_stands_24   n w1 b2 x3 s = some r → agr [11] [] s r.1 := by
  intro n
  induction n with
  | zero => intro w1 b2 x3  s r h
            cases h
  | succ n ih => intro w1 b2 x3  s r h
                 exact yb_X12_stands_24  ih  h
set_option maxRecDepth 100000 in
set_option maxHeartbeats 4000000 in
theorem yc_X12_stands   {w1 : List Nat} {s : uS} {r : (uS × Bool)}  (h : fn_X12_stands  w1 s = some r) : agr [11] [] s r.1 := by
  unfold fn_X12_stands at h
  by_cases c1 : (s.I 1079 126) < ((s.I 1079 127) + (nI w1.length))
  · replace h := uu_pos c1 h
    exact yn_X12_stands_24  _ _ _ _ _ _ h
  · replace h := uu_neg c1 h
    exact yn_X12_stands_24  _ _ _ _ _ _ h
set_option maxRecDepth 100000 in
set_option maxHeartbeats 4000000 in
theorem yc_X12_first   {w1 : List Nat} {s : uS} {r : (uS × Bool)}  (h : fn_X12_first  w1 s = some r) : agr [11] [] s r.1 := by
  unfold fn_X12_first at h
  refine (agr_wI (a := 1079) (f := 127) (v := 0) (Or.inl (by decide))).tr ?_
  obtain ⟨r1, e2, h⟩ := uu_ob h
  refine ((yc_X12_stands  e2).mo (by decide) (fun _ h => nomatch h)).tr ?_
  by_cases c3 : r1.2 = true
  · replace h := uu_pos c3 h
    by_cases c4 : (r1.1.I 1079 127) = (r1.1.I 1079 126)
    · replace h := uu_pos c4 h
      have hr := Option.some.inj h
      subst hr
      exact agr.rf
    · replace h := uu_neg c4 h
      obtain ⟨v5, e6, h⟩ := uu_ob h
      by_cases c7 : v5 = 32
      · replace h := uu_pos c7 h
        have hr := Option.some.inj h
        subst hr
        exact agr.rf
      · replace h := uu_neg c7 h
        have hr := Option.some.inj h
        subst hr
        exact agr.rf
  · replace h := uu_neg c3 h
    have hr := Option.some.inj h
    subst hr
    exact agr.rf
set_option maxRecDepth 100000 in
set_option maxHeartbeats 4000000 in
theorem yb_X12_done_20     {ws0 : List Nat} {xs1 : Int32} {s : uS} {r : (uS × Bool)}  (h : fb_X12_done_20   ws0 xs1 s = some r) : agr [11] [] s r.1 := by
  unfold fb_X12_done_20 at h
  obtain ⟨s1, e2, h⟩ := uu_ob h
  refine ((yc_X12_line  e2).mo (by decide) (fun _ h => nomatch h)).tr ?_
  by_cases c3 : (s1.I 1079 127) = (s1.I 1079 126)
  · replace h := uu_pos c3 h
    have hr := Option.some.inj h
    subst hr
    exact agr.rf
  · replace h := uu_neg c3 h
    have hr := Option.some.inj h
    subst hr
    exact agr.rf
set_option maxRecDepth 100000 in
set_option maxHeartbeats 4000000 in
theorem yc_X12_done   {w1 : List Nat} {s : uS} {r : (uS × Bool)}  (h : fn_X12_done  w1 s = some r) : agr [11] [] s r.1 := by
  unfold fn_X12_done at h
  by_cases c1 : (s.I 1079 127) = (s.I 1079 126)
  · replace h := uu_pos c1 h
    exact yb_X12_done_20  h
  · replace h := uu_neg c1 h
    exact yb_X12_done_20  h
set_option maxRecDepth 100000 in
set_option maxHeartbeats 4000000 in
theorem yb_X12_oneCmd_9  {K9 : Int32 → Int32 → uS → Option uS}  (hK9 : ∀ (x1 : Int32) (x3 : Int32)  (s : uS) (r : uS), K9 x1 x3 s = some r → agr [11] [] s r) {x1 : Int32} {x3 : Int32} {s : uS} {r : uS}  (h : fb_X12_oneCmd_9  K9 x1 x3 s = some r) : agr [11] [] s r := by
  unfold fb_X12_oneCmd_9 at h
  by_cases c1 : (s.I 1079 21) ≤ x3
  · replace h := uu_pos c1 h
    have hr := Option.some.inj h
    subst hr
    exact agr.rf
  · replace h := uu_neg c1 h
    obtain ⟨v2, e3, h⟩ := uu_ob h
    obtain ⟨s4, e5, h⟩ := uu_ob h
    refine (agr_iput e5 (Or.inl (by decide))).tr ?_
    exact hK9 x1 (x3 + 1) _ _ h
set_option maxRecDepth 100000 in
set_option maxHeartbeats 4000000 in
theorem yn_X12_oneCmd_9     : ∀ (n : Nat) (x1 : Int32) (x3 : Int32)  (s : uS) (r : uS), fn_X12_oneCmd_9   n x1 x3 s = some r → agr [11] [] s r := by
  intro n
  induction n with
  | zero => intro x1 x3  s r h
            cases h
  | succ n ih => intro x1 x3  s r h
                 exact yb_X12_oneCmd_9  ih  h
set_option maxRecDepth 100000 in
set_option maxHeartbeats 4000000 in
theorem yc_X12_oneCmd   {x1 : Int32} {x2 : Int32} {s : uS} {r : uS}  (h : fn_X12_oneCmd  x1 x2 s = some r) : agr [11] [] s r := by
  unfold fn_X12_oneCmd at h
  refine (agr_wI (a := 1079) (f := 21) (v := x2 - x1) (Or.inl (by decide))).tr ?_
  exact yn_X12_oneCmd_9  _ _ _ _ _ h
set_option maxRecDepth 100000 in
set_option maxHeartbeats 4000000 in
theorem yb_X12_hello_39      {s : uS} {r : uS}  (h : fb_X12_hello_39    s = some r) : agr [11] [] s r := by
  unfold fb_X12_hello_39 at h
  obtain ⟨s2, e3, h⟩ := uu_ob h
  refine ((yc_X12_line  e3).mo (by decide) (fun _ h => nomatch h)).tr ?_
  have hr := Option.some.inj h
  subst hr
  exact agr.rf
set_option maxRecDepth 100000 in
set_option maxHeartbeats 4000000 in
theorem yc_X12_hello    {s : uS} {r : uS}  (h : fn_X12_hello   s = some r) : agr [11] [] s r := by
  unfold fn_X12_hello at h
  obtain ⟨r2, e3, h⟩ := uu_ob h
  refine ((yc_X12_stands  e3).mo (by decide) (fun _ h => nomatch h)).tr ?_
  obtain ⟨s4, e5, h⟩ := uu_ob h
  refine ((yc_X12_oneCmd  e5).mo (by decide) (fun _ h => nomatch h)).tr ?_
  by_cases c6 : r2.2 = true
  · replace h := uu_pos c6 h
    obtain ⟨v7, e8, h⟩ := uu_ob h
    by_cases c9 : v7 = true
    · replace h := uu_pos c9 h
      refine (agr_wI (a := 1079) (f := 114) (v := 1) (Or.inl (by decide))).tr ?_
      obtain ⟨s10, e11, h⟩ := uu_ob h
      refine ((yc_X12_reset  e11).mo (by decide) (fun _ h => nomatch h)).tr ?_
      obtain ⟨s13, e14, h⟩ := uu_ob h
      refine ((yc_X12_line  e14).mo (by decide) (fun _ h => nomatch h)).tr ?_
      obtain ⟨s16, e17, h⟩ := uu_ob h
      refine ((yc_X12_line  e17).mo (by decide) (fun _ h => nomatch h)).tr ?_
      obtain ⟨s19, e20, h⟩ := uu_ob h
      refine ((yc_X12_line  e20).mo (by decide) (fun _ h => nomatch h)).tr ?_
      have hr := Option.some.inj h
      subst hr
      exact agr.rf
    · replace h := uu_neg c9 h
      exact yb_X12_hello_39  h
  · replace h := uu_neg c6 h
    exact yb_X12_hello_39  h
set_option maxRecDepth 100000 in
set_option maxHeartbeats 4000000 in
theorem yc_X12_data    {s : uS} {r : uS}  (h : fn_X12_data   s = some r) : agr [11] [] s r := by
  unfold fn_X12_data at h
  by_cases c1 : (s.I 1079 127) = (s.I 1079 126)
  · replace h := uu_pos c1 h
    by_cases c2 : (s.I 1079 117) = 0
    · replace h := uu_pos c2 h
      obtain ⟨s4, e5, h⟩ := uu_ob h
      refine ((yc_X12_line  e5).mo (by decide) (fun _ h => nomatch h)).tr ?_
      have hr := Option.some.inj h
      subst hr
      exact agr.rf
    · replace h := uu_neg c2 h
      obtain ⟨s7, e8, h⟩ := uu_ob h
      refine ((yc_X12_line  e8).mo (by decide) (fun _ h => nomatch h)).tr ?_
      refine (agr_wI (a := 1079) (f := 116) (v := 1) (Or.inl (by decide))).tr ?_
      refine (agr_wI (a := 1079) (f := 13) (v := 0) (Or.inl (by decide))).tr ?_
      refine (agr_wI (a := 1079) (f := 124) (v := 0) (Or.inl (by decide))).tr ?_
      refine (agr_wI (a := 1079) (f := 125) (v := 0) (Or.inl (by decide))).tr ?_
      have hr := Option.some.inj h
      subst hr
      exact agr.rf
  · replace h := uu_neg c1 h
    obtain ⟨s10, e11, h⟩ := uu_ob h
    refine ((yc_X12_line  e11).mo (by decide) (fun _ h => nomatch h)).tr ?_
    have hr := Option.some.inj h
    subst hr
    exact agr.rf
set_option maxRecDepth 100000 in
set_option maxHeartbeats 4000000 in
theorem yb_X12_path_43     {x1 : Int32} {s : uS} {r : (uS × Bool)}  (h : fb_X12_path_43   x1 s = some r) : agr [11] [] s r.1 := by
  unfold fb_X12_path_43 at h
  by_cases c1 : x1 = (s.I 1079 126)
  · replace h := uu_pos c1 h
    have hr := Option.some.inj h
    subst hr
    exact agr.rf
  · replace h := uu_neg c1 h
    obtain ⟨s2, e3, h⟩ := uu_ob h
    refine ((yc_X12_oneCmd  e3).mo (by decide) (fun _ h => nomatch h)).tr ?_
    refine (agr_wI (a := 1079) (f := 127) (v := x1 + 1) (Or.inl (by decide))).tr ?_
    obtain ⟨v4, e5, h⟩ := uu_ob h
    by_cases c6 : v4 < 0
    · replace h := uu_pos c6 h
      have hr := Option.some.inj h
      subst hr
      exact agr.rf
    · replace h := uu_neg c6 h
      have hr := Option.some.inj h
      subst hr
      exact agr.rf
set_option maxRecDepth 100000 in
set_option maxHeartbeats 4000000 in
theorem yb_X12_path_17  {K17 : Int32 → uS → Option (uS × Bool)}  (hK17 : ∀ (x1 : Int32)  (s : uS) (r : (uS × Bool)), K17 x1 s = some r → agr [11] [] s r.1) {x1 : Int32} {s : uS} {r : (uS × Bool)}  (h : fb_X12_path_17  K17 x1 s = some r) : agr [11] [] s r.1 := by
  unfold fb_X12_path_17 at h
  by_cases c1 : (s.I 1079 126) ≤ x1
  · replace h := uu_pos c1 h
    exact yb_X12_path_43  h
  · replace h := uu_neg c1 h
    obtain ⟨v2, e3, h⟩ := uu_ob h
    by_cases c4 : v2 = 62
    · replace h := uu_pos c4 h
      exact yb_X12_path_43  h
    · replace h := uu_neg c4 h
      exact hK17 (x1 + 1) _ _ h
set_option maxRecDepth 100000 in
set_option maxHeartbeats 4000000 in
theorem yn_X12_path_17     : ∀ (n : Nat) (x1 : Int32)  (s : uS) (r : (uS × Bool)), fn_X12_path_17   n x1 s = some r → agr [11] [] s r.1 := by
  intro n
  induction n with
  | zero => intro x1  s r h
            cases h
  | succ n ih => intro x1  s r h
                 exact yb_X12_path_17  ih  h
set_option maxRecDepth 100000 in
set_option maxHeartbeats 4000000 in
theorem yc_X12_path    {s : uS} {r : (uS × Bool)}  (h : fn_X12_path   s = some r) : agr [11] [] s r.1 := by
  unfold fn_X12_path at h
  obtain ⟨r2, e3, h⟩ := uu_ob h
  refine ((yc_X12_stands  e3).mo (by decide) (fun _ h => nomatch h)).tr ?_
  by_cases c4 : r2.2 = true
  · replace h := uu_pos c4 h
    exact yn_X12_path_17  _ _ _ _ h
  · replace h := uu_neg c4 h
    have hr := Option.some.inj h
    subst hr
    exact agr.rf
set_option maxRecDepth 100000 in
set_option maxHeartbeats 4000000 in
theorem yb_X12_recipient_129  {K129 : Int32 → uS → Option uS}  (hK129 : ∀ (x3 : Int32)  (s : uS) (r : uS), K129 x3 s = some r → agr [11] [] s r) {x3 : Int32} {s : uS} {r : uS}  (h : fb_X12_recipient_129  K129 x3 s = some r) : agr [11] [] s r := by
  unfold fb_X12_recipient_129 at h
  by_cases c1 : (s.I 1079 21) ≤ x3
  · replace h := uu_pos c1 h
    refine (agr_wI (a := 1079) (f := 117) (v := (s.I 1079 117) + 1) (Or.inl (by decide))).tr ?_
    obtain ⟨s3, e4, h⟩ := uu_ob h
    refine ((yc_X12_line  e4).mo (by decide) (fun _ h => nomatch h)).tr ?_
    have hr := Option.some.inj h
    subst hr
    exact agr.rf
  · replace h := uu_neg c1 h
    obtain ⟨v5, e6, h⟩ := uu_ob h
    obtain ⟨s7, e8, h⟩ := uu_ob h
    refine (agr_iput e8 (Or.inl (by decide))).tr ?_
    exact hK129 (x3 + 1) _ _ h
set_option maxRecDepth 100000 in
set_option maxHeartbeats 4000000 in
theorem yn_X12_recipient_129     : ∀ (n : Nat) (x3 : Int32)  (s : uS) (r : uS), fn_X12_recipient_129   n x3 s = some r → agr [11] [] s r := by
  intro n
  induction n with
  | zero => intro x3  s r h
            cases h
  | succ n ih => intro x3  s r h
                 exact yb_X12_recipient_129  ih  h
set_option maxRecDepth 100000 in
set_option maxHeartbeats 4000000 in
theorem yb_X12_recipient_33     {bs0 : Bool} {s : uS} {r : uS}  (h : fb_X12_recipient_33   bs0 s = some r) : agr [11] [] s r := by
  unfold fb_X12_recipient_33 at h
  by_cases c1 : bs0 = true
  · replace h := uu_pos c1 h
    obtain ⟨r2, e3, h⟩ := uu_ob h
    refine ((yc_X12_userOf  e3).mo (by decide) (fun _ h => nomatch h)).tr ?_
    by_cases c4 : (r2.1.I 1079 115) = 0
    · replace h := uu_pos c4 h
      obtain ⟨s6, e7, h⟩ := uu_ob h
      refine ((yc_X12_line  e7).mo (by decide) (fun _ h => nomatch h)).tr ?_
      have hr := Option.some.inj h
      subst hr
      exact agr.rf
    · replace h := uu_neg c4 h
      by_cases c8 : 0 ≤ r2.2
      · replace h := uu_pos c8 h
        by_cases c9 : (r2.1.I 1079 117) = 4
        · replace h := uu_pos c9 h
          obtain ⟨s11, e12, h⟩ := uu_ob h
          refine ((yc_X12_line  e12).mo (by decide) (fun _ h => nomatch h)).tr ?_
          have hr := Option.some.inj h
          subst hr
          exact agr.rf
        · replace h := uu_neg c9 h
          obtain ⟨s13, e14, h⟩ := uu_ob h
          refine (agr_iput e14 (Or.inl (by decide))).tr ?_
          obtain ⟨s15, e16, h⟩ := uu_ob h
          refine (agr_iput e16 (Or.inl (by decide))).tr ?_
          exact yn_X12_recipient_129  _ _ _ _ h
      · replace h := uu_neg c8 h
        obtain ⟨s18, e19, h⟩ := uu_ob h
        refine ((yc_X12_line  e19).mo (by decide) (fun _ h => nomatch h)).tr ?_
        have hr := Option.some.inj h
        subst hr
        exact agr.rf
  · replace h := uu_neg c1 h
    obtain ⟨s21, e22, h⟩ := uu_ob h
    refine ((yc_X12_line  e22).mo (by decide) (fun _ h => nomatch h)).tr ?_
    have hr := Option.some.inj h
    subst hr
    exact agr.rf
set_option maxRecDepth 100000 in
set_option maxHeartbeats 4000000 in
theorem yc_X12_recipient    {s : uS} {r : uS}  (h : fn_X12_recipient   s = some r) : agr [11] [] s r := by
  unfold fn_X12_recipient at h
  obtain ⟨r2, e3, h⟩ := uu_ob h
  refine ((yc_X12_stands  e3).mo (by decide) (fun _ h => nomatch h)).tr ?_
  by_cases c4 : r2.2 = true
  · replace h := uu_pos c4 h
    obtain ⟨r5, e6, h⟩ := uu_ob h
    refine ((yc_X12_path  e6).mo (by decide) (fun _ h => nomatch h)).tr ?_
    by_cases c7 : r5.2 = true
    · replace h := uu_pos c7 h
      by_cases c8 : (r5.1.I 1079 127) = (r5.1.I 1079 126)
      · replace h := uu_pos c8 h
        exact yb_X12_recipient_33  h
      · replace h := uu_neg c8 h
        exact yb_X12_recipient_33  h
    · replace h := uu_neg c7 h
      exact yb_X12_recipient_33  h
  · replace h := uu_neg c4 h
    exact yb_X12_recipient_33  h
