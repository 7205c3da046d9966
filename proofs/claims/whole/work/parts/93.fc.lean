set_option maxRecDepth 100000 in
set_option maxHeartbeats 4000000 in
theorem zb_X12_compared_84     {x1 : Int32} {x3 : Int32} {s : uS} {r : uS}  (h : fb_X12_compared_84   x1 x3 s = some r) : agf [(1079, 30), (1079, 31), (1079, 32), (1079, 33), (1079, 34), (1079, 35), (1079, 37), (1079, 38), (1079, 39), (1079, 40), (1079, 61)] [1097, 1111, 1116, 1117] [] [] s r := by
  unfold fb_X12_compared_84 at h
  obtain ⟨s1, e2, h⟩ := uu_ob h
  refine (agf_iput e2 (Or.inl (by decide))).tr ?_
  obtain ⟨s3, e4, h⟩ := uu_ob h
  refine ((zc_X12_next  e4).mo (by decide) (by decide) (by decide) (fun _ h => nomatch h)).tr ?_
  have hr := Option.some.inj h
  subst hr
  exact agf.rf
set_option maxRecDepth 100000 in
set_option maxHeartbeats 4000000 in
theorem zb_X12_compared_72     {x1 : Int32} {x3 : Int32} {s : uS} {r : uS}  (h : fb_X12_compared_72   x1 x3 s = some r) : agf [(1079, 30), (1079, 31), (1079, 32), (1079, 33), (1079, 34), (1079, 35), (1079, 37), (1079, 38), (1079, 39), (1079, 40), (1079, 61)] [1097, 1111, 1116, 1117] [] [] s r := by
  unfold fb_X12_compared_72 at h
  by_cases c1 : x3 = 2
  · replace h := uu_pos c1 h
    obtain ⟨s2, e3, h⟩ := uu_ob h
    refine ((zc_X12_needs  e3).mo (by decide) (by decide) (by decide) (fun _ h => nomatch h)).tr ?_
    exact zb_X12_compared_84  h
  · replace h := uu_neg c1 h
    exact zb_X12_compared_84  h
set_option maxRecDepth 100000 in
set_option maxHeartbeats 4000000 in
theorem zb_X12_compared_59     {x1 : Int32} {xs0 : Int32} {s : uS} {r : uS}  (h : fb_X12_compared_59   x1 xs0 s = some r) : agf [(1079, 30), (1079, 31), (1079, 32), (1079, 33), (1079, 34), (1079, 35), (1079, 37), (1079, 38), (1079, 39), (1079, 40), (1079, 61)] [1097, 1111, 1116, 1117] [] [] s r := by
  unfold fb_X12_compared_59 at h
  by_cases c1 : 0 ≤ xs0
  · replace h := uu_pos c1 h
    exact zb_X12_compared_72  h
  · replace h := uu_neg c1 h
    obtain ⟨s2, e3, h⟩ := uu_ob h
    refine ((zc_X12_fail  e3).mo (by decide) (by decide) (by decide) (fun _ h => nomatch h)).tr ?_
    exact zb_X12_compared_72  h
set_option maxRecDepth 100000 in
set_option maxHeartbeats 4000000 in
theorem zc_X12_compared   {x1 : Int32} {s : uS} {r : uS}  (h : fn_X12_compared  x1 s = some r) : agf [(1079, 30), (1079, 31), (1079, 32), (1079, 33), (1079, 34), (1079, 35), (1079, 37), (1079, 38), (1079, 39), (1079, 40), (1079, 61)] [1097, 1111, 1116, 1117] [] [] s r := by
  unfold fn_X12_compared at h
  obtain ⟨r1, e2, h⟩ := uu_ob h
  refine ((zc_X12_string  e2).mo (by decide) (by decide) (by decide) (fun _ h => nomatch h)).tr ?_
  by_cases c3 : (r1.1.I 1079 40) < 0
  · replace h := uu_pos c3 h
    obtain ⟨v5, e6, h⟩ := uu_ob h
    by_cases c7 : v5 = true
    · replace h := uu_pos c7 h
      exact zb_X12_compared_59  h
    · replace h := uu_neg c7 h
      obtain ⟨v9, e10, h⟩ := uu_ob h
      by_cases c11 : v9 = true
      · replace h := uu_pos c11 h
        exact zb_X12_compared_59  h
      · replace h := uu_neg c11 h
        obtain ⟨v13, e14, h⟩ := uu_ob h
        by_cases c15 : v13 = true
        · replace h := uu_pos c15 h
          exact zb_X12_compared_59  h
        · replace h := uu_neg c15 h
          exact zb_X12_compared_59  h
  · replace h := uu_neg c3 h
    have hr := Option.some.inj h
    subst hr
    exact agf.rf
set_option maxRecDepth 100000 in
set_option maxHeartbeats 4000000 in
theorem zb_X12_how_275  {K0 : Int32 → uS → Option uS}  (hK0 : ∀ (x1 : Int32)  (s : uS) (r : uS), K0 x1 s = some r → agf [(1079, 30), (1079, 31), (1079, 32), (1079, 33), (1079, 34), (1079, 35), (1079, 37), (1079, 38), (1079, 39), (1079, 40), (1079, 61)] [1097, 1109, 1110, 1111, 1112, 1116, 1117] [] [] s r) {x1 : Int32} {b4 : Bool} {s : uS} {r : uS}  (h : fb_X12_how_275  K0 x1 b4 s = some r) : agf [(1079, 30), (1079, 31), (1079, 32), (1079, 33), (1079, 34), (1079, 35), (1079, 37), (1079, 38), (1079, 39), (1079, 40), (1079, 61)] [1097, 1109, 1110, 1111, 1112, 1116, 1117] [] [] s r := by
  unfold fb_X12_how_275 at h
  by_cases c1 : b4 = true
  · replace h := uu_pos c1 h
    obtain ⟨s2, e3, h⟩ := uu_ob h
    refine ((zc_X12_compared  e3).mo (by decide) (by decide) (by decide) (fun _ h => nomatch h)).tr ?_
    exact hK0 x1 _ _ h
  · replace h := uu_neg c1 h
    exact hK0 x1 _ _ h
set_option maxRecDepth 100000 in
set_option maxHeartbeats 4000000 in
theorem zb_X12_how_265  {K0 : Int32 → uS → Option uS}  (hK0 : ∀ (x1 : Int32)  (s : uS) (r : uS), K0 x1 s = some r → agf [(1079, 30), (1079, 31), (1079, 32), (1079, 33), (1079, 34), (1079, 35), (1079, 37), (1079, 38), (1079, 39), (1079, 40), (1079, 61)] [1097, 1109, 1110, 1111, 1112, 1116, 1117] [] [] s r) {x1 : Int32} {x2 : Int32} {b4 : Bool} {s : uS} {r : uS}  (h : fb_X12_how_265  K0 x1 x2 b4 s = some r) : agf [(1079, 30), (1079, 31), (1079, 32), (1079, 33), (1079, 34), (1079, 35), (1079, 37), (1079, 38), (1079, 39), (1079, 40), (1079, 61)] [1097, 1109, 1110, 1111, 1112, 1116, 1117] [] [] s r := by
  unfold fb_X12_how_265 at h
  by_cases c1 : x2 ≤ 2
  · replace h := uu_pos c1 h
    exact zb_X12_how_275 hK0 h
  · replace h := uu_neg c1 h
    obtain ⟨s2, e3, h⟩ := uu_ob h
    refine ((zc_X12_relation  e3).mo (by decide) (by decide) (by decide) (fun _ h => nomatch h)).tr ?_
    exact zb_X12_how_275 hK0 h
set_option maxRecDepth 100000 in
set_option maxHeartbeats 4000000 in
theorem zb_X12_how_254  {K0 : Int32 → uS → Option uS}  (hK0 : ∀ (x1 : Int32)  (s : uS) (r : uS), K0 x1 s = some r → agf [(1079, 30), (1079, 31), (1079, 32), (1079, 33), (1079, 34), (1079, 35), (1079, 37), (1079, 38), (1079, 39), (1079, 40), (1079, 61)] [1097, 1109, 1110, 1111, 1112, 1116, 1117] [] [] s r) {x1 : Int32} {x2 : Int32} {x3 : Int32} {b4 : Bool} {s : uS} {r : uS}  (h : fb_X12_how_254  K0 x1 x2 x3 b4 s = some r) : agf [(1079, 30), (1079, 31), (1079, 32), (1079, 33), (1079, 34), (1079, 35), (1079, 37), (1079, 38), (1079, 39), (1079, 40), (1079, 61)] [1097, 1109, 1110, 1111, 1112, 1116, 1117] [] [] s r := by
  unfold fb_X12_how_254 at h
  by_cases c1 : x3 < 0
  · replace h := uu_pos c1 h
    exact zb_X12_how_265 hK0 h
  · replace h := uu_neg c1 h
    obtain ⟨s2, e3, h⟩ := uu_ob h
    refine (agf_iput e3 (Or.inl (by decide))).tr ?_
    exact zb_X12_how_265 hK0 h
set_option maxRecDepth 100000 in
set_option maxHeartbeats 4000000 in
theorem zb_X12_how_239  {K0 : Int32 → uS → Option uS}  (hK0 : ∀ (x1 : Int32)  (s : uS) (r : uS), K0 x1 s = some r → agf [(1079, 30), (1079, 31), (1079, 32), (1079, 33), (1079, 34), (1079, 35), (1079, 37), (1079, 38), (1079, 39), (1079, 40), (1079, 61)] [1097, 1109, 1110, 1111, 1112, 1116, 1117] [] [] s r) {x1 : Int32} {x2 : Int32} {x3 : Int32} {b4 : Bool} {s : uS} {r : uS}  (h : fb_X12_how_239  K0 x1 x2 x3 b4 s = some r) : agf [(1079, 30), (1079, 31), (1079, 32), (1079, 33), (1079, 34), (1079, 35), (1079, 37), (1079, 38), (1079, 39), (1079, 40), (1079, 61)] [1097, 1109, 1110, 1111, 1112, 1116, 1117] [] [] s r := by
  unfold fb_X12_how_239 at h
  obtain ⟨s1, e2, h⟩ := uu_ob h
  refine ((zc_X12_next  e2).mo (by decide) (by decide) (by decide) (fun _ h => nomatch h)).tr ?_
  by_cases c3 : x2 < 0
  · replace h := uu_pos c3 h
    exact zb_X12_how_254 hK0 h
  · replace h := uu_neg c3 h
    obtain ⟨s4, e5, h⟩ := uu_ob h
    refine (agf_iput e5 (Or.inl (by decide))).tr ?_
    exact zb_X12_how_254 hK0 h
set_option maxRecDepth 100000 in
set_option maxHeartbeats 4000000 in
theorem zb_X12_how_228  {K0 : Int32 → uS → Option uS}  (hK0 : ∀ (x1 : Int32)  (s : uS) (r : uS), K0 x1 s = some r → agf [(1079, 30), (1079, 31), (1079, 32), (1079, 33), (1079, 34), (1079, 35), (1079, 37), (1079, 38), (1079, 39), (1079, 40), (1079, 61)] [1097, 1109, 1110, 1111, 1112, 1116, 1117] [] [] s r) {x1 : Int32} {x2 : Int32} {x3 : Int32} {b4 : Bool} {s : uS} {r : uS}  (h : fb_X12_how_228  K0 x1 x2 x3 b4 s = some r) : agf [(1079, 30), (1079, 31), (1079, 32), (1079, 33), (1079, 34), (1079, 35), (1079, 37), (1079, 38), (1079, 39), (1079, 40), (1079, 61)] [1097, 1109, 1110, 1111, 1112, 1116, 1117] [] [] s r := by
  unfold fb_X12_how_228 at h
  by_cases c1 : x2 ≤ 2
  · replace h := uu_pos c1 h
    exact zb_X12_how_239 hK0 h
  · replace h := uu_neg c1 h
    obtain ⟨s2, e3, h⟩ := uu_ob h
    refine ((zc_X12_needs  e3).mo (by decide) (by decide) (by decide) (fun _ h => nomatch h)).tr ?_
    exact zb_X12_how_239 hK0 h
set_option maxRecDepth 100000 in
set_option maxHeartbeats 4000000 in
theorem zb_X12_how_213  {K0 : Int32 → uS → Option uS}  (hK0 : ∀ (x1 : Int32)  (s : uS) (r : uS), K0 x1 s = some r → agf [(1079, 30), (1079, 31), (1079, 32), (1079, 33), (1079, 34), (1079, 35), (1079, 37), (1079, 38), (1079, 39), (1079, 40), (1079, 61)] [1097, 1109, 1110, 1111, 1112, 1116, 1117] [] [] s r) {x1 : Int32} {x2 : Int32} {x3 : Int32} {b4 : Bool} {bs0 : Bool} {s : uS} {r : uS}  (h : fb_X12_how_213  K0 x1 x2 x3 b4 bs0 s = some r) : agf [(1079, 30), (1079, 31), (1079, 32), (1079, 33), (1079, 34), (1079, 35), (1079, 37), (1079, 38), (1079, 39), (1079, 40), (1079, 61)] [1097, 1109, 1110, 1111, 1112, 1116, 1117] [] [] s r := by
  unfold fb_X12_how_213 at h
  by_cases c1 : bs0 = true
  · replace h := uu_pos c1 h
    obtain ⟨s2, e3, h⟩ := uu_ob h
    refine ((zc_X12_fail  e3).mo (by decide) (by decide) (by decide) (fun _ h => nomatch h)).tr ?_
    exact zb_X12_how_228 hK0 h
  · replace h := uu_neg c1 h
    exact zb_X12_how_228 hK0 h
set_option maxRecDepth 100000 in
set_option maxHeartbeats 4000000 in
theorem zb_X12_how_173  {K0 : Int32 → uS → Option uS}  (hK0 : ∀ (x1 : Int32)  (s : uS) (r : uS), K0 x1 s = some r → agf [(1079, 30), (1079, 31), (1079, 32), (1079, 33), (1079, 34), (1079, 35), (1079, 37), (1079, 38), (1079, 39), (1079, 40), (1079, 61)] [1097, 1109, 1110, 1111, 1112, 1116, 1117] [] [] s r) {x1 : Int32} {x2 : Int32} {x3 : Int32} {b4 : Bool} {s : uS} {r : uS}  (h : fb_X12_how_173  K0 x1 x2 x3 b4 s = some r) : agf [(1079, 30), (1079, 31), (1079, 32), (1079, 33), (1079, 34), (1079, 35), (1079, 37), (1079, 38), (1079, 39), (1079, 40), (1079, 61)] [1097, 1109, 1110, 1111, 1112, 1116, 1117] [] [] s r := by
  unfold fb_X12_how_173 at h
  by_cases c1 : x3 < 0
  · replace h := uu_pos c1 h
    exact zb_X12_how_213 hK0 h
  · replace h := uu_neg c1 h
    obtain ⟨v2, e3, h⟩ := uu_ob h
    by_cases c4 : 0 ≤ v2
    · replace h := uu_pos c4 h
      exact zb_X12_how_213 hK0 h
    · replace h := uu_neg c4 h
      obtain ⟨v5, e6, h⟩ := uu_ob h
      by_cases c7 : v5 = 20
      · replace h := uu_pos c7 h
        exact zb_X12_how_213 hK0 h
      · replace h := uu_neg c7 h
        obtain ⟨v8, e9, h⟩ := uu_ob h
        by_cases c10 : v8 = 23
        · replace h := uu_pos c10 h
          exact zb_X12_how_213 hK0 h
        · replace h := uu_neg c10 h
          exact zb_X12_how_213 hK0 h
set_option maxRecDepth 100000 in
set_option maxHeartbeats 4000000 in
theorem zb_X12_how_159  {K0 : Int32 → uS → Option uS}  (hK0 : ∀ (x1 : Int32)  (s : uS) (r : uS), K0 x1 s = some r → agf [(1079, 30), (1079, 31), (1079, 32), (1079, 33), (1079, 34), (1079, 35), (1079, 37), (1079, 38), (1079, 39), (1079, 40), (1079, 61)] [1097, 1109, 1110, 1111, 1112, 1116, 1117] [] [] s r) {x1 : Int32} {x2 : Int32} {x3 : Int32} {b4 : Bool} {s : uS} {r : uS}  (h : fb_X12_how_159  K0 x1 x2 x3 b4 s = some r) : agf [(1079, 30), (1079, 31), (1079, 32), (1079, 33), (1079, 34), (1079, 35), (1079, 37), (1079, 38), (1079, 39), (1079, 40), (1079, 61)] [1097, 1109, 1110, 1111, 1112, 1116, 1117] [] [] s r := by
  unfold fb_X12_how_159 at h
  by_cases c1 : b4 = true
  · replace h := uu_pos c1 h
    obtain ⟨v2, e3, h⟩ := uu_ob h
    by_cases c4 : 0 ≤ v2
    · replace h := uu_pos c4 h
      exact zb_X12_how_213 hK0 h
    · replace h := uu_neg c4 h
      exact zb_X12_how_173 hK0 h
  · replace h := uu_neg c1 h
    exact zb_X12_how_173 hK0 h
set_option maxRecDepth 100000 in
set_option maxHeartbeats 4000000 in
theorem zb_X12_how_146  {K0 : Int32 → uS → Option uS}  (hK0 : ∀ (x1 : Int32)  (s : uS) (r : uS), K0 x1 s = some r → agf [(1079, 30), (1079, 31), (1079, 32), (1079, 33), (1079, 34), (1079, 35), (1079, 37), (1079, 38), (1079, 39), (1079, 40), (1079, 61)] [1097, 1109, 1110, 1111, 1112, 1116, 1117] [] [] s r) {x1 : Int32} {x2 : Int32} {x3 : Int32} {b4 : Bool} {s : uS} {r : uS}  (h : fb_X12_how_146  K0 x1 x2 x3 b4 s = some r) : agf [(1079, 30), (1079, 31), (1079, 32), (1079, 33), (1079, 34), (1079, 35), (1079, 37), (1079, 38), (1079, 39), (1079, 40), (1079, 61)] [1097, 1109, 1110, 1111, 1112, 1116, 1117] [] [] s r := by
  unfold fb_X12_how_146 at h
  by_cases c1 : x2 < 0
  · replace h := uu_pos c1 h
    exact zb_X12_how_159 hK0 h
  · replace h := uu_neg c1 h
    obtain ⟨v2, e3, h⟩ := uu_ob h
    by_cases c4 : 0 ≤ v2
    · replace h := uu_pos c4 h
      exact zb_X12_how_213 hK0 h
    · replace h := uu_neg c4 h
      exact zb_X12_how_159 hK0 h
set_option maxRecDepth 100000 in
set_option maxHeartbeats 4000000 in
theorem zb_X12_how_123  {K0 : Int32 → uS → Option uS}  (hK0 : ∀ (x1 : Int32)  (s : uS) (r : uS), K0 x1 s = some r → agf [(1079, 30), (1079, 31), (1079, 32), (1079, 33), (1079, 34), (1079, 35), (1079, 37), (1079, 38), (1079, 39), (1079, 40), (1079, 61)] [1097, 1109, 1110, 1111, 1112, 1116, 1117] [] [] s r) {x1 : Int32} {x2 : Int32} {xs0 : Int32} {s : uS} {r : uS}  (h : fb_X12_how_123  K0 x1 x2 xs0 s = some r) : agf [(1079, 30), (1079, 31), (1079, 32), (1079, 33), (1079, 34), (1079, 35), (1079, 37), (1079, 38), (1079, 39), (1079, 40), (1079, 61)] [1097, 1109, 1110, 1111, 1112, 1116, 1117] [] [] s r := by
  unfold fb_X12_how_123 at h
  obtain ⟨v2, e3, h⟩ := uu_ob h
  by_cases c4 : 0 ≤ x2
  · replace h := uu_pos c4 h
    exact zb_X12_how_146 hK0 h
  · replace h := uu_neg c4 h
    by_cases c5 : 0 ≤ xs0
    · replace h := uu_pos c5 h
      exact zb_X12_how_146 hK0 h
    · replace h := uu_neg c5 h
      by_cases c6 : v2 = true
      · replace h := uu_pos c6 h
        exact zb_X12_how_146 hK0 h
      · replace h := uu_neg c6 h
        exact zb_X12_how_213 hK0 h
set_option maxRecDepth 100000 in
set_option maxHeartbeats 4000000 in
theorem zb_X12_how_79  {K0 : Int32 → uS → Option uS}  (hK0 : ∀ (x1 : Int32)  (s : uS) (r : uS), K0 x1 s = some r → agf [(1079, 30), (1079, 31), (1079, 32), (1079, 33), (1079, 34), (1079, 35), (1079, 37), (1079, 38), (1079, 39), (1079, 40), (1079, 61)] [1097, 1109, 1110, 1111, 1112, 1116, 1117] [] [] s r) {x1 : Int32} {xs0 : Int32} {s : uS} {r : uS}  (h : fb_X12_how_79  K0 x1 xs0 s = some r) : agf [(1079, 30), (1079, 31), (1079, 32), (1079, 33), (1079, 34), (1079, 35), (1079, 37), (1079, 38), (1079, 39), (1079, 40), (1079, 61)] [1097, 1109, 1110, 1111, 1112, 1116, 1117] [] [] s r := by
  unfold fb_X12_how_79 at h
  obtain ⟨v2, e3, h⟩ := uu_ob h
  by_cases c4 : v2 = true
  · replace h := uu_pos c4 h
    exact zb_X12_how_123 hK0 h
  · replace h := uu_neg c4 h
    obtain ⟨v6, e7, h⟩ := uu_ob h
    by_cases c8 : v6 = true
    · replace h := uu_pos c8 h
      exact zb_X12_how_123 hK0 h
    · replace h := uu_neg c8 h
      obtain ⟨v10, e11, h⟩ := uu_ob h
      by_cases c12 : v10 = true
      · replace h := uu_pos c12 h
        exact zb_X12_how_123 hK0 h
      · replace h := uu_neg c12 h
        exact zb_X12_how_123 hK0 h
set_option maxRecDepth 100000 in
set_option maxHeartbeats 4000000 in
theorem zb_X12_how_337     {x1 : Int32} {xs0 : Int32} {xs1 : Int32} {s : uS} {r : uS}  (h : fb_X12_how_337   x1 xs0 xs1 s = some r) : agf [(1079, 30), (1079, 31), (1079, 32), (1079, 33), (1079, 34), (1079, 35), (1079, 37), (1079, 38), (1079, 39), (1079, 40), (1079, 61)] [1097, 1109, 1110, 1111, 1112, 1116, 1117] [] [] s r := by
  unfold fb_X12_how_337 at h
  obtain ⟨s1, e2, h⟩ := uu_ob h
  refine (agf_iput e2 (Or.inl (by decide))).tr ?_
  obtain ⟨v3, e4, h⟩ := uu_ob h
  by_cases c5 : 0 ≤ v3
  · replace h := uu_pos c5 h
    obtain ⟨v6, e7, h⟩ := uu_ob h
    obtain ⟨s8, e9, h⟩ := uu_ob h
    refine (agf_iput e9 (Or.inl (by decide))).tr ?_
    have hr := Option.some.inj h
    subst hr
    exact agf.rf
  · replace h := uu_neg c5 h
    obtain ⟨s10, e11, h⟩ := uu_ob h
    refine (agf_iput e11 (Or.inl (by decide))).tr ?_
    have hr := Option.some.inj h
    subst hr
    exact agf.rf
set_option maxRecDepth 100000 in
set_option maxHeartbeats 4000000 in
theorem zb_X12_how_312     {x1 : Int32} {xs0 : Int32} {xs1 : Int32} {s : uS} {r : uS}  (h : fb_X12_how_312   x1 xs0 xs1 s = some r) : agf [(1079, 30), (1079, 31), (1079, 32), (1079, 33), (1079, 34), (1079, 35), (1079, 37), (1079, 38), (1079, 39), (1079, 40), (1079, 61)] [1097, 1109, 1110, 1111, 1112, 1116, 1117] [] [] s r := by
  unfold fb_X12_how_312 at h
  obtain ⟨s1, e2, h⟩ := uu_ob h
  refine (agf_iput e2 (Or.inl (by decide))).tr ?_
  obtain ⟨v3, e4, h⟩ := uu_ob h
  by_cases c5 : 0 ≤ v3
  · replace h := uu_pos c5 h
    obtain ⟨v6, e7, h⟩ := uu_ob h
    exact zb_X12_how_337  h
  · replace h := uu_neg c5 h
    exact zb_X12_how_337  h
set_option maxRecDepth 100000 in
set_option maxHeartbeats 4000000 in
theorem zb_X12_how_0  {K0 : Int32 → uS → Option uS}  (hK0 : ∀ (x1 : Int32)  (s : uS) (r : uS), K0 x1 s = some r → agf [(1079, 30), (1079, 31), (1079, 32), (1079, 33), (1079, 34), (1079, 35), (1079, 37), (1079, 38), (1079, 39), (1079, 40), (1079, 61)] [1097, 1109, 1110, 1111, 1112, 1116, 1117] [] [] s r) {x1 : Int32} {s : uS} {r : uS}  (h : fb_X12_how_0  K0 x1 s = some r) : agf [(1079, 30), (1079, 31), (1079, 32), (1079, 33), (1079, 34), (1079, 35), (1079, 37), (1079, 38), (1079, 39), (1079, 40), (1079, 61)] [1097, 1109, 1110, 1111, 1112, 1116, 1117] [] [] s r := by
  unfold fb_X12_how_0 at h
  obtain ⟨v1, e2, h⟩ := uu_ob h
  by_cases c3 : v1 = true
  · replace h := uu_pos c3 h
    obtain ⟨v5, e6, h⟩ := uu_ob h
    by_cases c7 : v5 = true
    · replace h := uu_pos c7 h
      exact zb_X12_how_79 hK0 h
    · replace h := uu_neg c7 h
      obtain ⟨v9, e10, h⟩ := uu_ob h
      by_cases c11 : v9 = true
      · replace h := uu_pos c11 h
        exact zb_X12_how_79 hK0 h
      · replace h := uu_neg c11 h
        obtain ⟨v13, e14, h⟩ := uu_ob h
        by_cases c15 : v13 = true
        · replace h := uu_pos c15 h
          exact zb_X12_how_79 hK0 h
        · replace h := uu_neg c15 h
          obtain ⟨v17, e18, h⟩ := uu_ob h
          by_cases c19 : v17 = true
          · replace h := uu_pos c19 h
            exact zb_X12_how_79 hK0 h
          · replace h := uu_neg c19 h
            obtain ⟨v21, e22, h⟩ := uu_ob h
            by_cases c23 : v21 = true
            · replace h := uu_pos c23 h
              exact zb_X12_how_79 hK0 h
            · replace h := uu_neg c23 h
              exact zb_X12_how_79 hK0 h
  · replace h := uu_neg c3 h
    obtain ⟨v24, e25, h⟩ := uu_ob h
    by_cases c26 : 0 ≤ v24
    · replace h := uu_pos c26 h
      obtain ⟨v27, e28, h⟩ := uu_ob h
      exact zb_X12_how_312  h
    · replace h := uu_neg c26 h
      exact zb_X12_how_312  h
set_option maxRecDepth 100000 in
set_option maxHeartbeats 4000000 in
theorem zn_X12_how_0     : ∀ (n : Nat) (x1 : Int32)  (s : uS) (r : uS), fn_X12_how_0   n x1 s = some r → agf [(1079, 30), (1079, 31), (1079, 32), (1079, 33), (1079, 34), (1079, 35), (1079, 37), (1079, 38), (1079, 39), (1079, 40), (1079, 61)] [1097, 1109, 1110, 1111, 1112, 1116, 1117] [] [] s r := by
  intro n
  induction n with
  | zero => intro x1  s r h
            cases h
  | succ n ih => intro x1  s r h
                 exact zb_X12_how_0  ih  h
set_option maxRecDepth 100000 in
set_option maxHeartbeats 4000000 in
theorem zc_X12_how   {x1 : Int32} {s : uS} {r : uS}  (h : fn_X12_how  x1 s = some r) : agf [(1079, 30), (1079, 31), (1079, 32), (1079, 33), (1079, 34), (1079, 35), (1079, 37), (1079, 38), (1079, 39), (1079, 40), (1079, 61)] [1097, 1109, 1110, 1111, 1112, 1116, 1117] [] [] s r := by
  unfold fn_X12_how at h
  exact zn_X12_how_0  _ _ _ _ h
set_option maxRecDepth 100000 in
set_option maxHeartbeats 4000000 in
theorem zb_X12_size_89     {x1 : Int32} {s : uS} {r : uS}  (h : fb_X12_size_89   x1 s = some r) : agf [(1079, 30), (1079, 31), (1079, 32), (1079, 33), (1079, 34), (1079, 35), (1079, 37), (1079, 38), (1079, 39), (1079, 40)] [1097, 1109, 1113] [] [] s r := by
  unfold fb_X12_size_89 at h
  obtain ⟨s1, e2, h⟩ := uu_ob h
  refine (agf_iput e2 (Or.inl (by decide))).tr ?_
  obtain ⟨s3, e4, h⟩ := uu_ob h
  refine ((zc_X12_next  e4).mo (by decide) (by decide) (by decide) (fun _ h => nomatch h)).tr ?_
  have hr := Option.some.inj h
  subst hr
  exact agf.rf
set_option maxRecDepth 100000 in
set_option maxHeartbeats 4000000 in
theorem zb_X12_size_68     {x1 : Int32} {bs0 : Bool} {xs1 : Int32} {s : uS} {r : uS}  (h : fb_X12_size_68   x1 bs0 xs1 s = some r) : agf [(1079, 30), (1079, 31), (1079, 32), (1079, 33), (1079, 34), (1079, 35), (1079, 37), (1079, 38), (1079, 39), (1079, 40)] [1097, 1109, 1113] [] [] s r := by
  unfold fb_X12_size_68 at h
  obtain ⟨s1, e2, h⟩ := uu_ob h
  refine (agf_iput e2 (Or.inl (by decide))).tr ?_
  obtain ⟨s3, e4, h⟩ := uu_ob h
  refine ((zc_X12_next  e4).mo (by decide) (by decide) (by decide) (fun _ h => nomatch h)).tr ?_
  obtain ⟨v5, e6, h⟩ := uu_ob h
  by_cases c7 : v5 = true
  · replace h := uu_pos c7 h
    exact zb_X12_size_89  h
  · replace h := uu_neg c7 h
    obtain ⟨s8, e9, h⟩ := uu_ob h
    refine ((zc_X12_fail  e9).mo (by decide) (by decide) (by decide) (fun _ h => nomatch h)).tr ?_
    exact zb_X12_size_89  h
set_option maxRecDepth 100000 in
set_option maxHeartbeats 4000000 in
theorem zb_X12_size_54     {x1 : Int32} {b2 : Bool} {s : uS} {r : uS}  (h : fb_X12_size_54   x1 b2 s = some r) : agf [(1079, 30), (1079, 31), (1079, 32), (1079, 33), (1079, 34), (1079, 35), (1079, 37), (1079, 38), (1079, 39), (1079, 40)] [1097, 1109, 1113] [] [] s r := by
  unfold fb_X12_size_54 at h
  by_cases c1 : b2 = true
  · replace h := uu_pos c1 h
    exact zb_X12_size_68  h
  · replace h := uu_neg c1 h
    exact zb_X12_size_68  h
set_option maxRecDepth 100000 in
set_option maxHeartbeats 4000000 in
theorem zb_X12_size_46     {x1 : Int32} {b2 : Bool} {s : uS} {r : uS}  (h : fb_X12_size_46   x1 b2 s = some r) : agf [(1079, 30), (1079, 31), (1079, 32), (1079, 33), (1079, 34), (1079, 35), (1079, 37), (1079, 38), (1079, 39), (1079, 40)] [1097, 1109, 1113] [] [] s r := by
  unfold fb_X12_size_46 at h
  obtain ⟨s1, e2, h⟩ := uu_ob h
  refine ((zc_X12_fail  e2).mo (by decide) (by decide) (by decide) (fun _ h => nomatch h)).tr ?_
  exact zb_X12_size_54  h
set_option maxRecDepth 100000 in
set_option maxHeartbeats 4000000 in
theorem zb_X12_size_23     {x1 : Int32} {bs0 : Bool} {s : uS} {r : uS}  (h : fb_X12_size_23   x1 bs0 s = some r) : agf [(1079, 30), (1079, 31), (1079, 32), (1079, 33), (1079, 34), (1079, 35), (1079, 37), (1079, 38), (1079, 39), (1079, 40)] [1097, 1109, 1113] [] [] s r := by
  unfold fb_X12_size_23 at h
  by_cases c1 : bs0 = true
  · replace h := uu_pos c1 h
    exact zb_X12_size_54  h
  · replace h := uu_neg c1 h
    obtain ⟨v2, e3, h⟩ := uu_ob h
    by_cases c4 : v2 = true
    · replace h := uu_pos c4 h
      obtain ⟨v6, e7, h⟩ := uu_ob h
      by_cases c8 : v6 = true
      · replace h := uu_pos c8 h
        exact zb_X12_size_54  h
      · replace h := uu_neg c8 h
        exact zb_X12_size_46  h
    · replace h := uu_neg c4 h
      exact zb_X12_size_46  h
set_option maxRecDepth 100000 in
set_option maxHeartbeats 4000000 in
theorem zc_X12_size   {x1 : Int32} {s : uS} {r : uS}  (h : fn_X12_size  x1 s = some r) : agf [(1079, 30), (1079, 31), (1079, 32), (1079, 33), (1079, 34), (1079, 35), (1079, 37), (1079, 38), (1079, 39), (1079, 40)] [1097, 1109, 1113] [] [] s r := by
  unfold fn_X12_size at h
  obtain ⟨v1, e2, h⟩ := uu_ob h
  by_cases c3 : v1 = true
  · replace h := uu_pos c3 h
    obtain ⟨v5, e6, h⟩ := uu_ob h
    by_cases c7 : v5 = true
    · replace h := uu_pos c7 h
      exact zb_X12_size_23  h
    · replace h := uu_neg c7 h
      exact zb_X12_size_23  h
  · replace h := uu_neg c3 h
    exact zb_X12_size_23  h
set_option maxRecDepth 100000 in
set_option maxHeartbeats 4000000 in
theorem zb_X12_require_140     {x2 : Int32} {s : uS} {r : uS}  (h : fb_X12_require_140   x2 s = some r) : agf [(1079, 30), (1079, 31), (1079, 40), (1079, 64)] [] [] [] s r := by
  unfold fb_X12_require_140 at h
  refine (agf_wI (a := 1079) (f := 64) (v := (s.I 1079 64) ||| x2) (Or.inl (by decide))).tr ?_
  have hr := Option.some.inj h
  subst hr
  exact agf.rf
set_option maxRecDepth 100000 in
set_option maxHeartbeats 4000000 in
theorem zb_X12_require_127     {xs0 : Int32} {s : uS} {r : uS}  (h : fb_X12_require_127   xs0 s = some r) : agf [(1079, 30), (1079, 31), (1079, 40), (1079, 64)] [] [] [] s r := by
  unfold fb_X12_require_127 at h
  by_cases c1 : xs0 = 0
  · replace h := uu_pos c1 h
    obtain ⟨s2, e3, h⟩ := uu_ob h
    refine ((zc_X12_fail  e3).mo (by decide) (by decide) (by decide) (fun _ h => nomatch h)).tr ?_
    exact zb_X12_require_140  h
  · replace h := uu_neg c1 h
    exact zb_X12_require_140  h
set_option maxRecDepth 100000 in
set_option maxHeartbeats 4000000 in
theorem zc_X12_require   {x1 : Int32} {s : uS} {r : uS}  (h : fn_X12_require  x1 s = some r) : agf [(1079, 30), (1079, 31), (1079, 40), (1079, 64)] [] [] [] s r := by
  unfold fn_X12_require at h
  obtain ⟨v2, e3, h⟩ := uu_ob h
  by_cases c4 : v2 = true
  · replace h := uu_pos c4 h
    exact zb_X12_require_127  h
  · replace h := uu_neg c4 h
    obtain ⟨v6, e7, h⟩ := uu_ob h
    by_cases c8 : v6 = true
    · replace h := uu_pos c8 h
      exact zb_X12_require_127  h
    · replace h := uu_neg c8 h
      obtain ⟨v10, e11, h⟩ := uu_ob h
      by_cases c12 : v10 = true
      · replace h := uu_pos c12 h
        exact zb_X12_require_127  h
      · replace h := uu_neg c12 h
        obtain ⟨v14, e15, h⟩ := uu_ob h
        by_cases c16 : v14 = true
        · replace h := uu_pos c16 h
          exact zb_X12_require_127  h
        · replace h := uu_neg c16 h
          obtain ⟨v18, e19, h⟩ := uu_ob h
          by_cases c20 : v18 = true
          · replace h := uu_pos c20 h
            exact zb_X12_require_127  h
          · replace h := uu_neg c20 h
            obtain ⟨v22, e23, h⟩ := uu_ob h
            by_cases c24 : v22 = true
            · replace h := uu_pos c24 h
              exact zb_X12_require_127  h
            · replace h := uu_neg c24 h
              obtain ⟨v26, e27, h⟩ := uu_ob h
              by_cases c28 : v26 = true
              · replace h := uu_pos c28 h
                exact zb_X12_require_127  h
              · replace h := uu_neg c28 h
                obtain ⟨v30, e31, h⟩ := uu_ob h
                by_cases c32 : v30 = true
                · replace h := uu_pos c32 h
                  exact zb_X12_require_127  h
                · replace h := uu_neg c32 h
                  exact zb_X12_require_127  h
set_option maxRecDepth 100000 in
set_option maxHeartbeats 4000000 in
theorem zb_X12_requires_113     {b1 : Bool} {s : uS} {r : uS}  (h : fb_X12_requires_113   b1 s = some r) : agf [(1079, 30), (1079, 31), (1079, 32), (1079, 33), (1079, 34), (1079, 35), (1079, 37), (1079, 38), (1079, 39), (1079, 40), (1079, 61), (1079, 64)] [1097, 1116, 1117] [] [] s r := by
  unfold fb_X12_requires_113 at h
  by_cases c1 : b1 = true
  · replace h := uu_pos c1 h
    obtain ⟨s2, e3, h⟩ := uu_ob h
    refine ((zc_X12_take  e3).mo (by decide) (by decide) (by decide) (fun _ h => nomatch h)).tr ?_
    have hr := Option.some.inj h
    subst hr
    exact agf.rf
  · replace h := uu_neg c1 h
    have hr := Option.some.inj h
    subst hr
    exact agf.rf
set_option maxRecDepth 100000 in
set_option maxHeartbeats 4000000 in
theorem zb_X12_requires_101  {K19 : Bool → Int32 → Bool → uS → Option uS}  (hK19 : ∀ (b1 : Bool) (x2 : Int32) (b3 : Bool)  (s : uS) (r : uS), K19 b1 x2 b3 s = some r → agf [(1079, 30), (1079, 31), (1079, 32), (1079, 33), (1079, 34), (1079, 35), (1079, 37), (1079, 38), (1079, 39), (1079, 40), (1079, 61), (1079, 64)] [1097, 1116, 1117] [] [] s r) {b1 : Bool} {x2 : Int32} {bs0 : Bool} {s : uS} {r : uS}  (h : fb_X12_requires_101  K19 b1 x2 bs0 s = some r) : agf [(1079, 30), (1079, 31), (1079, 32), (1079, 33), (1079, 34), (1079, 35), (1079, 37), (1079, 38), (1079, 39), (1079, 40), (1079, 61), (1079, 64)] [1097, 1116, 1117] [] [] s r := by
  unfold fb_X12_requires_101 at h
  by_cases c1 : bs0 = true
  · replace h := uu_pos c1 h
    obtain ⟨s2, e3, h⟩ := uu_ob h
    refine ((zc_X12_next  e3).mo (by decide) (by decide) (by decide) (fun _ h => nomatch h)).tr ?_
    exact hK19 b1 x2 bs0 _ _ h
  · replace h := uu_neg c1 h
    exact hK19 b1 x2 bs0 _ _ h
set_option maxRecDepth 100000 in
set_option maxHeartbeats 4000000 in
theorem zb_X12_requires_75  {K19 : Bool → Int32 → Bool → uS → Option uS}  (hK19 : ∀ (b1 : Bool) (x2 : Int32) (b3 : Bool)  (s : uS) (r : uS), K19 b1 x2 b3 s = some r → agf [(1079, 30), (1079, 31), (1079, 32), (1079, 33), (1079, 34), (1079, 35), (1079, 37), (1079, 38), (1079, 39), (1079, 40), (1079, 61), (1079, 64)] [1097, 1116, 1117] [] [] s r) {b1 : Bool} {x2 : Int32} {s : uS} {r : uS}  (h : fb_X12_requires_75  K19 b1 x2 s = some r) : agf [(1079, 30), (1079, 31), (1079, 32), (1079, 33), (1079, 34), (1079, 35), (1079, 37), (1079, 38), (1079, 39), (1079, 40), (1079, 61), (1079, 64)] [1097, 1116, 1117] [] [] s r := by
  unfold fb_X12_requires_75 at h
  obtain ⟨s1, e2, h⟩ := uu_ob h
  refine ((zc_X12_next  e2).mo (by decide) (by decide) (by decide) (fun _ h => nomatch h)).tr ?_
  by_cases c3 : b1 = true
  · replace h := uu_pos c3 h
    obtain ⟨v4, e5, h⟩ := uu_ob h
    by_cases c6 : v4 = true
    · replace h := uu_pos c6 h
      exact zb_X12_requires_101 hK19 h
    · replace h := uu_neg c6 h
      exact zb_X12_requires_101 hK19 h
  · replace h := uu_neg c3 h
    exact zb_X12_requires_101 hK19 h
set_option maxRecDepth 100000 in
set_option maxHeartbeats 4000000 in
theorem zb_X12_requires_56  {K19 : Bool → Int32 → Bool → uS → Option uS}  (hK19 : ∀ (b1 : Bool) (x2 : Int32) (b3 : Bool)  (s : uS) (r : uS), K19 b1 x2 b3 s = some r → agf [(1079, 30), (1079, 31), (1079, 32), (1079, 33), (1079, 34), (1079, 35), (1079, 37), (1079, 38), (1079, 39), (1079, 40), (1079, 61), (1079, 64)] [1097, 1116, 1117] [] [] s r) {b1 : Bool} {x2 : Int32} {s : uS} {r : uS}  (h : fb_X12_requires_56  K19 b1 x2 s = some r) : agf [(1079, 30), (1079, 31), (1079, 32), (1079, 33), (1079, 34), (1079, 35), (1079, 37), (1079, 38), (1079, 39), (1079, 40), (1079, 61), (1079, 64)] [1097, 1116, 1117] [] [] s r := by
  unfold fb_X12_requires_56 at h
  obtain ⟨r1, e2, h⟩ := uu_ob h
  refine ((zc_X12_string  e2).mo (by decide) (by decide) (by decide) (fun _ h => nomatch h)).tr ?_
  by_cases c3 : 0 ≤ (r1.1.I 1079 40)
  · replace h := uu_pos c3 h
    exact zb_X12_requires_75 hK19 h
  · replace h := uu_neg c3 h
    obtain ⟨s4, e5, h⟩ := uu_ob h
    refine ((zc_X12_require  e5).mo (by decide) (by decide) (by decide) (fun _ h => nomatch h)).tr ?_
    exact zb_X12_requires_75 hK19 h
set_option maxRecDepth 100000 in
set_option maxHeartbeats 4000000 in
theorem zb_X12_requires_19  {K19 : Bool → Int32 → Bool → uS → Option uS}  (hK19 : ∀ (b1 : Bool) (x2 : Int32) (b3 : Bool)  (s : uS) (r : uS), K19 b1 x2 b3 s = some r → agf [(1079, 30), (1079, 31), (1079, 32), (1079, 33), (1079, 34), (1079, 35), (1079, 37), (1079, 38), (1079, 39), (1079, 40), (1079, 61), (1079, 64)] [1097, 1116, 1117] [] [] s r) {b1 : Bool} {x2 : Int32} {b3 : Bool} {s : uS} {r : uS}  (h : fb_X12_requires_19  K19 b1 x2 b3 s = some r) : agf [(1079, 30), (1079, 31), (1079, 32), (1079, 33), (1079, 34), (1079, 35), (1079, 37), (1079, 38), (1079, 39), (1079, 40), (1079, 61), (1079, 64)] [1097, 1116, 1117] [] [] s r := by
  unfold fb_X12_requires_19 at h
  by_cases c1 : b3 = true
  · replace h := uu_pos c1 h
    by_cases c2 : 0 ≤ (s.I 1079 40)
    · replace h := uu_pos c2 h
      exact zb_X12_requires_113  h
    · replace h := uu_neg c2 h
      by_cases c3 : b1 = true
      · replace h := uu_pos c3 h
        obtain ⟨v4, e5, h⟩ := uu_ob h
        by_cases c6 : v4 = true
        · replace h := uu_pos c6 h
          by_cases c7 : x2 = 10
          · replace h := uu_pos c7 h
            obtain ⟨s8, e9, h⟩ := uu_ob h
            refine ((zc_X12_fail  e9).mo (by decide) (by decide) (by decide) (fun _ h => nomatch h)).tr ?_
            exact zb_X12_requires_56 hK19 h
          · replace h := uu_neg c7 h
            exact zb_X12_requires_56 hK19 h
        · replace h := uu_neg c6 h
          exact zb_X12_requires_56 hK19 h
      · replace h := uu_neg c3 h
        exact zb_X12_requires_56 hK19 h
  · replace h := uu_neg c1 h
    exact zb_X12_requires_113  h
set_option maxRecDepth 100000 in
set_option maxHeartbeats 4000000 in
theorem zn_X12_requires_19     : ∀ (n : Nat) (b1 : Bool) (x2 : Int32) (b3 : Bool)  (s : uS) (r : uS), fn_X12_requires_19   n b1 x2 b3 s = some r → agf [(1079, 30), (1079, 31), (1079, 32), (1079, 33), (1079, 34), (1079, 35), (1079, 37), (1079, 38), (1079, 39), (1079, 40), (1079, 61), (1079, 64)] [1097, 1116, 1117] [] [] s r := by
  intro n
  induction n with
  | zero => intro b1 x2 b3  s r h
            cases h
  | succ n ih => intro b1 x2 b3  s r h
                 exact zb_X12_requires_19  ih  h
set_option maxRecDepth 100000 in
set_option maxHeartbeats 4000000 in
theorem zc_X12_requires    {s : uS} {r : uS}  (h : fn_X12_requires   s = some r) : agf [(1079, 30), (1079, 31), (1079, 32), (1079, 33), (1079, 34), (1079, 35), (1079, 37), (1079, 38), (1079, 39), (1079, 40), (1079, 61), (1079, 64)] [1097, 1116, 1117] [] [] s r := by
  unfold fn_X12_requires at h
  obtain ⟨v1, e2, h⟩ := uu_ob h
  by_cases c3 : v1 = true
  · replace h := uu_pos c3 h
    obtain ⟨s4, e5, h⟩ := uu_ob h
    refine ((zc_X12_next  e5).mo (by decide) (by decide) (by decide) (fun _ h => nomatch h)).tr ?_
    exact zn_X12_requires_19  _ _ _ _ _ _ h
  · replace h := uu_neg c3 h
    exact zn_X12_requires_19  _ _ _ _ _ _ h
set_option maxRecDepth 100000 in
set_option maxHeartbeats 4000000 in
theorem zb_X12_tags_134  {K0 : Int32 → uS → Option uS}  (hK0 : ∀ (x1 : Int32)  (s : uS) (r : uS), K0 x1 s = some r → agf [(1079, 30), (1079, 31), (1079, 32), (1079, 33), (1079, 34), (1079, 35), (1079, 37), (1079, 38), (1079, 39), (1079, 40), (1079, 61)] [1097, 1106, 1107, 1108, 1116, 1117] [] [] s r) {x1 : Int32} {b2 : Bool} {s : uS} {r : uS}  (h : fb_X12_tags_134  K0 x1 b2 s = some r) : agf [(1079, 30), (1079, 31), (1079, 32), (1079, 33), (1079, 34), (1079, 35), (1079, 37), (1079, 38), (1079, 39), (1079, 40), (1079, 61)] [1097, 1106, 1107, 1108, 1116, 1117] [] [] s r := by
  unfold fb_X12_tags_134 at h
  by_cases c1 : b2 = true
  · replace h := uu_pos c1 h
    obtain ⟨s2, e3, h⟩ := uu_ob h
    refine (agf_iput e3 (Or.inl (by decide))).tr ?_
    obtain ⟨r4, e5, h⟩ := uu_ob h
    refine ((zc_X12_list  e5).mo (by decide) (by decide) (by decide) (fun _ h => nomatch h)).tr ?_
    obtain ⟨s6, e7, h⟩ := uu_ob h
    refine (agf_iput e7 (Or.inl (by decide))).tr ?_
    exact hK0 x1 _ _ h
  · replace h := uu_neg c1 h
    exact hK0 x1 _ _ h
set_option maxRecDepth 100000 in
set_option maxHeartbeats 4000000 in
theorem zb_X12_tags_116  {K0 : Int32 → uS → Option uS}  (hK0 : ∀ (x1 : Int32)  (s : uS) (r : uS), K0 x1 s = some r → agf [(1079, 30), (1079, 31), (1079, 32), (1079, 33), (1079, 34), (1079, 35), (1079, 37), (1079, 38), (1079, 39), (1079, 40), (1079, 61)] [1097, 1106, 1107, 1108, 1116, 1117] [] [] s r) {x1 : Int32} {b2 : Bool} {b3 : Bool} {xs0 : Int32} {s : uS} {r : uS}  (h : fb_X12_tags_116  K0 x1 b2 b3 xs0 s = some r) : agf [(1079, 30), (1079, 31), (1079, 32), (1079, 33), (1079, 34), (1079, 35), (1079, 37), (1079, 38), (1079, 39), (1079, 40), (1079, 61)] [1097, 1106, 1107, 1108, 1116, 1117] [] [] s r := by
  unfold fb_X12_tags_116 at h
  obtain ⟨s1, e2, h⟩ := uu_ob h
  refine ((zc_X12_needs  e2).mo (by decide) (by decide) (by decide) (fun _ h => nomatch h)).tr ?_
  obtain ⟨s3, e4, h⟩ := uu_ob h
  refine ((zc_X12_next  e4).mo (by decide) (by decide) (by decide) (fun _ h => nomatch h)).tr ?_
  by_cases c5 : b3 = true
  · replace h := uu_pos c5 h
    obtain ⟨s6, e7, h⟩ := uu_ob h
    refine (agf_iput e7 (Or.inl (by decide))).tr ?_
    exact zb_X12_tags_134 hK0 h
  · replace h := uu_neg c5 h
    exact zb_X12_tags_134 hK0 h
set_option maxRecDepth 100000 in
set_option maxHeartbeats 4000000 in
theorem zb_X12_tags_104  {K0 : Int32 → uS → Option uS}  (hK0 : ∀ (x1 : Int32)  (s : uS) (r : uS), K0 x1 s = some r → agf [(1079, 30), (1079, 31), (1079, 32), (1079, 33), (1079, 34), (1079, 35), (1079, 37), (1079, 38), (1079, 39), (1079, 40), (1079, 61)] [1097, 1106, 1107, 1108, 1116, 1117] [] [] s r) {x1 : Int32} {b2 : Bool} {b3 : Bool} {s : uS} {r : uS}  (h : fb_X12_tags_104  K0 x1 b2 b3 s = some r) : agf [(1079, 30), (1079, 31), (1079, 32), (1079, 33), (1079, 34), (1079, 35), (1079, 37), (1079, 38), (1079, 39), (1079, 40), (1079, 61)] [1097, 1106, 1107, 1108, 1116, 1117] [] [] s r := by
  unfold fb_X12_tags_104 at h
  by_cases c1 : b2 = true
  · replace h := uu_pos c1 h
    exact zb_X12_tags_116 hK0 h
  · replace h := uu_neg c1 h
    exact zb_X12_tags_116 hK0 h
set_option maxRecDepth 100000 in
set_option maxHeartbeats 4000000 in
theorem zb_X12_tags_96  {K0 : Int32 → uS → Option uS}  (hK0 : ∀ (x1 : Int32)  (s : uS) (r : uS), K0 x1 s = some r → agf [(1079, 30), (1079, 31), (1079, 32), (1079, 33), (1079, 34), (1079, 35), (1079, 37), (1079, 38), (1079, 39), (1079, 40), (1079, 61)] [1097, 1106, 1107, 1108, 1116, 1117] [] [] s r) {x1 : Int32} {b2 : Bool} {b3 : Bool} {s : uS} {r : uS}  (h : fb_X12_tags_96  K0 x1 b2 b3 s = some r) : agf [(1079, 30), (1079, 31), (1079, 32), (1079, 33), (1079, 34), (1079, 35), (1079, 37), (1079, 38), (1079, 39), (1079, 40), (1079, 61)] [1097, 1106, 1107, 1108, 1116, 1117] [] [] s r := by
  unfold fb_X12_tags_96 at h
  obtain ⟨s1, e2, h⟩ := uu_ob h
  refine ((zc_X12_fail  e2).mo (by decide) (by decide) (by decide) (fun _ h => nomatch h)).tr ?_
  exact zb_X12_tags_104 hK0 h
set_option maxRecDepth 100000 in
set_option maxHeartbeats 4000000 in
theorem zb_X12_tags_83  {K0 : Int32 → uS → Option uS}  (hK0 : ∀ (x1 : Int32)  (s : uS) (r : uS), K0 x1 s = some r → agf [(1079, 30), (1079, 31), (1079, 32), (1079, 33), (1079, 34), (1079, 35), (1079, 37), (1079, 38), (1079, 39), (1079, 40), (1079, 61)] [1097, 1106, 1107, 1108, 1116, 1117] [] [] s r) {x1 : Int32} {b2 : Bool} {b3 : Bool} {s : uS} {r : uS}  (h : fb_X12_tags_83  K0 x1 b2 b3 s = some r) : agf [(1079, 30), (1079, 31), (1079, 32), (1079, 33), (1079, 34), (1079, 35), (1079, 37), (1079, 38), (1079, 39), (1079, 40), (1079, 61)] [1097, 1106, 1107, 1108, 1116, 1117] [] [] s r := by
  unfold fb_X12_tags_83 at h
  by_cases c1 : b3 = true
  · replace h := uu_pos c1 h
    obtain ⟨v2, e3, h⟩ := uu_ob h
    by_cases c4 : v2 = 0
    · replace h := uu_pos c4 h
      exact zb_X12_tags_104 hK0 h
    · replace h := uu_neg c4 h
      exact zb_X12_tags_96 hK0 h
  · replace h := uu_neg c1 h
    exact zb_X12_tags_104 hK0 h
set_option maxRecDepth 100000 in
set_option maxHeartbeats 4000000 in
theorem zb_X12_tags_69  {K0 : Int32 → uS → Option uS}  (hK0 : ∀ (x1 : Int32)  (s : uS) (r : uS), K0 x1 s = some r → agf [(1079, 30), (1079, 31), (1079, 32), (1079, 33), (1079, 34), (1079, 35), (1079, 37), (1079, 38), (1079, 39), (1079, 40), (1079, 61)] [1097, 1106, 1107, 1108, 1116, 1117] [] [] s r) {x1 : Int32} {b2 : Bool} {b3 : Bool} {s : uS} {r : uS}  (h : fb_X12_tags_69  K0 x1 b2 b3 s = some r) : agf [(1079, 30), (1079, 31), (1079, 32), (1079, 33), (1079, 34), (1079, 35), (1079, 37), (1079, 38), (1079, 39), (1079, 40), (1079, 61)] [1097, 1106, 1107, 1108, 1116, 1117] [] [] s r := by
  unfold fb_X12_tags_69 at h
  by_cases c1 : b2 = true
  · replace h := uu_pos c1 h
    obtain ⟨v2, e3, h⟩ := uu_ob h
    by_cases c4 : v2 = (-1)
    · replace h := uu_pos c4 h
      exact zb_X12_tags_83 hK0 h
    · replace h := uu_neg c4 h
      exact zb_X12_tags_96 hK0 h
  · replace h := uu_neg c1 h
    exact zb_X12_tags_83 hK0 h
set_option maxRecDepth 100000 in
set_option maxHeartbeats 4000000 in
theorem zb_X12_tags_60  {K0 : Int32 → uS → Option uS}  (hK0 : ∀ (x1 : Int32)  (s : uS) (r : uS), K0 x1 s = some r → agf [(1079, 30), (1079, 31), (1079, 32), (1079, 33), (1079, 34), (1079, 35), (1079, 37), (1079, 38), (1079, 39), (1079, 40), (1079, 61)] [1097, 1106, 1107, 1108, 1116, 1117] [] [] s r) {x1 : Int32} {b2 : Bool} {bs0 : Bool} {s : uS} {r : uS}  (h : fb_X12_tags_60  K0 x1 b2 bs0 s = some r) : agf [(1079, 30), (1079, 31), (1079, 32), (1079, 33), (1079, 34), (1079, 35), (1079, 37), (1079, 38), (1079, 39), (1079, 40), (1079, 61)] [1097, 1106, 1107, 1108, 1116, 1117] [] [] s r := by
  unfold fb_X12_tags_60 at h
  by_cases c1 : b2 = true
  · replace h := uu_pos c1 h
    exact zb_X12_tags_69 hK0 h
  · replace h := uu_neg c1 h
    by_cases c2 : bs0 = true
    · replace h := uu_pos c2 h
      exact zb_X12_tags_69 hK0 h
    · replace h := uu_neg c2 h
      exact zb_X12_tags_96 hK0 h
set_option maxRecDepth 100000 in
set_option maxHeartbeats 4000000 in
theorem zb_X12_tags_34  {K0 : Int32 → uS → Option uS}  (hK0 : ∀ (x1 : Int32)  (s : uS) (r : uS), K0 x1 s = some r → agf [(1079, 30), (1079, 31), (1079, 32), (1079, 33), (1079, 34), (1079, 35), (1079, 37), (1079, 38), (1079, 39), (1079, 40), (1079, 61)] [1097, 1106, 1107, 1108, 1116, 1117] [] [] s r) {x1 : Int32} {bs0 : Bool} {s : uS} {r : uS}  (h : fb_X12_tags_34  K0 x1 bs0 s = some r) : agf [(1079, 30), (1079, 31), (1079, 32), (1079, 33), (1079, 34), (1079, 35), (1079, 37), (1079, 38), (1079, 39), (1079, 40), (1079, 61)] [1097, 1106, 1107, 1108, 1116, 1117] [] [] s r := by
  unfold fb_X12_tags_34 at h
  obtain ⟨v2, e3, h⟩ := uu_ob h
  by_cases c4 : v2 = true
  · replace h := uu_pos c4 h
    obtain ⟨v5, e6, h⟩ := uu_ob h
    by_cases c7 : v5 = 4
    · replace h := uu_pos c7 h
      exact zb_X12_tags_60 hK0 h
    · replace h := uu_neg c7 h
      exact zb_X12_tags_60 hK0 h
  · replace h := uu_neg c4 h
    exact zb_X12_tags_60 hK0 h
set_option maxRecDepth 100000 in
set_option maxHeartbeats 4000000 in
theorem zb_X12_tags_0  {K0 : Int32 → uS → Option uS}  (hK0 : ∀ (x1 : Int32)  (s : uS) (r : uS), K0 x1 s = some r → agf [(1079, 30), (1079, 31), (1079, 32), (1079, 33), (1079, 34), (1079, 35), (1079, 37), (1079, 38), (1079, 39), (1079, 40), (1079, 61)] [1097, 1106, 1107, 1108, 1116, 1117] [] [] s r) {x1 : Int32} {s : uS} {r : uS}  (h : fb_X12_tags_0  K0 x1 s = some r) : agf [(1079, 30), (1079, 31), (1079, 32), (1079, 33), (1079, 34), (1079, 35), (1079, 37), (1079, 38), (1079, 39), (1079, 40), (1079, 61)] [1097, 1106, 1107, 1108, 1116, 1117] [] [] s r := by
  unfold fb_X12_tags_0 at h
  obtain ⟨v1, e2, h⟩ := uu_ob h
  by_cases c3 : v1 = true
  · replace h := uu_pos c3 h
    obtain ⟨v5, e6, h⟩ := uu_ob h
    by_cases c7 : v5 = true
    · replace h := uu_pos c7 h
      obtain ⟨v8, e9, h⟩ := uu_ob h
      by_cases c10 : v8 = 6
      · replace h := uu_pos c10 h
        exact zb_X12_tags_34 hK0 h
      · replace h := uu_neg c10 h
        exact zb_X12_tags_34 hK0 h
    · replace h := uu_neg c7 h
      exact zb_X12_tags_34 hK0 h
  · replace h := uu_neg c3 h
    have hr := Option.some.inj h
    subst hr
    exact agf.rf
set_option maxRecDepth 100000 in
set_option maxHeartbeats 4000000 in
theorem zn_X12_tags_0     : ∀ (n : Nat) (x1 : Int32)  (s : uS) (r : uS), fn_X12_tags_0   n x1 s = some r → agf [(1079, 30), (1079, 31), (1079, 32), (1079, 33), (1079, 34), (1079, 35), (1079, 37), (1079, 38), (1079, 39), (1079, 40), (1079, 61)] [1097, 1106, 1107, 1108, 1116, 1117] [] [] s r := by
  intro n
  induction n with
  | zero => intro x1  s r h
            cases h
  | succ n ih => intro x1  s r h
                 exact zb_X12_tags_0  ih  h
set_option maxRecDepth 100000 in
set_option maxHeartbeats 4000000 in
theorem zc_X12_tags   {x1 : Int32} {s : uS} {r : uS}  (h : fn_X12_tags  x1 s = some r) : agf [(1079, 30), (1079, 31), (1079, 32), (1079, 33), (1079, 34), (1079, 35), (1079, 37), (1079, 38), (1079, 39), (1079, 40), (1079, 61)] [1097, 1106, 1107, 1108, 1116, 1117] [] [] s r := by
  unfold fn_X12_tags at h
  exact zn_X12_tags_0  _ _ _ _ h
set_option maxRecDepth 100000 in
set_option maxHeartbeats 4000000 in
theorem zb_X12_file_124     {x1 : Int32} {x2 : Int32} {s : uS} {r : uS}  (h : fb_X12_file_124   x1 x2 s = some r) : agf [(1079, 30), (1079, 31), (1079, 32), (1079, 33), (1079, 34), (1079, 35), (1079, 37), (1079, 38), (1079, 39), (1079, 40), (1079, 61)] [1097, 1102, 1116, 1117] [] [] s r := by
  unfold fb_X12_file_124 at h
  obtain ⟨s1, e2, h⟩ := uu_ob h
  refine (agf_iput e2 (Or.inl (by decide))).tr ?_
  obtain ⟨s3, e4, h⟩ := uu_ob h
  refine ((zc_X12_next  e4).mo (by decide) (by decide) (by decide) (fun _ h => nomatch h)).tr ?_
  have hr := Option.some.inj h
  subst hr
  exact agf.rf
set_option maxRecDepth 100000 in
set_option maxHeartbeats 4000000 in
theorem zb_X12_file_112     {x1 : Int32} {x2 : Int32} {b3 : Bool} {s : uS} {r : uS}  (h : fb_X12_file_112   x1 x2 b3 s = some r) : agf [(1079, 30), (1079, 31), (1079, 32), (1079, 33), (1079, 34), (1079, 35), (1079, 37), (1079, 38), (1079, 39), (1079, 40), (1079, 61)] [1097, 1102, 1116, 1117] [] [] s r := by
  unfold fb_X12_file_112 at h
  by_cases c1 : b3 = true
  · replace h := uu_pos c1 h
    exact zb_X12_file_124  h
  · replace h := uu_neg c1 h
    obtain ⟨s2, e3, h⟩ := uu_ob h
    refine ((zc_X12_fail  e3).mo (by decide) (by decide) (by decide) (fun _ h => nomatch h)).tr ?_
    exact zb_X12_file_124  h
set_option maxRecDepth 100000 in
set_option maxHeartbeats 4000000 in
theorem zb_X12_file_41  {K41 : Int32 → Int32 → Bool → Int32 → uS → Option uS}  (hK41 : ∀ (x1 : Int32) (x2 : Int32) (b3 : Bool) (x4 : Int32)  (s : uS) (r : uS), K41 x1 x2 b3 x4 s = some r → agf [(1079, 30), (1079, 31), (1079, 32), (1079, 33), (1079, 34), (1079, 35), (1079, 37), (1079, 38), (1079, 39), (1079, 40), (1079, 61)] [1097, 1102, 1116, 1117] [] [] s r) {x1 : Int32} {x2 : Int32} {b3 : Bool} {x4 : Int32} {s : uS} {r : uS}  (h : fb_X12_file_41  K41 x1 x2 b3 x4 s = some r) : agf [(1079, 30), (1079, 31), (1079, 32), (1079, 33), (1079, 34), (1079, 35), (1079, 37), (1079, 38), (1079, 39), (1079, 40), (1079, 61)] [1097, 1102, 1116, 1117] [] [] s r := by
  unfold fb_X12_file_41 at h
  by_cases c1 : 0 ≤ (s.I 1079 40)
  · replace h := uu_pos c1 h
    exact zb_X12_file_112  h
  · replace h := uu_neg c1 h
    by_cases c2 : b3 = true
    · replace h := uu_pos c2 h
      obtain ⟨v3, e4, h⟩ := uu_ob h
      by_cases c5 : v3 ≤ x4
      · replace h := uu_pos c5 h
        exact zb_X12_file_112  h
      · replace h := uu_neg c5 h
        obtain ⟨v6, e7, h⟩ := uu_ob h
        obtain ⟨v8, e9, h⟩ := uu_ob h
        by_cases c10 : v8 < 32
        · replace h := uu_pos c10 h
          exact hK41 x1 x2 false (x4 + 1) _ _ h
        · replace h := uu_neg c10 h
          by_cases c11 : (127 : Int32) ≤ v8
          · replace h := uu_pos c11 h
            exact hK41 x1 x2 false (x4 + 1) _ _ h
          · replace h := uu_neg c11 h
            by_cases c12 : v8 = 34
            · replace h := uu_pos c12 h
              exact hK41 x1 x2 false (x4 + 1) _ _ h
            · replace h := uu_neg c12 h
              exact hK41 x1 x2 true (x4 + 1) _ _ h
    · replace h := uu_neg c2 h
      exact zb_X12_file_112  h
set_option maxRecDepth 100000 in
set_option maxHeartbeats 4000000 in
theorem zn_X12_file_41     : ∀ (n : Nat) (x1 : Int32) (x2 : Int32) (b3 : Bool) (x4 : Int32)  (s : uS) (r : uS), fn_X12_file_41   n x1 x2 b3 x4 s = some r → agf [(1079, 30), (1079, 31), (1079, 32), (1079, 33), (1079, 34), (1079, 35), (1079, 37), (1079, 38), (1079, 39), (1079, 40), (1079, 61)] [1097, 1102, 1116, 1117] [] [] s r := by
  intro n
  induction n with
  | zero => intro x1 x2 b3 x4  s r h
            cases h
  | succ n ih => intro x1 x2 b3 x4  s r h
                 exact zb_X12_file_41  ih  h
set_option maxRecDepth 100000 in
set_option maxHeartbeats 4000000 in
theorem zc_X12_file   {x1 : Int32} {s : uS} {r : uS}  (h : fn_X12_file  x1 s = some r) : agf [(1079, 30), (1079, 31), (1079, 32), (1079, 33), (1079, 34), (1079, 35), (1079, 37), (1079, 38), (1079, 39), (1079, 40), (1079, 61)] [1097, 1102, 1116, 1117] [] [] s r := by
  unfold fn_X12_file at h
  obtain ⟨r1, e2, h⟩ := uu_ob h
  refine ((zc_X12_string  e2).mo (by decide) (by decide) (by decide) (fun _ h => nomatch h)).tr ?_
  by_cases c3 : 0 ≤ (r1.1.I 1079 40)
  · replace h := uu_pos c3 h
    exact zn_X12_file_41  _ _ _ _ _ _ _ h
  · replace h := uu_neg c3 h
    obtain ⟨v4, e5, h⟩ := uu_ob h
    by_cases c6 : v4 ≤ 0
    · replace h := uu_pos c6 h
      exact zn_X12_file_41  _ _ _ _ _ _ _ h
    · replace h := uu_neg c6 h
      obtain ⟨v7, e8, h⟩ := uu_ob h
      by_cases c9 : (20 : Int32) < v7
      · replace h := uu_pos c9 h
        exact zn_X12_file_41  _ _ _ _ _ _ _ h
      · replace h := uu_neg c9 h
        exact zn_X12_file_41  _ _ _ _ _ _ _ h
set_option maxRecDepth 100000 in
set_option maxHeartbeats 4000000 in
theorem zb_X12_redirect_39     {x1 : Int32} {x2 : Int32} {s : uS} {r : uS}  (h : fb_X12_redirect_39   x1 x2 s = some r) : agf [(1079, 21), (1079, 30), (1079, 31), (1079, 32), (1079, 33), (1079, 34), (1079, 35), (1079, 37), (1079, 38), (1079, 39), (1079, 40), (1079, 61)] [1093, 1097, 1102, 1116, 1117] [] [] s r := by
  unfold fb_X12_redirect_39 at h
  obtain ⟨s1, e2, h⟩ := uu_ob h
  refine (agf_iput e2 (Or.inl (by decide))).tr ?_
  obtain ⟨s3, e4, h⟩ := uu_ob h
  refine ((zc_X12_next  e4).mo (by decide) (by decide) (by decide) (fun _ h => nomatch h)).tr ?_
  have hr := Option.some.inj h
  subst hr
  exact agf.rf
set_option maxRecDepth 100000 in
set_option maxHeartbeats 4000000 in
theorem zb_X12_redirect_17     {x1 : Int32} {x2 : Int32} {s : uS} {r : uS}  (h : fb_X12_redirect_17   x1 x2 s = some r) : agf [(1079, 21), (1079, 30), (1079, 31), (1079, 32), (1079, 33), (1079, 34), (1079, 35), (1079, 37), (1079, 38), (1079, 39), (1079, 40), (1079, 61)] [1093, 1097, 1102, 1116, 1117] [] [] s r := by
  unfold fb_X12_redirect_17 at h
  by_cases c1 : 0 ≤ (s.I 1079 40)
  · replace h := uu_pos c1 h
    exact zb_X12_redirect_39  h
  · replace h := uu_neg c1 h
    obtain ⟨v2, e3, h⟩ := uu_ob h
    by_cases c4 : 0 ≤ v2
    · replace h := uu_pos c4 h
      exact zb_X12_redirect_39  h
    · replace h := uu_neg c4 h
      obtain ⟨s5, e6, h⟩ := uu_ob h
      refine ((zc_X12_fail  e6).mo (by decide) (by decide) (by decide) (fun _ h => nomatch h)).tr ?_
      exact zb_X12_redirect_39  h
set_option maxRecDepth 100000 in
set_option maxHeartbeats 4000000 in
theorem zc_X12_redirect   {x1 : Int32} {s : uS} {r : uS}  (h : fn_X12_redirect  x1 s = some r) : agf [(1079, 21), (1079, 30), (1079, 31), (1079, 32), (1079, 33), (1079, 34), (1079, 35), (1079, 37), (1079, 38), (1079, 39), (1079, 40), (1079, 61)] [1093, 1097, 1102, 1116, 1117] [] [] s r := by
  unfold fn_X12_redirect at h
  obtain ⟨r1, e2, h⟩ := uu_ob h
  refine ((zc_X12_string  e2).mo (by decide) (by decide) (by decide) (fun _ h => nomatch h)).tr ?_
  by_cases c3 : 0 ≤ (r1.1.I 1079 40)
  · replace h := uu_pos c3 h
    exact zb_X12_redirect_17  h
  · replace h := uu_neg c3 h
    obtain ⟨s4, e5, h⟩ := uu_ob h
    refine ((zc_X12_oneString  e5).mo (by decide) (by decide) (by decide) (fun _ h => nomatch h)).tr ?_
    exact zb_X12_redirect_17  h
set_option maxRecDepth 100000 in
set_option maxHeartbeats 4000000 in
theorem zb_X12_absence_176  {K14 : Int32 → uS → Option uS}  (hK14 : ∀ (x1 : Int32)  (s : uS) (r : uS), K14 x1 s = some r → agf [(1079, 30), (1079, 31), (1079, 32), (1079, 33), (1079, 34), (1079, 35), (1079, 37), (1079, 38), (1079, 39), (1079, 40), (1079, 61)] [1097, 1102, 1104, 1105, 1113, 1114, 1115, 1116, 1117] [] [] s r) {x1 : Int32} {s : uS} {r : uS}  (h : fb_X12_absence_176  K14 x1 s = some r) : agf [(1079, 30), (1079, 31), (1079, 32), (1079, 33), (1079, 34), (1079, 35), (1079, 37), (1079, 38), (1079, 39), (1079, 40), (1079, 61)] [1097, 1102, 1104, 1105, 1113, 1114, 1115, 1116, 1117] [] [] s r := by
  unfold fb_X12_absence_176 at h
  obtain ⟨s1, e2, h⟩ := uu_ob h
  refine (agf_iput e2 (Or.inl (by decide))).tr ?_
  obtain ⟨s3, e4, h⟩ := uu_ob h
  refine ((zc_X12_next  e4).mo (by decide) (by decide) (by decide) (fun _ h => nomatch h)).tr ?_
  exact hK14 x1 _ _ h
set_option maxRecDepth 100000 in
set_option maxHeartbeats 4000000 in
theorem zb_X12_absence_152  {K14 : Int32 → uS → Option uS}  (hK14 : ∀ (x1 : Int32)  (s : uS) (r : uS), K14 x1 s = some r → agf [(1079, 30), (1079, 31), (1079, 32), (1079, 33), (1079, 34), (1079, 35), (1079, 37), (1079, 38), (1079, 39), (1079, 40), (1079, 61)] [1097, 1102, 1104, 1105, 1113, 1114, 1115, 1116, 1117] [] [] s r) {x1 : Int32} {b2 : Bool} {b3 : Bool} {b5 : Bool} {s : uS} {r : uS}  (h : fb_X12_absence_152  K14 x1 b2 b3 b5 s = some r) : agf [(1079, 30), (1079, 31), (1079, 32), (1079, 33), (1079, 34), (1079, 35), (1079, 37), (1079, 38), (1079, 39), (1079, 40), (1079, 61)] [1097, 1102, 1104, 1105, 1113, 1114, 1115, 1116, 1117] [] [] s r := by
  unfold fb_X12_absence_152 at h
  obtain ⟨s1, e2, h⟩ := uu_ob h
  refine ((zc_X12_next  e2).mo (by decide) (by decide) (by decide) (fun _ h => nomatch h)).tr ?_
  by_cases c3 : b2 = true
  · replace h := uu_pos c3 h
    obtain ⟨v4, e5, h⟩ := uu_ob h
    by_cases c6 : v4 = true
    · replace h := uu_pos c6 h
      exact zb_X12_absence_176 hK14 h
    · replace h := uu_neg c6 h
      obtain ⟨s7, e8, h⟩ := uu_ob h
      refine ((zc_X12_fail  e8).mo (by decide) (by decide) (by decide) (fun _ h => nomatch h)).tr ?_
      exact zb_X12_absence_176 hK14 h
  · replace h := uu_neg c3 h
    by_cases c9 : b3 = true
    · replace h := uu_pos c9 h
      obtain ⟨r10, e11, h⟩ := uu_ob h
      refine ((zc_X12_taken  e11).mo (by decide) (by decide) (by decide) (fun _ h => nomatch h)).tr ?_
      obtain ⟨s12, e13, h⟩ := uu_ob h
      refine (agf_iput e13 (Or.inl (by decide))).tr ?_
      exact hK14 x1 _ _ h
    · replace h := uu_neg c9 h
      by_cases c14 : b5 = true
      · replace h := uu_pos c14 h
        obtain ⟨r15, e16, h⟩ := uu_ob h
        refine ((zc_X12_taken  e16).mo (by decide) (by decide) (by decide) (fun _ h => nomatch h)).tr ?_
        obtain ⟨s17, e18, h⟩ := uu_ob h
        refine (agf_iput e18 (Or.inl (by decide))).tr ?_
        exact hK14 x1 _ _ h
      · replace h := uu_neg c14 h
        obtain ⟨s19, e20, h⟩ := uu_ob h
        refine (agf_iput e20 (Or.inl (by decide))).tr ?_
        obtain ⟨r21, e22, h⟩ := uu_ob h
        refine ((zc_X12_list  e22).mo (by decide) (by decide) (by decide) (fun _ h => nomatch h)).tr ?_
        obtain ⟨s23, e24, h⟩ := uu_ob h
        refine (agf_iput e24 (Or.inl (by decide))).tr ?_
        exact hK14 x1 _ _ h
set_option maxRecDepth 100000 in
set_option maxHeartbeats 4000000 in
theorem zb_X12_absence_144  {K14 : Int32 → uS → Option uS}  (hK14 : ∀ (x1 : Int32)  (s : uS) (r : uS), K14 x1 s = some r → agf [(1079, 30), (1079, 31), (1079, 32), (1079, 33), (1079, 34), (1079, 35), (1079, 37), (1079, 38), (1079, 39), (1079, 40), (1079, 61)] [1097, 1102, 1104, 1105, 1113, 1114, 1115, 1116, 1117] [] [] s r) {x1 : Int32} {b2 : Bool} {b3 : Bool} {b5 : Bool} {s : uS} {r : uS}  (h : fb_X12_absence_144  K14 x1 b2 b3 b5 s = some r) : agf [(1079, 30), (1079, 31), (1079, 32), (1079, 33), (1079, 34), (1079, 35), (1079, 37), (1079, 38), (1079, 39), (1079, 40), (1079, 61)] [1097, 1102, 1104, 1105, 1113, 1114, 1115, 1116, 1117] [] [] s r := by
  unfold fb_X12_absence_144 at h
  obtain ⟨s1, e2, h⟩ := uu_ob h
  refine ((zc_X12_fail  e2).mo (by decide) (by decide) (by decide) (fun _ h => nomatch h)).tr ?_
  exact zb_X12_absence_152 hK14 h
set_option maxRecDepth 100000 in
set_option maxHeartbeats 4000000 in
theorem zb_X12_absence_119  {K14 : Int32 → uS → Option uS}  (hK14 : ∀ (x1 : Int32)  (s : uS) (r : uS), K14 x1 s = some r → agf [(1079, 30), (1079, 31), (1079, 32), (1079, 33), (1079, 34), (1079, 35), (1079, 37), (1079, 38), (1079, 39), (1079, 40), (1079, 61)] [1097, 1102, 1104, 1105, 1113, 1114, 1115, 1116, 1117] [] [] s r) {x1 : Int32} {b2 : Bool} {b3 : Bool} {b4 : Bool} {b5 : Bool} {bs0 : Bool} {s : uS} {r : uS}  (h : fb_X12_absence_119  K14 x1 b2 b3 b4 b5 bs0 s = some r) : agf [(1079, 30), (1079, 31), (1079, 32), (1079, 33), (1079, 34), (1079, 35), (1079, 37), (1079, 38), (1079, 39), (1079, 40), (1079, 61)] [1097, 1102, 1104, 1105, 1113, 1114, 1115, 1116, 1117] [] [] s r := by
  unfold fb_X12_absence_119 at h
  by_cases c1 : bs0 = true
  · replace h := uu_pos c1 h
    exact zb_X12_absence_144 hK14 h
  · replace h := uu_neg c1 h
    by_cases c2 : b2 = true
    · replace h := uu_pos c2 h
      exact zb_X12_absence_152 hK14 h
    · replace h := uu_neg c2 h
      by_cases c3 : b3 = true
      · replace h := uu_pos c3 h
        exact zb_X12_absence_152 hK14 h
      · replace h := uu_neg c3 h
        by_cases c4 : b4 = true
        · replace h := uu_pos c4 h
          exact zb_X12_absence_152 hK14 h
        · replace h := uu_neg c4 h
          by_cases c5 : b5 = true
          · replace h := uu_pos c5 h
            exact zb_X12_absence_152 hK14 h
          · replace h := uu_neg c5 h
            exact zb_X12_absence_144 hK14 h
set_option maxRecDepth 100000 in
set_option maxHeartbeats 4000000 in
theorem zb_X12_absence_99  {K14 : Int32 → uS → Option uS}  (hK14 : ∀ (x1 : Int32)  (s : uS) (r : uS), K14 x1 s = some r → agf [(1079, 30), (1079, 31), (1079, 32), (1079, 33), (1079, 34), (1079, 35), (1079, 37), (1079, 38), (1079, 39), (1079, 40), (1079, 61)] [1097, 1102, 1104, 1105, 1113, 1114, 1115, 1116, 1117] [] [] s r) {x1 : Int32} {b2 : Bool} {b3 : Bool} {b4 : Bool} {b5 : Bool} {s : uS} {r : uS}  (h : fb_X12_absence_99  K14 x1 b2 b3 b4 b5 s = some r) : agf [(1079, 30), (1079, 31), (1079, 32), (1079, 33), (1079, 34), (1079, 35), (1079, 37), (1079, 38), (1079, 39), (1079, 40), (1079, 61)] [1097, 1102, 1104, 1105, 1113, 1114, 1115, 1116, 1117] [] [] s r := by
  unfold fb_X12_absence_99 at h
  by_cases c1 : b5 = true
  · replace h := uu_pos c1 h
    obtain ⟨v2, e3, h⟩ := uu_ob h
    by_cases c4 : v2 = (-1)
    · replace h := uu_pos c4 h
      exact zb_X12_absence_119 hK14 h
    · replace h := uu_neg c4 h
      exact zb_X12_absence_119 hK14 h
  · replace h := uu_neg c1 h
    exact zb_X12_absence_119 hK14 h
set_option maxRecDepth 100000 in
set_option maxHeartbeats 4000000 in
theorem zb_X12_absence_84  {K14 : Int32 → uS → Option uS}  (hK14 : ∀ (x1 : Int32)  (s : uS) (r : uS), K14 x1 s = some r → agf [(1079, 30), (1079, 31), (1079, 32), (1079, 33), (1079, 34), (1079, 35), (1079, 37), (1079, 38), (1079, 39), (1079, 40), (1079, 61)] [1097, 1102, 1104, 1105, 1113, 1114, 1115, 1116, 1117] [] [] s r) {x1 : Int32} {b2 : Bool} {b3 : Bool} {b4 : Bool} {b5 : Bool} {s : uS} {r : uS}  (h : fb_X12_absence_84  K14 x1 b2 b3 b4 b5 s = some r) : agf [(1079, 30), (1079, 31), (1079, 32), (1079, 33), (1079, 34), (1079, 35), (1079, 37), (1079, 38), (1079, 39), (1079, 40), (1079, 61)] [1097, 1102, 1104, 1105, 1113, 1114, 1115, 1116, 1117] [] [] s r := by
  unfold fb_X12_absence_84 at h
  by_cases c1 : b4 = true
  · replace h := uu_pos c1 h
    obtain ⟨v2, e3, h⟩ := uu_ob h
    by_cases c4 : v2 = (-1)
    · replace h := uu_pos c4 h
      exact zb_X12_absence_99 hK14 h
    · replace h := uu_neg c4 h
      exact zb_X12_absence_119 hK14 h
  · replace h := uu_neg c1 h
    exact zb_X12_absence_99 hK14 h
set_option maxRecDepth 100000 in
set_option maxHeartbeats 4000000 in
theorem zb_X12_absence_70  {K14 : Int32 → uS → Option uS}  (hK14 : ∀ (x1 : Int32)  (s : uS) (r : uS), K14 x1 s = some r → agf [(1079, 30), (1079, 31), (1079, 32), (1079, 33), (1079, 34), (1079, 35), (1079, 37), (1079, 38), (1079, 39), (1079, 40), (1079, 61)] [1097, 1102, 1104, 1105, 1113, 1114, 1115, 1116, 1117] [] [] s r) {x1 : Int32} {b2 : Bool} {b3 : Bool} {b4 : Bool} {b5 : Bool} {s : uS} {r : uS}  (h : fb_X12_absence_70  K14 x1 b2 b3 b4 b5 s = some r) : agf [(1079, 30), (1079, 31), (1079, 32), (1079, 33), (1079, 34), (1079, 35), (1079, 37), (1079, 38), (1079, 39), (1079, 40), (1079, 61)] [1097, 1102, 1104, 1105, 1113, 1114, 1115, 1116, 1117] [] [] s r := by
  unfold fb_X12_absence_70 at h
  by_cases c1 : b3 = true
  · replace h := uu_pos c1 h
    obtain ⟨v2, e3, h⟩ := uu_ob h
    by_cases c4 : v2 = (-1)
    · replace h := uu_pos c4 h
      exact zb_X12_absence_84 hK14 h
    · replace h := uu_neg c4 h
      exact zb_X12_absence_119 hK14 h
  · replace h := uu_neg c1 h
    exact zb_X12_absence_84 hK14 h
set_option maxRecDepth 100000 in
set_option maxHeartbeats 4000000 in
theorem zb_X12_absence_14  {K14 : Int32 → uS → Option uS}  (hK14 : ∀ (x1 : Int32)  (s : uS) (r : uS), K14 x1 s = some r → agf [(1079, 30), (1079, 31), (1079, 32), (1079, 33), (1079, 34), (1079, 35), (1079, 37), (1079, 38), (1079, 39), (1079, 40), (1079, 61)] [1097, 1102, 1104, 1105, 1113, 1114, 1115, 1116, 1117] [] [] s r) {x1 : Int32} {s : uS} {r : uS}  (h : fb_X12_absence_14  K14 x1 s = some r) : agf [(1079, 30), (1079, 31), (1079, 32), (1079, 33), (1079, 34), (1079, 35), (1079, 37), (1079, 38), (1079, 39), (1079, 40), (1079, 61)] [1097, 1102, 1104, 1105, 1113, 1114, 1115, 1116, 1117] [] [] s r := by
  unfold fb_X12_absence_14 at h
  obtain ⟨v1, e2, h⟩ := uu_ob h
  by_cases c3 : v1 = true
  · replace h := uu_pos c3 h
    obtain ⟨v5, e6, h⟩ := uu_ob h
    obtain ⟨v8, e9, h⟩ := uu_ob h
    obtain ⟨v11, e12, h⟩ := uu_ob h
    obtain ⟨v14, e15, h⟩ := uu_ob h
    by_cases c16 : v5 = true
    · replace h := uu_pos c16 h
      obtain ⟨v17, e18, h⟩ := uu_ob h
      by_cases c19 : v17 = (-1)
      · replace h := uu_pos c19 h
        exact zb_X12_absence_70 hK14 h
      · replace h := uu_neg c19 h
        exact zb_X12_absence_119 hK14 h
    · replace h := uu_neg c16 h
      exact zb_X12_absence_70 hK14 h
  · replace h := uu_neg c3 h
    obtain ⟨r20, e21, h⟩ := uu_ob h
    refine ((zc_X12_taken  e21).mo (by decide) (by decide) (by decide) (fun _ h => nomatch h)).tr ?_
    obtain ⟨s22, e23, h⟩ := uu_ob h
    refine (agf_iput e23 (Or.inl (by decide))).tr ?_
    have hr := Option.some.inj h
    subst hr
    exact agf.rf
set_option maxRecDepth 100000 in
set_option maxHeartbeats 4000000 in
theorem zn_X12_absence_14     : ∀ (n : Nat) (x1 : Int32)  (s : uS) (r : uS), fn_X12_absence_14   n x1 s = some r → agf [(1079, 30), (1079, 31), (1079, 32), (1079, 33), (1079, 34), (1079, 35), (1079, 37), (1079, 38), (1079, 39), (1079, 40), (1079, 61)] [1097, 1102, 1104, 1105, 1113, 1114, 1115, 1116, 1117] [] [] s r := by
  intro n
  induction n with
  | zero => intro x1  s r h
            cases h
  | succ n ih => intro x1  s r h
                 exact zb_X12_absence_14  ih  h
set_option maxRecDepth 100000 in
set_option maxHeartbeats 4000000 in
theorem zc_X12_absence   {x1 : Int32} {s : uS} {r : uS}  (h : fn_X12_absence  x1 s = some r) : agf [(1079, 30), (1079, 31), (1079, 32), (1079, 33), (1079, 34), (1079, 35), (1079, 37), (1079, 38), (1079, 39), (1079, 40), (1079, 61)] [1097, 1102, 1104, 1105, 1113, 1114, 1115, 1116, 1117] [] [] s r := by
  unfold fn_X12_absence at h
  obtain ⟨s1, e2, h⟩ := uu_ob h
  refine (agf_iput e2 (Or.inl (by decide))).tr ?_
  obtain ⟨s3, e4, h⟩ := uu_ob h
  refine (agf_iput e4 (Or.inl (by decide))).tr ?_
  exact zn_X12_absence_14  _ _ _ _ h
set_option maxRecDepth 100000 in
set_option maxHeartbeats 4000000 in
theorem zc_X12_store   {x1 : Int32} {s : uS} {r : uS}  (h : fn_X12_store  x1 s = some r) : agf [(1079, 69)] [1118] [] [] s r := by
  unfold fn_X12_store at h
  obtain ⟨v1, e2, h⟩ := uu_ob h
  obtain ⟨s3, e4, h⟩ := uu_ob h
  refine (agf_lput e4 (Or.inl (by decide))).tr ?_
  refine (agf_wI (a := 1079) (f := 69) (v := (s3.I 1079 69) + 1) (Or.inl (by decide))).tr ?_
  have hr := Option.some.inj h
  subst hr
  exact agf.rf
set_option maxRecDepth 100000 in
set_option maxHeartbeats 4000000 in
theorem zc_X12_beginMail   {x1 : Int32} {x2 : Int32} {x3 : Int32} {s : uS} {r : (uS × Int32)}  (h : fn_X12_beginMail  x1 x2 x3 s = some r) : agf [(1079, 70)] [1119, 1120, 1121, 1122, 1123] [] [] s r.1 := by
  unfold fn_X12_beginMail at h
  obtain ⟨s1, e2, h⟩ := uu_ob h
  refine (agf_iput e2 (Or.inl (by decide))).tr ?_
  obtain ⟨s3, e4, h⟩ := uu_ob h
  refine (agf_iput e4 (Or.inl (by decide))).tr ?_
  obtain ⟨s5, e6, h⟩ := uu_ob h
  refine (agf_iput e6 (Or.inl (by decide))).tr ?_
  obtain ⟨s7, e8, h⟩ := uu_ob h
  refine (agf_iput e8 (Or.inl (by decide))).tr ?_
  obtain ⟨s9, e10, h⟩ := uu_ob h
  refine (agf_iput e10 (Or.inl (by decide))).tr ?_
  by_cases c11 : (4 : Int32) ≤ x1
  · replace h := uu_pos c11 h
    have hr := Option.some.inj h
    subst hr
    exact agf.rf
  · replace h := uu_neg c11 h
    refine (agf_wI (a := 1079) (f := 70) (v := (s9.I 1079 70) + 1) (Or.inl (by decide))).tr ?_
    have hr := Option.some.inj h
    subst hr
    exact agf.rf
set_option maxRecDepth 100000 in
set_option maxHeartbeats 4000000 in
theorem zb_X12_setHandle_49     {x1 : Int32} {x3 : Int32} {x4 : Int32} {x5 : Int32} {ls0 : Int64} {s : uS} {r : uS}  (h : fb_X12_setHandle_49   x1 x3 x4 x5 ls0 s = some r) : agf [] [1133, 1134] [] [] s r := by
  unfold fb_X12_setHandle_49 at h
  by_cases c1 : (80 : Int32) ≤ x1
  · replace h := uu_pos c1 h
    obtain ⟨s2, e3, h⟩ := uu_ob h
    refine (agf_lput e3 (Or.inl (by decide))).tr ?_
    have hr := Option.some.inj h
    subst hr
    exact agf.rf
  · replace h := uu_neg c1 h
    obtain ⟨s4, e5, h⟩ := uu_ob h
    refine (agf_lput e5 (Or.inl (by decide))).tr ?_
    have hr := Option.some.inj h
    subst hr
    exact agf.rf
set_option maxRecDepth 100000 in
set_option maxHeartbeats 4000000 in
theorem zc_X12_setHandle   {x1 : Int32} {x2 : Int32} {x3 : Int32} {s : uS} {r : uS}  (h : fn_X12_setHandle  x1 x2 x3 s = some r) : agf [] [1133, 1134] [] [] s r := by
  unfold fn_X12_setHandle at h
  by_cases c1 : (80 : Int32) ≤ x1
  · replace h := uu_pos c1 h
    obtain ⟨v2, e3, h⟩ := uu_ob h
    exact zb_X12_setHandle_49  h
  · replace h := uu_neg c1 h
    obtain ⟨v4, e5, h⟩ := uu_ob h
    exact zb_X12_setHandle_49  h
set_option maxRecDepth 100000 in
set_option maxHeartbeats 4000000 in
theorem zc_X12_flagOf    {s : uS} {r : (uS × Int32)}  (h : fn_X12_flagOf   s = some r) : agf [(1079, 23)] [1094] [] [] s r.1 := by
  unfold fn_X12_flagOf at h
  obtain ⟨r2, e3, h⟩ := uu_ob h
  refine ((zc_X12_oneIs  e3).mo (by decide) (by decide) (by decide) (fun _ h => nomatch h)).tr ?_
  by_cases c4 : r2.2 = true
  · replace h := uu_pos c4 h
    have hr := Option.some.inj h
    subst hr
    exact agf.rf
  · replace h := uu_neg c4 h
    obtain ⟨r6, e7, h⟩ := uu_ob h
    refine ((zc_X12_oneIs  e7).mo (by decide) (by decide) (by decide) (fun _ h => nomatch h)).tr ?_
    by_cases c8 : r6.2 = true
    · replace h := uu_pos c8 h
      have hr := Option.some.inj h
      subst hr
      exact agf.rf
    · replace h := uu_neg c8 h
      obtain ⟨r10, e11, h⟩ := uu_ob h
      refine ((zc_X12_oneIs  e11).mo (by decide) (by decide) (by decide) (fun _ h => nomatch h)).tr ?_
      by_cases c12 : r10.2 = true
      · replace h := uu_pos c12 h
        have hr := Option.some.inj h
        subst hr
        exact agf.rf
      · replace h := uu_neg c12 h
        obtain ⟨r14, e15, h⟩ := uu_ob h
        refine ((zc_X12_oneIs  e15).mo (by decide) (by decide) (by decide) (fun _ h => nomatch h)).tr ?_
        by_cases c16 : r14.2 = true
        · replace h := uu_pos c16 h
          have hr := Option.some.inj h
          subst hr
          exact agf.rf
        · replace h := uu_neg c16 h
          obtain ⟨r18, e19, h⟩ := uu_ob h
          refine ((zc_X12_oneIs  e19).mo (by decide) (by decide) (by decide) (fun _ h => nomatch h)).tr ?_
          by_cases c20 : r18.2 = true
          · replace h := uu_pos c20 h
            have hr := Option.some.inj h
            subst hr
            exact agf.rf
          · replace h := uu_neg c20 h
            have hr := Option.some.inj h
            subst hr
            exact agf.rf
set_option maxRecDepth 100000 in
set_option maxHeartbeats 4000000 in
theorem zb_X12_flagsOf_5  {K5 : Int32 → Int32 → Int32 → Int32 → uS → Option (uS × Int32)}  (hK5 : ∀ (x1 : Int32) (x2 : Int32) (x3 : Int32) (x4 : Int32)  (s : uS) (r : (uS × Int32)), K5 x1 x2 x3 x4 s = some r → agf [(1079, 21), (1079, 23)] [1093, 1094] [] [] s r.1) {x1 : Int32} {x2 : Int32} {x3 : Int32} {x4 : Int32} {s : uS} {r : (uS × Int32)}  (h : fb_X12_flagsOf_5  K5 x1 x2 x3 x4 s = some r) : agf [(1079, 21), (1079, 23)] [1093, 1094] [] [] s r.1 := by
  unfold fb_X12_flagsOf_5 at h
  by_cases c1 : x2 ≤ x4
  · replace h := uu_pos c1 h
    have hr := Option.some.inj h
    subst hr
    exact agf.rf
  · replace h := uu_neg c1 h
    obtain ⟨s2, e3, h⟩ := uu_ob h
    refine ((zc_X12_oneString  e3).mo (by decide) (by decide) (by decide) (fun _ h => nomatch h)).tr ?_
    obtain ⟨r4, e5, h⟩ := uu_ob h
    refine ((zc_X12_flagOf  e5).mo (by decide) (by decide) (by decide) (fun _ h => nomatch h)).tr ?_
    exact hK5 x1 x2 (x3 ||| r4.2) (x4 + 1) _ _ h
set_option maxRecDepth 100000 in
set_option maxHeartbeats 4000000 in
theorem zn_X12_flagsOf_5     : ∀ (n : Nat) (x1 : Int32) (x2 : Int32) (x3 : Int32) (x4 : Int32)  (s : uS) (r : (uS × Int32)), fn_X12_flagsOf_5   n x1 x2 x3 x4 s = some r → agf [(1079, 21), (1079, 23)] [1093, 1094] [] [] s r.1 := by
  intro n
  induction n with
  | zero => intro x1 x2 x3 x4  s r h
            cases h
  | succ n ih => intro x1 x2 x3 x4  s r h
                 exact zb_X12_flagsOf_5  ih  h
set_option maxRecDepth 100000 in
set_option maxHeartbeats 4000000 in
theorem zc_X12_flagsOf   {x1 : Int32} {x2 : Int32} {s : uS} {r : (uS × Int32)}  (h : fn_X12_flagsOf  x1 x2 s = some r) : agf [(1079, 21), (1079, 23)] [1093, 1094] [] [] s r.1 := by
  unfold fn_X12_flagsOf at h
  exact zn_X12_flagsOf_5  _ _ _ _ _ _ _ h
set_option maxRecDepth 100000 in
set_option maxHeartbeats 4000000 in
theorem zb_X12_spread_2  {K2 : Nat → Int32 → uS → Option uS}  (hK2 : ∀ (k1 : Nat) (x2 : Int32)  (s : uS) (r : uS), K2 k1 x2 s = some r → agf [] [] [] [k1] s r) {k1 : Nat} {x2 : Int32} {s : uS} {r : uS}  (h : fb_X12_spread_2  K2 k1 x2 s = some r) : agf [] [] [] [k1] s r := by
  unfold fb_X12_spread_2 at h
  by_cases c1 : (s.I 1079 23) ≤ x2
  · replace h := uu_pos c1 h
    have hr := Option.some.inj h
    subst hr
    exact agf.rf
  · replace h := uu_neg c1 h
    obtain ⟨v2, e3, h⟩ := uu_ob h
    by_cases c4 : v2 = 0
    · replace h := uu_pos c4 h
      exact hK2 k1 (x2 + 1) _ _ h
    · replace h := uu_neg c4 h
      obtain ⟨v5, e6, h⟩ := uu_ob h
      by_cases c7 : v5 = 42
      · replace h := uu_pos c7 h
        obtain ⟨s8, e9, h⟩ := uu_ob h
        refine (agf_iput e9 (Or.inr (Or.inr (List.mem_of_getElem? (i := 0) rfl)))).tr ?_
        exact hK2 k1 (x2 + 1) _ _ h
      · replace h := uu_neg c7 h
        exact hK2 k1 (x2 + 1) _ _ h
set_option maxRecDepth 100000 in
set_option maxHeartbeats 4000000 in
theorem zn_X12_spread_2     : ∀ (n : Nat) (k1 : Nat) (x2 : Int32)  (s : uS) (r : uS), fn_X12_spread_2   n k1 x2 s = some r → agf [] [] [] [k1] s r := by
  intro n
  induction n with
  | zero => intro k1 x2  s r h
            cases h
  | succ n ih => intro k1 x2  s r h
                 exact zb_X12_spread_2  ih  h
set_option maxRecDepth 100000 in
set_option maxHeartbeats 4000000 in
theorem zc_X12_spread   {k1 : Nat} {s : uS} {r : uS}  (h : fn_X12_spread  k1 s = some r) : agf [] [] [] [k1] s r := by
  unfold fn_X12_spread at h
  exact zn_X12_spread_2  _ _ _ _ _ h
set_option maxRecDepth 100000 in
set_option maxHeartbeats 4000000 in
theorem zb_X12_pattern_215  {K41 : Bool → Int32 → uS → Option (uS × Bool)} {K215 : Bool → Int32 → Int32 → uS → Option (uS × Bool)}  (hK41 : ∀ (b1 : Bool) (x2 : Int32)  (s : uS) (r : (uS × Bool)), K41 b1 x2 s = some r → agf [] [1141, 1142] [] [1141] s r.1) (hK215 : ∀ (b1 : Bool) (x2 : Int32) (x3 : Int32)  (s : uS) (r : (uS × Bool)), K215 b1 x2 x3 s = some r → agf [] [1141, 1142] [] [1141] s r.1) {b1 : Bool} {x2 : Int32} {x3 : Int32} {s : uS} {r : (uS × Bool)}  (h : fb_X12_pattern_215  K41 K215 b1 x2 x3 s = some r) : agf [] [1141, 1142] [] [1141] s r.1 := by
  unfold fb_X12_pattern_215 at h
  by_cases c1 : (s.I 1079 23) < x3
  · replace h := uu_pos c1 h
    obtain ⟨s2, e3, h⟩ := uu_ob h
    refine ((zc_X12_spread  e3).mo (by decide) (by decide) (by decide) (List.forall_mem_cons.mpr ⟨(Or.inr (List.mem_of_getElem? (i := 0) rfl)), fun _ h => nomatch h⟩)).tr ?_
    exact hK41 b1 (x2 + 1) _ _ h
  · replace h := uu_neg c1 h
    obtain ⟨v4, e5, h⟩ := uu_ob h
    obtain ⟨s6, e7, h⟩ := uu_ob h
    refine (agf_iput e7 (Or.inl (by decide))).tr ?_
    exact hK215 b1 x2 (x3 + 1) _ _ h
set_option maxRecDepth 100000 in
set_option maxHeartbeats 4000000 in
theorem zn_X12_pattern_215  {K41 : Bool → Int32 → uS → Option (uS × Bool)}  (hK41 : ∀ (b1 : Bool) (x2 : Int32)  (s : uS) (r : (uS × Bool)), K41 b1 x2 s = some r → agf [] [1141, 1142] [] [1141] s r.1) : ∀ (n : Nat) (b1 : Bool) (x2 : Int32) (x3 : Int32)  (s : uS) (r : (uS × Bool)), fn_X12_pattern_215  K41 n b1 x2 x3 s = some r → agf [] [1141, 1142] [] [1141] s r.1 := by
  intro n
  induction n with
  | zero => intro b1 x2 x3  s r h
            cases h
  | succ n ih => intro b1 x2 x3  s r h
                 exact zb_X12_pattern_215  hK41 ih  h
set_option maxRecDepth 100000 in
set_option maxHeartbeats 4000000 in
theorem zb_X12_pattern_74  {K41 : Bool → Int32 → uS → Option (uS × Bool)} {K74 : Bool → Int32 → Int32 → uS → Option (uS × Bool)}  (hK41 : ∀ (b1 : Bool) (x2 : Int32)  (s : uS) (r : (uS × Bool)), K41 b1 x2 s = some r → agf [] [1141, 1142] [] [1141] s r.1) (hK74 : ∀ (b1 : Bool) (x2 : Int32) (x3 : Int32)  (s : uS) (r : (uS × Bool)), K74 b1 x2 x3 s = some r → agf [] [1141, 1142] [] [1141] s r.1) {b1 : Bool} {x2 : Int32} {x3 : Int32} {s : uS} {r : (uS × Bool)}  (h : fb_X12_pattern_74  K41 K74 b1 x2 x3 s = some r) : agf [] [1141, 1142] [] [1141] s r.1 := by
  unfold fb_X12_pattern_74 at h
  by_cases c1 : (s.I 1079 23) ≤ x3
  · replace h := uu_pos c1 h
    exact zn_X12_pattern_215 hK41 _ _ _ _ _ _ h
  · replace h := uu_neg c1 h
    obtain ⟨v2, e3, h⟩ := uu_ob h
    by_cases c4 : v2 = 0
    · replace h := uu_pos c4 h
      exact hK74 b1 x2 (x3 + 1) _ _ h
    · replace h := uu_neg c4 h
      obtain ⟨v5, e6, h⟩ := uu_ob h
      by_cases c7 : v5 = 42
      · replace h := uu_pos c7 h
        obtain ⟨s8, e9, h⟩ := uu_ob h
        refine (agf_iput e9 (Or.inl (by decide))).tr ?_
        exact hK74 b1 x2 (x3 + 1) _ _ h
      · replace h := uu_neg c7 h
        obtain ⟨v10, e11, h⟩ := uu_ob h
        by_cases c12 : v10 = 63
        · replace h := uu_pos c12 h
          obtain ⟨s13, e14, h⟩ := uu_ob h
          refine (agf_iput e14 (Or.inl (by decide))).tr ?_
          exact hK74 b1 x2 (x3 + 1) _ _ h
        · replace h := uu_neg c12 h
          obtain ⟨v15, e16, h⟩ := uu_ob h
          by_cases c17 : v15 = true
          · replace h := uu_pos c17 h
            obtain ⟨v18, e19, h⟩ := uu_ob h
            obtain ⟨v20, e21, h⟩ := uu_ob h
            obtain ⟨v22, e23, h⟩ := uu_ob h
            by_cases c24 : v22 = true
            · replace h := uu_pos c24 h
              obtain ⟨s25, e26, h⟩ := uu_ob h
              refine (agf_iput e26 (Or.inl (by decide))).tr ?_
              exact hK74 b1 x2 (x3 + 1) _ _ h
            · replace h := uu_neg c24 h
              exact hK74 b1 x2 (x3 + 1) _ _ h
          · replace h := uu_neg c17 h
            obtain ⟨v27, e28, h⟩ := uu_ob h
            obtain ⟨v29, e30, h⟩ := uu_ob h
            obtain ⟨v31, e32, h⟩ := uu_ob h
            by_cases c33 : v31 = true
            · replace h := uu_pos c33 h
              obtain ⟨s34, e35, h⟩ := uu_ob h
              refine (agf_iput e35 (Or.inl (by decide))).tr ?_
              exact hK74 b1 x2 (x3 + 1) _ _ h
            · replace h := uu_neg c33 h
              exact hK74 b1 x2 (x3 + 1) _ _ h
set_option maxRecDepth 100000 in
set_option maxHeartbeats 4000000 in
theorem zn_X12_pattern_74  {K41 : Bool → Int32 → uS → Option (uS × Bool)}  (hK41 : ∀ (b1 : Bool) (x2 : Int32)  (s : uS) (r : (uS × Bool)), K41 b1 x2 s = some r → agf [] [1141, 1142] [] [1141] s r.1) : ∀ (n : Nat) (b1 : Bool) (x2 : Int32) (x3 : Int32)  (s : uS) (r : (uS × Bool)), fn_X12_pattern_74  K41 n b1 x2 x3 s = some r → agf [] [1141, 1142] [] [1141] s r.1 := by
  intro n
  induction n with
  | zero => intro b1 x2 x3  s r h
            cases h
  | succ n ih => intro b1 x2 x3  s r h
                 exact zb_X12_pattern_74  hK41 ih  h
set_option maxRecDepth 100000 in
set_option maxHeartbeats 4000000 in
theorem zb_X12_pattern_51  {K41 : Bool → Int32 → uS → Option (uS × Bool)} {K51 : Bool → Int32 → Int32 → uS → Option (uS × Bool)}  (hK41 : ∀ (b1 : Bool) (x2 : Int32)  (s : uS) (r : (uS × Bool)), K41 b1 x2 s = some r → agf [] [1141, 1142] [] [1141] s r.1) (hK51 : ∀ (b1 : Bool) (x2 : Int32) (x3 : Int32)  (s : uS) (r : (uS × Bool)), K51 b1 x2 x3 s = some r → agf [] [1141, 1142] [] [1141] s r.1) {b1 : Bool} {x2 : Int32} {x3 : Int32} {s : uS} {r : (uS × Bool)}  (h : fb_X12_pattern_51  K41 K51 b1 x2 x3 s = some r) : agf [] [1141, 1142] [] [1141] s r.1 := by
  unfold fb_X12_pattern_51 at h
  by_cases c1 : (s.I 1079 23) < x3
  · replace h := uu_pos c1 h
    exact zn_X12_pattern_74 hK41 _ _ _ _ _ _ h
  · replace h := uu_neg c1 h
    obtain ⟨s2, e3, h⟩ := uu_ob h
    refine (agf_iput e3 (Or.inl (by decide))).tr ?_
    exact hK51 b1 x2 (x3 + 1) _ _ h
set_option maxRecDepth 100000 in
set_option maxHeartbeats 4000000 in
theorem zn_X12_pattern_51  {K41 : Bool → Int32 → uS → Option (uS × Bool)}  (hK41 : ∀ (b1 : Bool) (x2 : Int32)  (s : uS) (r : (uS × Bool)), K41 b1 x2 s = some r → agf [] [1141, 1142] [] [1141] s r.1) : ∀ (n : Nat) (b1 : Bool) (x2 : Int32) (x3 : Int32)  (s : uS) (r : (uS × Bool)), fn_X12_pattern_51  K41 n b1 x2 x3 s = some r → agf [] [1141, 1142] [] [1141] s r.1 := by
  intro n
  induction n with
  | zero => intro b1 x2 x3  s r h
            cases h
  | succ n ih => intro b1 x2 x3  s r h
                 exact zb_X12_pattern_51  hK41 ih  h
set_option maxRecDepth 100000 in
set_option maxHeartbeats 4000000 in
theorem zb_X12_pattern_41  {K41 : Bool → Int32 → uS → Option (uS × Bool)}  (hK41 : ∀ (b1 : Bool) (x2 : Int32)  (s : uS) (r : (uS × Bool)), K41 b1 x2 s = some r → agf [] [1141, 1142] [] [1141] s r.1) {b1 : Bool} {x2 : Int32} {s : uS} {r : (uS × Bool)}  (h : fb_X12_pattern_41  K41 b1 x2 s = some r) : agf [] [1141, 1142] [] [1141] s r.1 := by
  unfold fb_X12_pattern_41 at h
  by_cases c1 : (s.I 1079 21) ≤ x2
  · replace h := uu_pos c1 h
    obtain ⟨v2, e3, h⟩ := uu_ob h
    obtain ⟨g4, h⟩ := uu_grd h
    have hr := Option.some.inj h
    subst hr
    exact agf.rf
  · replace h := uu_neg c1 h
    exact zn_X12_pattern_51 hK41 _ _ _ _ _ _ h
set_option maxRecDepth 100000 in
set_option maxHeartbeats 4000000 in
theorem zn_X12_pattern_41     : ∀ (n : Nat) (b1 : Bool) (x2 : Int32)  (s : uS) (r : (uS × Bool)), fn_X12_pattern_41   n b1 x2 s = some r → agf [] [1141, 1142] [] [1141] s r.1 := by
  intro n
  induction n with
  | zero => intro b1 x2  s r h
            cases h
  | succ n ih => intro b1 x2  s r h
                 exact zb_X12_pattern_41  ih  h
set_option maxRecDepth 100000 in
set_option maxHeartbeats 4000000 in
theorem zb_X12_pattern_2  {K2 : Bool → Int32 → uS → Option (uS × Bool)}  (hK2 : ∀ (b1 : Bool) (x2 : Int32)  (s : uS) (r : (uS × Bool)), K2 b1 x2 s = some r → agf [] [1141, 1142] [] [1141] s r.1) {b1 : Bool} {x2 : Int32} {s : uS} {r : (uS × Bool)}  (h : fb_X12_pattern_2  K2 b1 x2 s = some r) : agf [] [1141, 1142] [] [1141] s r.1 := by
  unfold fb_X12_pattern_2 at h
  by_cases c1 : (s.I 1079 23) < x2
  · replace h := uu_pos c1 h
    obtain ⟨s2, e3, h⟩ := uu_ob h
    refine ((zc_X12_spread  e3).mo (by decide) (by decide) (by decide) (List.forall_mem_cons.mpr ⟨(Or.inr (List.mem_of_getElem? (i := 0) rfl)), fun _ h => nomatch h⟩)).tr ?_
    exact zn_X12_pattern_41  _ _ _ _ _ h
  · replace h := uu_neg c1 h
    by_cases c4 : x2 = 0
    · replace h := uu_pos c4 h
      obtain ⟨s5, e6, h⟩ := uu_ob h
      refine (agf_iput e6 (Or.inl (by decide))).tr ?_
      exact hK2 b1 (x2 + 1) _ _ h
    · replace h := uu_neg c4 h
      obtain ⟨s7, e8, h⟩ := uu_ob h
      refine (agf_iput e8 (Or.inl (by decide))).tr ?_
      exact hK2 b1 (x2 + 1) _ _ h
set_option maxRecDepth 100000 in
set_option maxHeartbeats 4000000 in
theorem zn_X12_pattern_2     : ∀ (n : Nat) (b1 : Bool) (x2 : Int32)  (s : uS) (r : (uS × Bool)), fn_X12_pattern_2   n b1 x2 s = some r → agf [] [1141, 1142] [] [1141] s r.1 := by
  intro n
  induction n with
  | zero => intro b1 x2  s r h
            cases h
  | succ n ih => intro b1 x2  s r h
                 exact zb_X12_pattern_2  ih  h
set_option maxRecDepth 100000 in
set_option maxHeartbeats 4000000 in
theorem zc_X12_pattern   {b1 : Bool} {s : uS} {r : (uS × Bool)}  (h : fn_X12_pattern  b1 s = some r) : agf [] [1141, 1142] [] [1141] s r.1 := by
  unfold fn_X12_pattern at h
  exact zn_X12_pattern_2  _ _ _ _ _ h
set_option maxRecDepth 100000 in
set_option maxHeartbeats 4000000 in
theorem zb_X12_matchesKey_201     {x1 : Int32} {xs0 : Int32} {s : uS} {r : (uS × Bool)}  (h : fb_X12_matchesKey_201   x1 xs0 s = some r) : agf [(1079, 23)] [1094, 1141, 1142] [] [1141] s r.1 := by
  unfold fb_X12_matchesKey_201 at h
  obtain ⟨v1, e2, h⟩ := uu_ob h
  obtain ⟨v3, e4, h⟩ := uu_ob h
  have hr := Option.some.inj h
  subst hr
  exact agf.rf
set_option maxRecDepth 100000 in
set_option maxHeartbeats 4000000 in
theorem zb_X12_matchesKey_76     {x1 : Int32} {b3 : Bool} {bs0 : Bool} {s : uS} {r : (uS × Bool)}  (h : fb_X12_matchesKey_76   x1 b3 bs0 s = some r) : agf [(1079, 23)] [1094, 1141, 1142] [] [1141] s r.1 := by
  unfold fb_X12_matchesKey_76 at h
  obtain ⟨v1, e2, h⟩ := uu_ob h
  by_cases c84_0 : v1 = 0
  · replace h := uu_pos c84_0 h
    by_cases c3 : bs0 = true
    · replace h := uu_pos c3 h
      obtain ⟨v4, e5, h⟩ := uu_ob h
      by_cases c6 : v4 = 0
      · replace h := uu_pos c6 h
        have hr := Option.some.inj h
        subst hr
        exact agf.rf
      · replace h := uu_neg c6 h
        have hr := Option.some.inj h
        subst hr
        exact agf.rf
    · replace h := uu_neg c3 h
      obtain ⟨v7, e8, h⟩ := uu_ob h
      by_cases c9 : v7 = 0
      · replace h := uu_pos c9 h
        have hr := Option.some.inj h
        subst hr
        exact agf.rf
      · replace h := uu_neg c9 h
        have hr := Option.some.inj h
        subst hr
        exact agf.rf
  replace h := uu_neg c84_0 h
  by_cases c84_1 : v1 = 1
  · replace h := uu_pos c84_1 h
    by_cases c10 : bs0 = true
    · replace h := uu_pos c10 h
      have hr := Option.some.inj h
      subst hr
      exact agf.rf
    · replace h := uu_neg c10 h
      obtain ⟨v11, e12, h⟩ := uu_ob h
      by_cases c13 : v11 = true
      · replace h := uu_pos c13 h
        have hr := Option.some.inj h
        subst hr
        exact agf.rf
      · replace h := uu_neg c13 h
        have hr := Option.some.inj h
        subst hr
        exact agf.rf
  replace h := uu_neg c84_1 h
  by_cases c84_2 : v1 = 2
  · replace h := uu_pos c84_2 h
    by_cases c14 : bs0 = true
    · replace h := uu_pos c14 h
      have hr := Option.some.inj h
      subst hr
      exact agf.rf
    · replace h := uu_neg c14 h
      obtain ⟨r15, e16, h⟩ := uu_ob h
      refine ((zc_X12_pattern  e16).mo (by decide) (by decide) (by decide) (List.forall_mem_cons.mpr ⟨(Or.inr (List.mem_of_getElem? (i := 0) rfl)), fun _ h => nomatch h⟩)).tr ?_
      by_cases c17 : r15.2 = true
      · replace h := uu_pos c17 h
        have hr := Option.some.inj h
        subst hr
        exact agf.rf
      · replace h := uu_neg c17 h
        have hr := Option.some.inj h
        subst hr
        exact agf.rf
  replace h := uu_neg c84_2 h
  by_cases c18 : bs0 = true
  · replace h := uu_pos c18 h
    obtain ⟨v19, e20, h⟩ := uu_ob h
    exact zb_X12_matchesKey_201  h
  · replace h := uu_neg c18 h
    obtain ⟨v21, e22, h⟩ := uu_ob h
    exact zb_X12_matchesKey_201  h
set_option maxRecDepth 100000 in
set_option maxHeartbeats 4000000 in
theorem zb_X12_matchesKey_60     {x1 : Int32} {bs0 : Bool} {s : uS} {r : (uS × Bool)}  (h : fb_X12_matchesKey_60   x1 bs0 s = some r) : agf [(1079, 23)] [1094, 1141, 1142] [] [1141] s r.1 := by
  unfold fb_X12_matchesKey_60 at h
  obtain ⟨v1, e2, h⟩ := uu_ob h
  by_cases c3 : v1 = 2
  · replace h := uu_pos c3 h
    exact zb_X12_matchesKey_76  h
  · replace h := uu_neg c3 h
    exact zb_X12_matchesKey_76  h
set_option maxRecDepth 100000 in
set_option maxHeartbeats 4000000 in
theorem zb_X12_matchesKey_12  {K12 : Int32 → Int32 → Int32 → uS → Option (uS × Bool)}  (hK12 : ∀ (x1 : Int32) (x2 : Int32) (x3 : Int32)  (s : uS) (r : (uS × Bool)), K12 x1 x2 x3 s = some r → agf [(1079, 23)] [1094, 1141, 1142] [] [1141] s r.1) {x1 : Int32} {x2 : Int32} {x3 : Int32} {s : uS} {r : (uS × Bool)}  (h : fb_X12_matchesKey_12  K12 x1 x2 x3 s = some r) : agf [(1079, 23)] [1094, 1141, 1142] [] [1141] s r.1 := by
  unfold fb_X12_matchesKey_12 at h
  by_cases c1 : (s.I 1079 23) ≤ x3
  · replace h := uu_pos c1 h
    obtain ⟨v2, e3, h⟩ := uu_ob h
    by_cases c4 : v2 = 1
    · replace h := uu_pos c4 h
      exact zb_X12_matchesKey_60  h
    · replace h := uu_neg c4 h
      exact zb_X12_matchesKey_60  h
  · replace h := uu_neg c1 h
    obtain ⟨v5, e6, h⟩ := uu_ob h
    obtain ⟨v7, e8, h⟩ := uu_ob h
    obtain ⟨s9, e10, h⟩ := uu_ob h
    refine (agf_iput e10 (Or.inl (by decide))).tr ?_
    exact hK12 x1 x2 (x3 + 1) _ _ h
set_option maxRecDepth 100000 in
set_option maxHeartbeats 4000000 in
theorem zn_X12_matchesKey_12     : ∀ (n : Nat) (x1 : Int32) (x2 : Int32) (x3 : Int32)  (s : uS) (r : (uS × Bool)), fn_X12_matchesKey_12   n x1 x2 x3 s = some r → agf [(1079, 23)] [1094, 1141, 1142] [] [1141] s r.1 := by
  intro n
  induction n with
  | zero => intro x1 x2 x3  s r h
            cases h
  | succ n ih => intro x1 x2 x3  s r h
                 exact zb_X12_matchesKey_12  ih  h
set_option maxRecDepth 100000 in
set_option maxHeartbeats 4000000 in
theorem zc_X12_matchesKey   {x1 : Int32} {x2 : Int32} {s : uS} {r : (uS × Bool)}  (h : fn_X12_matchesKey  x1 x2 s = some r) : agf [(1079, 23)] [1094, 1141, 1142] [] [1141] s r.1 := by
  unfold fn_X12_matchesKey at h
  obtain ⟨v1, e2, h⟩ := uu_ob h
  refine (agf_wI (a := 1079) (f := 23) (v := v1) (Or.inl (by decide))).tr ?_
  exact zn_X12_matchesKey_12  _ _ _ _ _ _ h
set_option maxRecDepth 100000 in
set_option maxHeartbeats 4000000 in
theorem zb_X12_value_12  {K12 : Int32 → Int32 → uS → Option uS}  (hK12 : ∀ (x1 : Int32) (x2 : Int32)  (s : uS) (r : uS), K12 x1 x2 s = some r → agf [(1079, 23), (1079, 109), (1079, 110)] [1094, 1141, 1142] [] [1141] s r) {x1 : Int32} {x2 : Int32} {s : uS} {r : uS}  (h : fb_X12_value_12  K12 x1 x2 s = some r) : agf [(1079, 23), (1079, 109), (1079, 110)] [1094, 1141, 1142] [] [1141] s r := by
  unfold fb_X12_value_12 at h
  obtain ⟨v1, e2, h⟩ := uu_ob h
  by_cases c3 : v1 ≤ x2
  · replace h := uu_pos c3 h
    have hr := Option.some.inj h
    subst hr
    exact agf.rf
  · replace h := uu_neg c3 h
    obtain ⟨v4, e5, h⟩ := uu_ob h
    by_cases c6 : v4 = 3
    · replace h := uu_pos c6 h
      have hr := Option.some.inj h
      subst hr
      exact agf.rf
    · replace h := uu_neg c6 h
      by_cases c7 : (s.I 1079 110) = 0
      · replace h := uu_pos c7 h
        obtain ⟨v8, e9, h⟩ := uu_ob h
        obtain ⟨r10, e11, h⟩ := uu_ob h
        refine ((zc_X12_matchesKey  e11).mo (by decide) (by decide) (by decide) (List.forall_mem_cons.mpr ⟨(Or.inr (List.mem_of_getElem? (i := 0) rfl)), fun _ h => nomatch h⟩)).tr ?_
        by_cases c12 : r10.2 = true
        · replace h := uu_pos c12 h
          refine (agf_wI (a := 1079) (f := 110) (v := 1) (Or.inl (by decide))).tr ?_
          exact hK12 x1 (x2 + 1) _ _ h
        · replace h := uu_neg c12 h
          refine (agf_wI (a := 1079) (f := 110) (v := 0) (Or.inl (by decide))).tr ?_
          exact hK12 x1 (x2 + 1) _ _ h
      · replace h := uu_neg c7 h
        refine (agf_wI (a := 1079) (f := 110) (v := 1) (Or.inl (by decide))).tr ?_
        exact hK12 x1 (x2 + 1) _ _ h
set_option maxRecDepth 100000 in
set_option maxHeartbeats 4000000 in
theorem zn_X12_value_12     : ∀ (n : Nat) (x1 : Int32) (x2 : Int32)  (s : uS) (r : uS), fn_X12_value_12   n x1 x2 s = some r → agf [(1079, 23), (1079, 109), (1079, 110)] [1094, 1141, 1142] [] [1141] s r := by
  intro n
  induction n with
  | zero => intro x1 x2  s r h
            cases h
  | succ n ih => intro x1 x2  s r h
                 exact zb_X12_value_12  ih  h
set_option maxRecDepth 100000 in
set_option maxHeartbeats 4000000 in
theorem zc_X12_value   {x1 : Int32} {s : uS} {r : uS}  (h : fn_X12_value  x1 s = some r) : agf [(1079, 23), (1079, 109), (1079, 110)] [1094, 1141, 1142] [] [1141] s r := by
  unfold fn_X12_value at h
  refine (agf_wI (a := 1079) (f := 109) (v := (s.I 1079 109) + 1) (Or.inl (by decide))).tr ?_
  exact zn_X12_value_12  _ _ _ _ _ h
set_option maxRecDepth 100000 in
set_option maxHeartbeats 4000000 in
theorem zb_X12_oneNumber_23  {K23 : Int32 → Int32 → uS → Option uS}  (hK23 : ∀ (x1 : Int32) (x2 : Int32)  (s : uS) (r : uS), K23 x1 x2 s = some r → agf [(1079, 21)] [1093] [] [] s r) {x1 : Int32} {x2 : Int32} {s : uS} {r : uS}  (h : fb_X12_oneNumber_23  K23 x1 x2 s = some r) : agf [(1079, 21)] [1093] [] [] s r := by
  unfold fb_X12_oneNumber_23 at h
  by_cases c1 : x2 ≤ 0
  · replace h := uu_pos c1 h
    have hr := Option.some.inj h
    subst hr
    exact agf.rf
  · replace h := uu_neg c1 h
    obtain ⟨g2, h⟩ := uu_grd h
    obtain ⟨s3, e4, h⟩ := uu_ob h
    refine ((zc_X12_add  e4).mo (by decide) (by decide) (by decide) (fun _ h => nomatch h)).tr ?_
    exact hK23 x1 (x2 / 10) _ _ h
set_option maxRecDepth 100000 in
set_option maxHeartbeats 4000000 in
theorem zn_X12_oneNumber_23     : ∀ (n : Nat) (x1 : Int32) (x2 : Int32)  (s : uS) (r : uS), fn_X12_oneNumber_23   n x1 x2 s = some r → agf [(1079, 21)] [1093] [] [] s r := by
  intro n
  induction n with
  | zero => intro x1 x2  s r h
            cases h
  | succ n ih => intro x1 x2  s r h
                 exact zb_X12_oneNumber_23  ih  h
set_option maxRecDepth 100000 in
set_option maxHeartbeats 4000000 in
theorem zb_X12_oneNumber_2  {K2 : Int32 → Int32 → uS → Option uS}  (hK2 : ∀ (x1 : Int32) (x2 : Int32)  (s : uS) (r : uS), K2 x1 x2 s = some r → agf [(1079, 21)] [1093] [] [] s r) {x1 : Int32} {x2 : Int32} {s : uS} {r : uS}  (h : fb_X12_oneNumber_2  K2 x1 x2 s = some r) : agf [(1079, 21)] [1093] [] [] s r := by
  unfold fb_X12_oneNumber_2 at h
  obtain ⟨g1, h⟩ := uu_grd h
  by_cases c2 : (x1 / x2) < 10
  · replace h := uu_pos c2 h
    refine (agf_wI (a := 1079) (f := 21) (v := 0) (Or.inl (by decide))).tr ?_
    exact zn_X12_oneNumber_23  _ _ _ _ _ h
  · replace h := uu_neg c2 h
    exact hK2 x1 (x2 * 10) _ _ h
set_option maxRecDepth 100000 in
set_option maxHeartbeats 4000000 in
theorem zn_X12_oneNumber_2     : ∀ (n : Nat) (x1 : Int32) (x2 : Int32)  (s : uS) (r : uS), fn_X12_oneNumber_2   n x1 x2 s = some r → agf [(1079, 21)] [1093] [] [] s r := by
  intro n
  induction n with
  | zero => intro x1 x2  s r h
            cases h
  | succ n ih => intro x1 x2  s r h
                 exact zb_X12_oneNumber_2  ih  h
set_option maxRecDepth 100000 in
set_option maxHeartbeats 4000000 in
theorem zc_X12_oneNumber   {x1 : Int32} {s : uS} {r : uS}  (h : fn_X12_oneNumber  x1 s = some r) : agf [(1079, 21)] [1093] [] [] s r := by
  unfold fn_X12_oneNumber at h
  exact zn_X12_oneNumber_2  _ _ _ _ _ h
set_option maxRecDepth 100000 in
set_option maxHeartbeats 4000000 in
theorem zb_X12_tested_61  {K27 : Int32 → Bool → Int32 → uS → Option (uS × Bool)} {K61 : Int32 → Bool → Int32 → Int32 → Int32 → uS → Option (uS × Bool)}  (hK27 : ∀ (x1 : Int32) (b2 : Bool) (x3 : Int32)  (s : uS) (r : (uS × Bool)), K27 x1 b2 x3 s = some r → agf [(1079, 21), (1079, 23)] [1093, 1094] [] [] s r.1) (hK61 : ∀ (x1 : Int32) (b2 : Bool) (x3 : Int32) (x4 : Int32) (x5 : Int32)  (s : uS) (r : (uS × Bool)), K61 x1 b2 x3 x4 x5 s = some r → agf [(1079, 21), (1079, 23)] [1093, 1094] [] [] s r.1) {x1 : Int32} {b2 : Bool} {x3 : Int32} {x4 : Int32} {x5 : Int32} {s : uS} {r : (uS × Bool)}  (h : fb_X12_tested_61  K27 K61 x1 b2 x3 x4 x5 s = some r) : agf [(1079, 21), (1079, 23)] [1093, 1094] [] [] s r.1 := by
  unfold fb_X12_tested_61 at h
  by_cases c1 : (s.I 1079 23) ≤ x5
  · replace h := uu_pos c1 h
    by_cases c2 : b2 = true
    · replace h := uu_pos c2 h
      exact hK27 x1 true (x3 + 1) _ _ h
    · replace h := uu_neg c2 h
      obtain ⟨v3, e4, h⟩ := uu_ob h
      obtain ⟨v5, e6, h⟩ := uu_ob h
      obtain ⟨v7, e8, h⟩ := uu_ob h
      by_cases c9 : v7 = true
      · replace h := uu_pos c9 h
        exact hK27 x1 true (x3 + 1) _ _ h
      · replace h := uu_neg c9 h
        exact hK27 x1 false (x3 + 1) _ _ h
  · replace h := uu_neg c1 h
    obtain ⟨v10, e11, h⟩ := uu_ob h
    obtain ⟨v12, e13, h⟩ := uu_ob h
    obtain ⟨s14, e15, h⟩ := uu_ob h
    refine (agf_iput e15 (Or.inl (by decide))).tr ?_
    exact hK61 x1 b2 x3 x4 (x5 + 1) _ _ h
set_option maxRecDepth 100000 in
set_option maxHeartbeats 4000000 in
theorem zn_X12_tested_61  {K27 : Int32 → Bool → Int32 → uS → Option (uS × Bool)}  (hK27 : ∀ (x1 : Int32) (b2 : Bool) (x3 : Int32)  (s : uS) (r : (uS × Bool)), K27 x1 b2 x3 s = some r → agf [(1079, 21), (1079, 23)] [1093, 1094] [] [] s r.1) : ∀ (n : Nat) (x1 : Int32) (b2 : Bool) (x3 : Int32) (x4 : Int32) (x5 : Int32)  (s : uS) (r : (uS × Bool)), fn_X12_tested_61  K27 n x1 b2 x3 x4 x5 s = some r → agf [(1079, 21), (1079, 23)] [1093, 1094] [] [] s r.1 := by
  intro n
  induction n with
  | zero => intro x1 b2 x3 x4 x5  s r h
            cases h
  | succ n ih => intro x1 b2 x3 x4 x5  s r h
                 exact zb_X12_tested_61  hK27 ih  h
set_option maxRecDepth 100000 in
set_option maxHeartbeats 4000000 in
theorem zb_X12_tested_27  {K27 : Int32 → Bool → Int32 → uS → Option (uS × Bool)}  (hK27 : ∀ (x1 : Int32) (b2 : Bool) (x3 : Int32)  (s : uS) (r : (uS × Bool)), K27 x1 b2 x3 s = some r → agf [(1079, 21), (1079, 23)] [1093, 1094] [] [] s r.1) {x1 : Int32} {b2 : Bool} {x3 : Int32} {s : uS} {r : (uS × Bool)}  (h : fb_X12_tested_27  K27 x1 b2 x3 s = some r) : agf [(1079, 21), (1079, 23)] [1093, 1094] [] [] s r.1 := by
  unfold fb_X12_tested_27 at h
  obtain ⟨v1, e2, h⟩ := uu_ob h
  by_cases c3 : v1 ≤ x3
  · replace h := uu_pos c3 h
    have hr := Option.some.inj h
    subst hr
    exact agf.rf
  · replace h := uu_neg c3 h
    obtain ⟨v4, e5, h⟩ := uu_ob h
    obtain ⟨v6, e7, h⟩ := uu_ob h
    refine (agf_wI (a := 1079) (f := 23) (v := v6) (Or.inl (by decide))).tr ?_
    exact zn_X12_tested_61 hK27 _ _ _ _ _ _ _ _ h
set_option maxRecDepth 100000 in
set_option maxHeartbeats 4000000 in
theorem zn_X12_tested_27     : ∀ (n : Nat) (x1 : Int32) (b2 : Bool) (x3 : Int32)  (s : uS) (r : (uS × Bool)), fn_X12_tested_27   n x1 b2 x3 s = some r → agf [(1079, 21), (1079, 23)] [1093, 1094] [] [] s r.1 := by
  intro n
  induction n with
  | zero => intro x1 b2 x3  s r h
            cases h
  | succ n ih => intro x1 b2 x3  s r h
                 exact zb_X12_tested_27  ih  h
set_option maxRecDepth 100000 in
set_option maxHeartbeats 4000000 in
theorem zc_X12_tested   {x1 : Int32} {s : uS} {r : (uS × Bool)}  (h : fn_X12_tested  x1 s = some r) : agf [(1079, 21), (1079, 23)] [1093, 1094] [] [] s r.1 := by
  unfold fn_X12_tested at h
  obtain ⟨v1, e2, h⟩ := uu_ob h
  by_cases c3 : v1 = 3
  · replace h := uu_pos c3 h
    obtain ⟨s4, e5, h⟩ := uu_ob h
    refine ((zc_X12_oneNumber  e5).mo (by decide) (by decide) (by decide) (fun _ h => nomatch h)).tr ?_
    exact zn_X12_tested_27  _ _ _ _ _ _ h
  · replace h := uu_neg c3 h
    obtain ⟨g6, h⟩ := uu_grd h
    have hr := Option.some.inj h
    subst hr
    exact agf.rf
set_option maxRecDepth 100000 in
set_option maxHeartbeats 4000000 in
theorem zb_X12_part_54  {K54 : Int32 → Int32 → Int32 → uS → Option uS}  (hK54 : ∀ (x2 : Int32) (x3 : Int32) (x4 : Int32)  (s : uS) (r : uS), K54 x2 x3 x4 s = some r → agf [(1079, 21)] [1093] [] [] s r) {x2 : Int32} {x3 : Int32} {x4 : Int32} {s : uS} {r : uS}  (h : fb_X12_part_54  K54 x2 x3 x4 s = some r) : agf [(1079, 21)] [1093] [] [] s r := by
  unfold fb_X12_part_54 at h
  by_cases c1 : x3 ≤ x4
  · replace h := uu_pos c1 h
    refine (agf_wI (a := 1079) (f := 21) (v := x3) (Or.inl (by decide))).tr ?_
    have hr := Option.some.inj h
    subst hr
    exact agf.rf
  · replace h := uu_neg c1 h
    obtain ⟨v2, e3, h⟩ := uu_ob h
    obtain ⟨s4, e5, h⟩ := uu_ob h
    refine (agf_iput e5 (Or.inl (by decide))).tr ?_
    exact hK54 x2 x3 (x4 + 1) _ _ h
set_option maxRecDepth 100000 in
set_option maxHeartbeats 4000000 in
theorem zn_X12_part_54     : ∀ (n : Nat) (x2 : Int32) (x3 : Int32) (x4 : Int32)  (s : uS) (r : uS), fn_X12_part_54   n x2 x3 x4 s = some r → agf [(1079, 21)] [1093] [] [] s r := by
  intro n
  induction n with
  | zero => intro x2 x3 x4  s r h
            cases h
  | succ n ih => intro x2 x3 x4  s r h
                 exact zb_X12_part_54  ih  h
set_option maxRecDepth 100000 in
set_option maxHeartbeats 4000000 in
theorem zc_X12_part   {x1 : Int32} {x2 : Int32} {s : uS} {r : uS}  (h : fn_X12_part  x1 x2 s = some r) : agf [(1079, 21)] [1093] [] [] s r := by
  unfold fn_X12_part at h
  obtain ⟨v1, e2, h⟩ := uu_ob h
  by_cases c3 : v1 = 0
  · replace h := uu_pos c3 h
    have hr := Option.some.inj h
    subst hr
    exact agf.rf
  · replace h := uu_neg c3 h
    obtain ⟨v4, e5, h⟩ := uu_ob h
    by_cases c6 : v4 = 1
    · replace h := uu_pos c6 h
      by_cases c7 : 0 ≤ x2
      · replace h := uu_pos c7 h
        refine (agf_wI (a := 1079) (f := 21) (v := x2) (Or.inl (by decide))).tr ?_
        have hr := Option.some.inj h
        subst hr
        exact agf.rf
      · replace h := uu_neg c7 h
        refine (agf_wI (a := 1079) (f := 21) (v := 0) (Or.inl (by decide))).tr ?_
        have hr := Option.some.inj h
        subst hr
        exact agf.rf
    · replace h := uu_neg c6 h
      by_cases c8 : 0 ≤ x2
      · replace h := uu_pos c8 h
        exact zn_X12_part_54  _ _ _ _ _ _ h
      · replace h := uu_neg c8 h
        exact zn_X12_part_54  _ _ _ _ _ _ h
set_option maxRecDepth 100000 in
set_option maxHeartbeats 4000000 in
theorem zb_X12_headers_54  {K2 : Int32 → Int32 → uS → Option uS} {K54 : Int32 → Int32 → uS → Option uS}  (hK2 : ∀ (x1 : Int32) (x2 : Int32)  (s : uS) (r : uS), K2 x1 x2 s = some r → agf [(1079, 21), (1079, 23), (1079, 24), (1079, 25), (1079, 27), (1079, 109), (1079, 110)] [1093, 1094, 1095, 1141, 1142] [] [1141] s r) (hK54 : ∀ (x1 : Int32) (x2 : Int32)  (s : uS) (r : uS), K54 x1 x2 s = some r → agf [(1079, 21), (1079, 23), (1079, 24), (1079, 25), (1079, 27), (1079, 109), (1079, 110)] [1093, 1094, 1095, 1141, 1142] [] [1141] s r) {x1 : Int32} {x2 : Int32} {s : uS} {r : uS}  (h : fb_X12_headers_54  K2 K54 x1 x2 s = some r) : agf [(1079, 21), (1079, 23), (1079, 24), (1079, 25), (1079, 27), (1079, 109), (1079, 110)] [1093, 1094, 1095, 1141, 1142] [] [1141] s r := by
  unfold fb_X12_headers_54 at h
  obtain ⟨r1, e2, h⟩ := uu_ob h
  refine ((zc_X12_nextPart  e2).mo (by decide) (by decide) (by decide) (fun _ h => nomatch h)).tr ?_
  by_cases c3 : r1.2 = true
  · replace h := uu_pos c3 h
    obtain ⟨v4, e5, h⟩ := uu_ob h
    by_cases c6 : 0 ≤ v4
    · replace h := uu_pos c6 h
      obtain ⟨s7, e8, h⟩ := uu_ob h
      refine ((zc_X12_part  e8).mo (by decide) (by decide) (by decide) (fun _ h => nomatch h)).tr ?_
      obtain ⟨s9, e10, h⟩ := uu_ob h
      refine ((zc_X12_value  e10).mo (by decide) (by decide) (by decide) (List.forall_mem_cons.mpr ⟨(Or.inr (List.mem_of_getElem? (i := 0) rfl)), fun _ h => nomatch h⟩)).tr ?_
      exact hK54 x1 x2 _ _ h
    · replace h := uu_neg c6 h
      exact hK54 x1 x2 _ _ h
  · replace h := uu_neg c3 h
    exact hK2 x1 (x2 + 1) _ _ h
set_option maxRecDepth 100000 in
set_option maxHeartbeats 4000000 in
theorem zn_X12_headers_54  {K2 : Int32 → Int32 → uS → Option uS}  (hK2 : ∀ (x1 : Int32) (x2 : Int32)  (s : uS) (r : uS), K2 x1 x2 s = some r → agf [(1079, 21), (1079, 23), (1079, 24), (1079, 25), (1079, 27), (1079, 109), (1079, 110)] [1093, 1094, 1095, 1141, 1142] [] [1141] s r) : ∀ (n : Nat) (x1 : Int32) (x2 : Int32)  (s : uS) (r : uS), fn_X12_headers_54  K2 n x1 x2 s = some r → agf [(1079, 21), (1079, 23), (1079, 24), (1079, 25), (1079, 27), (1079, 109), (1079, 110)] [1093, 1094, 1095, 1141, 1142] [] [1141] s r := by
  intro n
  induction n with
  | zero => intro x1 x2  s r h
            cases h
  | succ n ih => intro x1 x2  s r h
                 exact zb_X12_headers_54  hK2 ih  h
set_option maxRecDepth 100000 in
set_option maxHeartbeats 4000000 in
theorem zb_X12_headers_2  {K2 : Int32 → Int32 → uS → Option uS}  (hK2 : ∀ (x1 : Int32) (x2 : Int32)  (s : uS) (r : uS), K2 x1 x2 s = some r → agf [(1079, 21), (1079, 23), (1079, 24), (1079, 25), (1079, 27), (1079, 109), (1079, 110)] [1093, 1094, 1095, 1141, 1142] [] [1141] s r) {x1 : Int32} {x2 : Int32} {s : uS} {r : uS}  (h : fb_X12_headers_2  K2 x1 x2 s = some r) : agf [(1079, 21), (1079, 23), (1079, 24), (1079, 25), (1079, 27), (1079, 109), (1079, 110)] [1093, 1094, 1095, 1141, 1142] [] [1141] s r := by
  unfold fb_X12_headers_2 at h
  by_cases c1 : (s.I 1079 14) ≤ x2
  · replace h := uu_pos c1 h
    have hr := Option.some.inj h
    subst hr
    exact agf.rf
  · replace h := uu_neg c1 h
    obtain ⟨v2, e3, h⟩ := uu_ob h
    by_cases c4 : v2 = true
    · replace h := uu_pos c4 h
      obtain ⟨s5, e6, h⟩ := uu_ob h
      refine ((zc_X12_oneValue  e6).mo (by decide) (by decide) (by decide) (fun _ h => nomatch h)).tr ?_
      obtain ⟨v7, e8, h⟩ := uu_ob h
      by_cases c9 : v7 = 20
      · replace h := uu_pos c9 h
        obtain ⟨s10, e11, h⟩ := uu_ob h
        refine ((zc_X12_value  e11).mo (by decide) (by decide) (by decide) (List.forall_mem_cons.mpr ⟨(Or.inr (List.mem_of_getElem? (i := 0) rfl)), fun _ h => nomatch h⟩)).tr ?_
        exact hK2 x1 (x2 + 1) _ _ h
      · replace h := uu_neg c9 h
        obtain ⟨s12, e13, h⟩ := uu_ob h
        refine ((zc_X12_keepWhole  e13).mo (by decide) (by decide) (by decide) (fun _ h => nomatch h)).tr ?_
        obtain ⟨s14, e15, h⟩ := uu_ob h
        refine ((zc_X12_beginParts  e15).mo (by decide) (by decide) (by decide) (fun _ h => nomatch h)).tr ?_
        exact zn_X12_headers_54 hK2 _ _ _ _ _ h
    · replace h := uu_neg c4 h
      exact hK2 x1 (x2 + 1) _ _ h
set_option maxRecDepth 100000 in
set_option maxHeartbeats 4000000 in
theorem zn_X12_headers_2     : ∀ (n : Nat) (x1 : Int32) (x2 : Int32)  (s : uS) (r : uS), fn_X12_headers_2   n x1 x2 s = some r → agf [(1079, 21), (1079, 23), (1079, 24), (1079, 25), (1079, 27), (1079, 109), (1079, 110)] [1093, 1094, 1095, 1141, 1142] [] [1141] s r := by
  intro n
  induction n with
  | zero => intro x1 x2  s r h
            cases h
  | succ n ih => intro x1 x2  s r h
                 exact zb_X12_headers_2  ih  h
set_option maxRecDepth 100000 in
set_option maxHeartbeats 4000000 in
theorem zc_X12_headers   {x1 : Int32} {s : uS} {r : uS}  (h : fn_X12_headers  x1 s = some r) : agf [(1079, 21), (1079, 23), (1079, 24), (1079, 25), (1079, 27), (1079, 109), (1079, 110)] [1093, 1094, 1095, 1141, 1142] [] [1141] s r := by
  unfold fn_X12_headers at h
  exact zn_X12_headers_2  _ _ _ _ _ h
set_option maxRecDepth 100000 in
set_option maxHeartbeats 4000000 in
theorem zb_X12_oneFrom_10  {K10 : Int32 → uS → Option uS}  (hK10 : ∀ (x1 : Int32)  (s : uS) (r : uS), K10 x1 s = some r → agf [(1079, 21)] [1093] [] [] s r) {x1 : Int32} {s : uS} {r : uS}  (h : fb_X12_oneFrom_10  K10 x1 s = some r) : agf [(1079, 21)] [1093] [] [] s r := by
  unfold fb_X12_oneFrom_10 at h
  by_cases c1 : (s.I 1079 93) ≤ x1
  · replace h := uu_pos c1 h
    have hr := Option.some.inj h
    subst hr
    exact agf.rf
  · replace h := uu_neg c1 h
    obtain ⟨v2, e3, h⟩ := uu_ob h
    obtain ⟨s4, e5, h⟩ := uu_ob h
    refine (agf_iput e5 (Or.inl (by decide))).tr ?_
    exact hK10 (x1 + 1) _ _ h
set_option maxRecDepth 100000 in
set_option maxHeartbeats 4000000 in
theorem zn_X12_oneFrom_10     : ∀ (n : Nat) (x1 : Int32)  (s : uS) (r : uS), fn_X12_oneFrom_10   n x1 s = some r → agf [(1079, 21)] [1093] [] [] s r := by
  intro n
  induction n with
  | zero => intro x1  s r h
            cases h
  | succ n ih => intro x1  s r h
                 exact zb_X12_oneFrom_10  ih  h
set_option maxRecDepth 100000 in
set_option maxHeartbeats 4000000 in
theorem zc_X12_oneFrom    {s : uS} {r : uS}  (h : fn_X12_oneFrom   s = some r) : agf [(1079, 21)] [1093] [] [] s r := by
  unfold fn_X12_oneFrom at h
  refine (agf_wI (a := 1079) (f := 21) (v := s.I 1079 93) (Or.inl (by decide))).tr ?_
  exact zn_X12_oneFrom_10  _ _ _ _ h
set_option maxRecDepth 100000 in
set_option maxHeartbeats 4000000 in
theorem zb_X12_oneTo_10  {K10 : Int32 → uS → Option uS}  (hK10 : ∀ (x1 : Int32)  (s : uS) (r : uS), K10 x1 s = some r → agf [(1079, 21)] [1093] [] [] s r) {x1 : Int32} {s : uS} {r : uS}  (h : fb_X12_oneTo_10  K10 x1 s = some r) : agf [(1079, 21)] [1093] [] [] s r := by
  unfold fb_X12_oneTo_10 at h
  by_cases c1 : (s.I 1079 91) ≤ x1
  · replace h := uu_pos c1 h
    have hr := Option.some.inj h
    subst hr
    exact agf.rf
  · replace h := uu_neg c1 h
    obtain ⟨v2, e3, h⟩ := uu_ob h
    obtain ⟨s4, e5, h⟩ := uu_ob h
    refine (agf_iput e5 (Or.inl (by decide))).tr ?_
    exact hK10 (x1 + 1) _ _ h
set_option maxRecDepth 100000 in
set_option maxHeartbeats 4000000 in
theorem zn_X12_oneTo_10     : ∀ (n : Nat) (x1 : Int32)  (s : uS) (r : uS), fn_X12_oneTo_10   n x1 s = some r → agf [(1079, 21)] [1093] [] [] s r := by
  intro n
  induction n with
  | zero => intro x1  s r h
            cases h
  | succ n ih => intro x1  s r h
                 exact zb_X12_oneTo_10  ih  h
set_option maxRecDepth 100000 in
set_option maxHeartbeats 4000000 in
theorem zc_X12_oneTo    {s : uS} {r : uS}  (h : fn_X12_oneTo   s = some r) : agf [(1079, 21)] [1093] [] [] s r := by
  unfold fn_X12_oneTo at h
  refine (agf_wI (a := 1079) (f := 21) (v := s.I 1079 91) (Or.inl (by decide))).tr ?_
  exact zn_X12_oneTo_10  _ _ _ _ h
set_option maxRecDepth 100000 in
set_option maxHeartbeats 4000000 in
theorem zb_X12_envelope_99     {x1 : Int32} {b3 : Bool} {s : uS} {r : uS}  (h : fb_X12_envelope_99   x1 b3 s = some r) : agf [(1079, 21), (1079, 23), (1079, 109), (1079, 110)] [1093, 1094, 1141, 1142] [] [1141] s r := by
  unfold fb_X12_envelope_99 at h
  by_cases c1 : b3 = true
  · replace h := uu_pos c1 h
    obtain ⟨s2, e3, h⟩ := uu_ob h
    refine ((zc_X12_oneTo  e3).mo (by decide) (by decide) (by decide) (fun _ h => nomatch h)).tr ?_
    obtain ⟨v4, e5, h⟩ := uu_ob h
    obtain ⟨s6, e7, h⟩ := uu_ob h
    refine ((zc_X12_part  e7).mo (by decide) (by decide) (by decide) (fun _ h => nomatch h)).tr ?_
    obtain ⟨s8, e9, h⟩ := uu_ob h
    refine ((zc_X12_value  e9).mo (by decide) (by decide) (by decide) (List.forall_mem_cons.mpr ⟨(Or.inr (List.mem_of_getElem? (i := 0) rfl)), fun _ h => nomatch h⟩)).tr ?_
    have hr := Option.some.inj h
    subst hr
    exact agf.rf
  · replace h := uu_neg c1 h
    have hr := Option.some.inj h
    subst hr
    exact agf.rf
set_option maxRecDepth 100000 in
set_option maxHeartbeats 4000000 in
theorem zb_X12_envelope_50  {K7 : Int32 → Bool → Bool → Int32 → uS → Option uS}  (hK7 : ∀ (x1 : Int32) (b2 : Bool) (b3 : Bool) (x4 : Int32)  (s : uS) (r : uS), K7 x1 b2 b3 x4 s = some r → agf [(1079, 21), (1079, 23), (1079, 109), (1079, 110)] [1093, 1094, 1141, 1142] [] [1141] s r) {x1 : Int32} {b3 : Bool} {x4 : Int32} {bs0 : Bool} {s : uS} {r : uS}  (h : fb_X12_envelope_50  K7 x1 b3 x4 bs0 s = some r) : agf [(1079, 21), (1079, 23), (1079, 109), (1079, 110)] [1093, 1094, 1141, 1142] [] [1141] s r := by
  unfold fb_X12_envelope_50 at h
  by_cases c1 : b3 = true
  · replace h := uu_pos c1 h
    exact hK7 x1 bs0 true (x4 + 1) _ _ h
  · replace h := uu_neg c1 h
    obtain ⟨r3, e4, h⟩ := uu_ob h
    refine ((zc_X12_oneIs  e4).mo (by decide) (by decide) (by decide) (fun _ h => nomatch h)).tr ?_
    by_cases c5 : r3.2 = true
    · replace h := uu_pos c5 h
      exact hK7 x1 bs0 true (x4 + 1) _ _ h
    · replace h := uu_neg c5 h
      exact hK7 x1 bs0 false (x4 + 1) _ _ h
set_option maxRecDepth 100000 in
set_option maxHeartbeats 4000000 in
theorem zb_X12_envelope_7  {K7 : Int32 → Bool → Bool → Int32 → uS → Option uS}  (hK7 : ∀ (x1 : Int32) (b2 : Bool) (b3 : Bool) (x4 : Int32)  (s : uS) (r : uS), K7 x1 b2 b3 x4 s = some r → agf [(1079, 21), (1079, 23), (1079, 109), (1079, 110)] [1093, 1094, 1141, 1142] [] [1141] s r) {x1 : Int32} {b2 : Bool} {b3 : Bool} {x4 : Int32} {s : uS} {r : uS}  (h : fb_X12_envelope_7  K7 x1 b2 b3 x4 s = some r) : agf [(1079, 21), (1079, 23), (1079, 109), (1079, 110)] [1093, 1094, 1141, 1142] [] [1141] s r := by
  unfold fb_X12_envelope_7 at h
  obtain ⟨v1, e2, h⟩ := uu_ob h
  by_cases c3 : v1 ≤ x4
  · replace h := uu_pos c3 h
    by_cases c4 : b2 = true
    · replace h := uu_pos c4 h
      obtain ⟨s5, e6, h⟩ := uu_ob h
      refine ((zc_X12_oneFrom  e6).mo (by decide) (by decide) (by decide) (fun _ h => nomatch h)).tr ?_
      obtain ⟨v7, e8, h⟩ := uu_ob h
      obtain ⟨s9, e10, h⟩ := uu_ob h
      refine ((zc_X12_part  e10).mo (by decide) (by decide) (by decide) (fun _ h => nomatch h)).tr ?_
      obtain ⟨s11, e12, h⟩ := uu_ob h
      refine ((zc_X12_value  e12).mo (by decide) (by decide) (by decide) (List.forall_mem_cons.mpr ⟨(Or.inr (List.mem_of_getElem? (i := 0) rfl)), fun _ h => nomatch h⟩)).tr ?_
      exact zb_X12_envelope_99  h
    · replace h := uu_neg c4 h
      exact zb_X12_envelope_99  h
  · replace h := uu_neg c3 h
    obtain ⟨v13, e14, h⟩ := uu_ob h
    obtain ⟨s15, e16, h⟩ := uu_ob h
    refine ((zc_X12_oneString  e16).mo (by decide) (by decide) (by decide) (fun _ h => nomatch h)).tr ?_
    by_cases c17 : b2 = true
    · replace h := uu_pos c17 h
      exact zb_X12_envelope_50 hK7 h
    · replace h := uu_neg c17 h
      obtain ⟨r19, e20, h⟩ := uu_ob h
      refine ((zc_X12_oneIs  e20).mo (by decide) (by decide) (by decide) (fun _ h => nomatch h)).tr ?_
      by_cases c21 : r19.2 = true
      · replace h := uu_pos c21 h
        exact zb_X12_envelope_50 hK7 h
      · replace h := uu_neg c21 h
        exact zb_X12_envelope_50 hK7 h
set_option maxRecDepth 100000 in
set_option maxHeartbeats 4000000 in
theorem zn_X12_envelope_7     : ∀ (n : Nat) (x1 : Int32) (b2 : Bool) (b3 : Bool) (x4 : Int32)  (s : uS) (r : uS), fn_X12_envelope_7   n x1 b2 b3 x4 s = some r → agf [(1079, 21), (1079, 23), (1079, 109), (1079, 110)] [1093, 1094, 1141, 1142] [] [1141] s r := by
  intro n
  induction n with
  | zero => intro x1 b2 b3 x4  s r h
            cases h
  | succ n ih => intro x1 b2 b3 x4  s r h
                 exact zb_X12_envelope_7  ih  h
set_option maxRecDepth 100000 in
set_option maxHeartbeats 4000000 in
theorem zc_X12_envelope   {x1 : Int32} {s : uS} {r : uS}  (h : fn_X12_envelope  x1 s = some r) : agf [(1079, 21), (1079, 23), (1079, 109), (1079, 110)] [1093, 1094, 1141, 1142] [] [1141] s r := by
  unfold fn_X12_envelope at h
  exact zn_X12_envelope_7  _ _ _ _ _ _ _ h
set_option maxRecDepth 100000 in
set_option maxHeartbeats 4000000 in
theorem zb_X12_flagsSet_80  {K2 : Int32 → Int32 → uS → Option uS} {K80 : Int32 → Int32 → List Nat → Int32 → uS → Option uS}  (hK2 : ∀ (x1 : Int32) (x2 : Int32)  (s : uS) (r : uS), K2 x1 x2 s = some r → agf [(1079, 21), (1079, 23), (1079, 109), (1079, 110)] [1093, 1094, 1141, 1142] [] [1141] s r) (hK80 : ∀ (x1 : Int32) (x2 : Int32) (w3 : List Nat) (x4 : Int32)  (s : uS) (r : uS), K80 x1 x2 w3 x4 s = some r → agf [(1079, 21), (1079, 23), (1079, 109), (1079, 110)] [1093, 1094, 1141, 1142] [] [1141] s r) {x1 : Int32} {x2 : Int32} {w3 : List Nat} {x4 : Int32} {s : uS} {r : uS}  (h : fb_X12_flagsSet_80  K2 K80 x1 x2 w3 x4 s = some r) : agf [(1079, 21), (1079, 23), (1079, 109), (1079, 110)] [1093, 1094, 1141, 1142] [] [1141] s r := by
  unfold fb_X12_flagsSet_80 at h
  by_cases c1 : (s.I 1079 21) ≤ x4
  · replace h := uu_pos c1 h
    obtain ⟨s2, e3, h⟩ := uu_ob h
    refine ((zc_X12_value  e3).mo (by decide) (by decide) (by decide) (List.forall_mem_cons.mpr ⟨(Or.inr (List.mem_of_getElem? (i := 0) rfl)), fun _ h => nomatch h⟩)).tr ?_
    exact hK2 x1 (x2 * 2) _ _ h
  · replace h := uu_neg c1 h
    obtain ⟨v4, e5, h⟩ := uu_ob h
    obtain ⟨s6, e7, h⟩ := uu_ob h
    refine (agf_iput e7 (Or.inl (by decide))).tr ?_
    exact hK80 x1 x2 w3 (x4 + 1) _ _ h
set_option maxRecDepth 100000 in
set_option maxHeartbeats 4000000 in
theorem zn_X12_flagsSet_80  {K2 : Int32 → Int32 → uS → Option uS}  (hK2 : ∀ (x1 : Int32) (x2 : Int32)  (s : uS) (r : uS), K2 x1 x2 s = some r → agf [(1079, 21), (1079, 23), (1079, 109), (1079, 110)] [1093, 1094, 1141, 1142] [] [1141] s r) : ∀ (n : Nat) (x1 : Int32) (x2 : Int32) (w3 : List Nat) (x4 : Int32)  (s : uS) (r : uS), fn_X12_flagsSet_80  K2 n x1 x2 w3 x4 s = some r → agf [(1079, 21), (1079, 23), (1079, 109), (1079, 110)] [1093, 1094, 1141, 1142] [] [1141] s r := by
  intro n
  induction n with
  | zero => intro x1 x2 w3 x4  s r h
            cases h
  | succ n ih => intro x1 x2 w3 x4  s r h
                 exact zb_X12_flagsSet_80  hK2 ih  h
set_option maxRecDepth 100000 in
set_option maxHeartbeats 4000000 in
theorem zb_X12_flagsSet_68  {K2 : Int32 → Int32 → uS → Option uS}  (hK2 : ∀ (x1 : Int32) (x2 : Int32)  (s : uS) (r : uS), K2 x1 x2 s = some r → agf [(1079, 21), (1079, 23), (1079, 109), (1079, 110)] [1093, 1094, 1141, 1142] [] [1141] s r) {x1 : Int32} {x2 : Int32} {ws0 : List Nat} {s : uS} {r : uS}  (h : fb_X12_flagsSet_68  K2 x1 x2 ws0 s = some r) : agf [(1079, 21), (1079, 23), (1079, 109), (1079, 110)] [1093, 1094, 1141, 1142] [] [1141] s r := by
  unfold fb_X12_flagsSet_68 at h
  refine (agf_wI (a := 1079) (f := 21) (v := nI ws0.length) (Or.inl (by decide))).tr ?_
  exact zn_X12_flagsSet_80 hK2 _ _ _ _ _ _ _ h
set_option maxRecDepth 100000 in
set_option maxHeartbeats 4000000 in
theorem zb_X12_flagsSet_2  {K2 : Int32 → Int32 → uS → Option uS}  (hK2 : ∀ (x1 : Int32) (x2 : Int32)  (s : uS) (r : uS), K2 x1 x2 s = some r → agf [(1079, 21), (1079, 23), (1079, 109), (1079, 110)] [1093, 1094, 1141, 1142] [] [1141] s r) {x1 : Int32} {x2 : Int32} {s : uS} {r : uS}  (h : fb_X12_flagsSet_2  K2 x1 x2 s = some r) : agf [(1079, 21), (1079, 23), (1079, 109), (1079, 110)] [1093, 1094, 1141, 1142] [] [1141] s r := by
  unfold fb_X12_flagsSet_2 at h
  by_cases c1 : (32 : Int32) ≤ x2
  · replace h := uu_pos c1 h
    have hr := Option.some.inj h
    subst hr
    exact agf.rf
  · replace h := uu_neg c1 h
    by_cases c2 : ((s.I 1079 94) &&& x2) = 0
    · replace h := uu_pos c2 h
      exact hK2 x1 (x2 * 2) _ _ h
    · replace h := uu_neg c2 h
      by_cases c3 : x2 = 1
      · replace h := uu_pos c3 h
        exact zb_X12_flagsSet_68 hK2 h
      · replace h := uu_neg c3 h
        by_cases c5 : x2 = 2
        · replace h := uu_pos c5 h
          exact zb_X12_flagsSet_68 hK2 h
        · replace h := uu_neg c5 h
          by_cases c7 : x2 = 4
          · replace h := uu_pos c7 h
            exact zb_X12_flagsSet_68 hK2 h
          · replace h := uu_neg c7 h
            by_cases c9 : x2 = 8
            · replace h := uu_pos c9 h
              exact zb_X12_flagsSet_68 hK2 h
            · replace h := uu_neg c9 h
              exact zb_X12_flagsSet_68 hK2 h
set_option maxRecDepth 100000 in
set_option maxHeartbeats 4000000 in
theorem zn_X12_flagsSet_2     : ∀ (n : Nat) (x1 : Int32) (x2 : Int32)  (s : uS) (r : uS), fn_X12_flagsSet_2   n x1 x2 s = some r → agf [(1079, 21), (1079, 23), (1079, 109), (1079, 110)] [1093, 1094, 1141, 1142] [] [1141] s r := by
  intro n
  induction n with
  | zero => intro x1 x2  s r h
            cases h
  | succ n ih => intro x1 x2  s r h
                 exact zb_X12_flagsSet_2  ih  h
set_option maxRecDepth 100000 in
set_option maxHeartbeats 4000000 in
theorem zc_X12_flagsSet   {x1 : Int32} {s : uS} {r : uS}  (h : fn_X12_flagsSet  x1 s = some r) : agf [(1079, 21), (1079, 23), (1079, 109), (1079, 110)] [1093, 1094, 1141, 1142] [] [1141] s r := by
  unfold fn_X12_flagsSet at h
  exact zn_X12_flagsSet_2  _ _ _ _ _ h
set_option maxRecDepth 100000 in
set_option maxHeartbeats 4000000 in
theorem zc_X12_isInbox   {x1 : Int32} {s : uS} {r : (uS × Bool)}  (h : fn_X12_isInbox  x1 s = some r) : agf [(1079, 21), (1079, 23)] [1093, 1094] [] [] s r.1 := by
  unfold fn_X12_isInbox at h
  by_cases c1 : x1 = (-1)
  · replace h := uu_pos c1 h
    have hr := Option.some.inj h
    subst hr
    exact agf.rf
  · replace h := uu_neg c1 h
    obtain ⟨s2, e3, h⟩ := uu_ob h
    refine ((zc_X12_oneString  e3).mo (by decide) (by decide) (by decide) (fun _ h => nomatch h)).tr ?_
    obtain ⟨r5, e6, h⟩ := uu_ob h
    refine ((zc_X12_oneIs  e6).mo (by decide) (by decide) (by decide) (fun _ h => nomatch h)).tr ?_
    have hr := Option.some.inj h
    subst hr
    exact agf.rf
set_option maxRecDepth 100000 in
set_option maxHeartbeats 4000000 in
theorem zb_X12_sameBox_22     {b3 : Bool} {b4 : Bool} {s : uS} {r : (uS × Bool)}  (h : fb_X12_sameBox_22   b3 b4 s = some r) : agf [(1079, 21), (1079, 23)] [1093, 1094] [] [] s r.1 := by
  unfold fb_X12_sameBox_22 at h
  by_cases c1 : b3 = true
  · replace h := uu_pos c1 h
    by_cases c2 : b4 = true
    · replace h := uu_pos c2 h
      have hr := Option.some.inj h
      subst hr
      exact agf.rf
    · replace h := uu_neg c2 h
      have hr := Option.some.inj h
      subst hr
      exact agf.rf
  · replace h := uu_neg c1 h
    have hr := Option.some.inj h
    subst hr
    exact agf.rf
set_option maxRecDepth 100000 in
set_option maxHeartbeats 4000000 in
theorem zc_X12_sameBox   {x1 : Int32} {x2 : Int32} {s : uS} {r : (uS × Bool)}  (h : fn_X12_sameBox  x1 x2 s = some r) : agf [(1079, 21), (1079, 23)] [1093, 1094] [] [] s r.1 := by
  unfold fn_X12_sameBox at h
  obtain ⟨r1, e2, h⟩ := uu_ob h
  refine ((zc_X12_isInbox  e2).mo (by decide) (by decide) (by decide) (fun _ h => nomatch h)).tr ?_
  obtain ⟨r3, e4, h⟩ := uu_ob h
  refine ((zc_X12_isInbox  e4).mo (by decide) (by decide) (by decide) (fun _ h => nomatch h)).tr ?_
  by_cases c5 : r1.2 = true
  · replace h := uu_pos c5 h
    exact zb_X12_sameBox_22  h
  · replace h := uu_neg c5 h
    by_cases c6 : r3.2 = true
    · replace h := uu_pos c6 h
      exact zb_X12_sameBox_22  h
    · replace h := uu_neg c6 h
      obtain ⟨v7, e8, h⟩ := uu_ob h
      have hr := Option.some.inj h
      subst hr
      exact agf.rf
set_option maxRecDepth 100000 in
set_option maxHeartbeats 4000000 in
theorem zb_X12_file1_5  {K5 : Int32 → Int32 → Bool → Int32 → uS → Option uS}  (hK5 : ∀ (x1 : Int32) (x2 : Int32) (b3 : Bool) (x4 : Int32)  (s : uS) (r : uS), K5 x1 x2 b3 x4 s = some r → agf [(1079, 21), (1079, 23), (1079, 97)] [1093, 1094, 1138, 1139] [] [] s r) {x1 : Int32} {x2 : Int32} {b3 : Bool} {x4 : Int32} {s : uS} {r : uS}  (h : fb_X12_file1_5  K5 x1 x2 b3 x4 s = some r) : agf [(1079, 21), (1079, 23), (1079, 97)] [1093, 1094, 1138, 1139] [] [] s r := by
  unfold fb_X12_file1_5 at h
  by_cases c1 : (s.I 1079 97) ≤ x4
  · replace h := uu_pos c1 h
    by_cases c2 : b3 = true
    · replace h := uu_pos c2 h
      have hr := Option.some.inj h
      subst hr
      exact agf.rf
    · replace h := uu_neg c2 h
      obtain ⟨s3, e4, h⟩ := uu_ob h
      refine (agf_iput e4 (Or.inl (by decide))).tr ?_
      obtain ⟨s5, e6, h⟩ := uu_ob h
      refine (agf_iput e6 (Or.inl (by decide))).tr ?_
      refine (agf_wI (a := 1079) (f := 97) (v := (s5.I 1079 97) + 1) (Or.inl (by decide))).tr ?_
      have hr := Option.some.inj h
      subst hr
      exact agf.rf
  · replace h := uu_neg c1 h
    by_cases c7 : b3 = true
    · replace h := uu_pos c7 h
      exact hK5 x1 x2 true (x4 + 1) _ _ h
    · replace h := uu_neg c7 h
      obtain ⟨v8, e9, h⟩ := uu_ob h
      obtain ⟨r10, e11, h⟩ := uu_ob h
      refine ((zc_X12_sameBox  e11).mo (by decide) (by decide) (by decide) (fun _ h => nomatch h)).tr ?_
      by_cases c12 : r10.2 = true
      · replace h := uu_pos c12 h
        exact hK5 x1 x2 true (x4 + 1) _ _ h
      · replace h := uu_neg c12 h
        exact hK5 x1 x2 false (x4 + 1) _ _ h
set_option maxRecDepth 100000 in
set_option maxHeartbeats 4000000 in
theorem zn_X12_file1_5     : ∀ (n : Nat) (x1 : Int32) (x2 : Int32) (b3 : Bool) (x4 : Int32)  (s : uS) (r : uS), fn_X12_file1_5   n x1 x2 b3 x4 s = some r → agf [(1079, 21), (1079, 23), (1079, 97)] [1093, 1094, 1138, 1139] [] [] s r := by
  intro n
  induction n with
  | zero => intro x1 x2 b3 x4  s r h
            cases h
  | succ n ih => intro x1 x2 b3 x4  s r h
                 exact zb_X12_file1_5  ih  h
set_option maxRecDepth 100000 in
set_option maxHeartbeats 4000000 in
theorem zc_X12_file1   {x1 : Int32} {x2 : Int32} {s : uS} {r : uS}  (h : fn_X12_file1  x1 x2 s = some r) : agf [(1079, 21), (1079, 23), (1079, 97)] [1093, 1094, 1138, 1139] [] [] s r := by
  unfold fn_X12_file1 at h
  exact zn_X12_file1_5  _ _ _ _ _ _ _ h
set_option maxRecDepth 100000 in
set_option maxHeartbeats 4000000 in
theorem zb_X12_redirect1_4  {K4 : Int32 → Bool → Int32 → uS → Option uS}  (hK4 : ∀ (x1 : Int32) (b2 : Bool) (x3 : Int32)  (s : uS) (r : uS), K4 x1 b2 x3 s = some r → agf [(1079, 100)] [1140] [] [] s r) {x1 : Int32} {b2 : Bool} {x3 : Int32} {s : uS} {r : uS}  (h : fb_X12_redirect1_4  K4 x1 b2 x3 s = some r) : agf [(1079, 100)] [1140] [] [] s r := by
  unfold fb_X12_redirect1_4 at h
  by_cases c1 : (s.I 1079 100) ≤ x3
  · replace h := uu_pos c1 h
    by_cases c2 : b2 = true
    · replace h := uu_pos c2 h
      have hr := Option.some.inj h
      subst hr
      exact agf.rf
    · replace h := uu_neg c2 h
      obtain ⟨s3, e4, h⟩ := uu_ob h
      refine (agf_iput e4 (Or.inl (by decide))).tr ?_
      refine (agf_wI (a := 1079) (f := 100) (v := (s3.I 1079 100) + 1) (Or.inl (by decide))).tr ?_
      have hr := Option.some.inj h
      subst hr
      exact agf.rf
  · replace h := uu_neg c1 h
    by_cases c5 : b2 = true
    · replace h := uu_pos c5 h
      exact hK4 x1 true (x3 + 1) _ _ h
    · replace h := uu_neg c5 h
      obtain ⟨v6, e7, h⟩ := uu_ob h
      obtain ⟨v8, e9, h⟩ := uu_ob h
      by_cases c10 : v8 = true
      · replace h := uu_pos c10 h
        exact hK4 x1 true (x3 + 1) _ _ h
      · replace h := uu_neg c10 h
        exact hK4 x1 false (x3 + 1) _ _ h
set_option maxRecDepth 100000 in
set_option maxHeartbeats 4000000 in
theorem zn_X12_redirect1_4     : ∀ (n : Nat) (x1 : Int32) (b2 : Bool) (x3 : Int32)  (s : uS) (r : uS), fn_X12_redirect1_4   n x1 b2 x3 s = some r → agf [(1079, 100)] [1140] [] [] s r := by
  intro n
  induction n with
  | zero => intro x1 b2 x3  s r h
            cases h
  | succ n ih => intro x1 b2 x3  s r h
                 exact zb_X12_redirect1_4  ih  h
set_option maxRecDepth 100000 in
set_option maxHeartbeats 4000000 in
theorem zc_X12_redirect1   {x1 : Int32} {s : uS} {r : uS}  (h : fn_X12_redirect1  x1 s = some r) : agf [(1079, 100)] [1140] [] [] s r := by
  unfold fn_X12_redirect1 at h
  exact zn_X12_redirect1_4  _ _ _ _ _ _ h
set_option maxRecDepth 100000 in
set_option maxHeartbeats 4000000 in
theorem zb_X12_boxOf_126  {K12 : Int32 → Int32 → uS → Option (uS × Int32)}  (hK12 : ∀ (x1 : Int32) (x2 : Int32)  (s : uS) (r : (uS × Int32)), K12 x1 x2 s = some r → agf [(1079, 21), (1079, 23)] [1093, 1094] [] [] s r.1) {x1 : Int32} {x2 : Int32} {b4 : Bool} {s : uS} {r : (uS × Int32)}  (h : fb_X12_boxOf_126  K12 x1 x2 b4 s = some r) : agf [(1079, 21), (1079, 23)] [1093, 1094] [] [] s r.1 := by
  unfold fb_X12_boxOf_126 at h
  by_cases c1 : b4 = true
  · replace h := uu_pos c1 h
    have hr := Option.some.inj h
    subst hr
    exact agf.rf
  · replace h := uu_neg c1 h
    exact hK12 x1 (x2 + 1) _ _ h
set_option maxRecDepth 100000 in
set_option maxHeartbeats 4000000 in
theorem zb_X12_boxOf_71  {K12 : Int32 → Int32 → uS → Option (uS × Int32)} {K71 : Int32 → Int32 → Int32 → Bool → Int32 → uS → Option (uS × Int32)}  (hK12 : ∀ (x1 : Int32) (x2 : Int32)  (s : uS) (r : (uS × Int32)), K12 x1 x2 s = some r → agf [(1079, 21), (1079, 23)] [1093, 1094] [] [] s r.1) (hK71 : ∀ (x1 : Int32) (x2 : Int32) (x3 : Int32) (b4 : Bool) (x5 : Int32)  (s : uS) (r : (uS × Int32)), K71 x1 x2 x3 b4 x5 s = some r → agf [(1079, 21), (1079, 23)] [1093, 1094] [] [] s r.1) {x1 : Int32} {x2 : Int32} {x3 : Int32} {b4 : Bool} {x5 : Int32} {s : uS} {r : (uS × Int32)}  (h : fb_X12_boxOf_71  K12 K71 x1 x2 x3 b4 x5 s = some r) : agf [(1079, 21), (1079, 23)] [1093, 1094] [] [] s r.1 := by
  unfold fb_X12_boxOf_71 at h
  obtain ⟨v1, e2, h⟩ := uu_ob h
  by_cases c3 : v1 ≤ x5
  · replace h := uu_pos c3 h
    exact zb_X12_boxOf_126 hK12 h
  · replace h := uu_neg c3 h
    by_cases c4 : b4 = true
    · replace h := uu_pos c4 h
      obtain ⟨v5, e6, h⟩ := uu_ob h
      obtain ⟨v7, e8, h⟩ := uu_ob h
      obtain ⟨v9, e10, h⟩ := uu_ob h
      by_cases c11 : v5 = v9
      · replace h := uu_pos c11 h
        exact hK71 x1 x2 x3 true (x5 + 1) _ _ h
      · replace h := uu_neg c11 h
        exact hK71 x1 x2 x3 false (x5 + 1) _ _ h
    · replace h := uu_neg c4 h
      exact zb_X12_boxOf_126 hK12 h
set_option maxRecDepth 100000 in
set_option maxHeartbeats 4000000 in
theorem zn_X12_boxOf_71  {K12 : Int32 → Int32 → uS → Option (uS × Int32)}  (hK12 : ∀ (x1 : Int32) (x2 : Int32)  (s : uS) (r : (uS × Int32)), K12 x1 x2 s = some r → agf [(1079, 21), (1079, 23)] [1093, 1094] [] [] s r.1) : ∀ (n : Nat) (x1 : Int32) (x2 : Int32) (x3 : Int32) (b4 : Bool) (x5 : Int32)  (s : uS) (r : (uS × Int32)), fn_X12_boxOf_71  K12 n x1 x2 x3 b4 x5 s = some r → agf [(1079, 21), (1079, 23)] [1093, 1094] [] [] s r.1 := by
  intro n
  induction n with
  | zero => intro x1 x2 x3 b4 x5  s r h
            cases h
  | succ n ih => intro x1 x2 x3 b4 x5  s r h
                 exact zb_X12_boxOf_71  hK12 ih  h
set_option maxRecDepth 100000 in
set_option maxHeartbeats 4000000 in
theorem zb_X12_boxOf_12  {K12 : Int32 → Int32 → uS → Option (uS × Int32)}  (hK12 : ∀ (x1 : Int32) (x2 : Int32)  (s : uS) (r : (uS × Int32)), K12 x1 x2 s = some r → agf [(1079, 21), (1079, 23)] [1093, 1094] [] [] s r.1) {x1 : Int32} {x2 : Int32} {s : uS} {r : (uS × Int32)}  (h : fb_X12_boxOf_12  K12 x1 x2 s = some r) : agf [(1079, 21), (1079, 23)] [1093, 1094] [] [] s r.1 := by
  unfold fb_X12_boxOf_12 at h
  obtain ⟨v1, e2, h⟩ := uu_ob h
  by_cases c3 : v1 ≤ x2
  · replace h := uu_pos c3 h
    have hr := Option.some.inj h
    subst hr
    exact agf.rf
  · replace h := uu_neg c3 h
    obtain ⟨v4, e5, h⟩ := uu_ob h
    obtain ⟨v6, e7, h⟩ := uu_ob h
    by_cases c8 : v4 = v6
    · replace h := uu_pos c8 h
      exact zn_X12_boxOf_71 hK12 _ _ _ _ _ _ _ _ h
    · replace h := uu_neg c8 h
      exact zn_X12_boxOf_71 hK12 _ _ _ _ _ _ _ _ h
set_option maxRecDepth 100000 in
set_option maxHeartbeats 4000000 in
theorem zn_X12_boxOf_12     : ∀ (n : Nat) (x1 : Int32) (x2 : Int32)  (s : uS) (r : (uS × Int32)), fn_X12_boxOf_12   n x1 x2 s = some r → agf [(1079, 21), (1079, 23)] [1093, 1094] [] [] s r.1 := by
  intro n
  induction n with
  | zero => intro x1 x2  s r h
            cases h
  | succ n ih => intro x1 x2  s r h
                 exact zb_X12_boxOf_12  ih  h
set_option maxRecDepth 100000 in
set_option maxHeartbeats 4000000 in
theorem zc_X12_boxOf   {x1 : Int32} {s : uS} {r : (uS × Int32)}  (h : fn_X12_boxOf  x1 s = some r) : agf [(1079, 21), (1079, 23)] [1093, 1094] [] [] s r.1 := by
  unfold fn_X12_boxOf at h
  obtain ⟨r1, e2, h⟩ := uu_ob h
  refine ((zc_X12_isInbox  e2).mo (by decide) (by decide) (by decide) (fun _ h => nomatch h)).tr ?_
  by_cases c3 : r1.2 = true
  · replace h := uu_pos c3 h
    have hr := Option.some.inj h
    subst hr
    exact agf.rf
  · replace h := uu_neg c3 h
    exact zn_X12_boxOf_12  _ _ _ _ _ h
set_option maxRecDepth 100000 in
set_option maxHeartbeats 4000000 in
theorem zb_X12_newBoxes_4  {K4 : Int32 → Int32 → uS → Option (uS × Int32)}  (hK4 : ∀ (x1 : Int32) (x2 : Int32)  (s : uS) (r : (uS × Int32)), K4 x1 x2 s = some r → agf [(1079, 21), (1079, 23)] [1093, 1094] [] [] s r.1) {x1 : Int32} {x2 : Int32} {s : uS} {r : (uS × Int32)}  (h : fb_X12_newBoxes_4  K4 x1 x2 s = some r) : agf [(1079, 21), (1079, 23)] [1093, 1094] [] [] s r.1 := by
  unfold fb_X12_newBoxes_4 at h
  by_cases c1 : (s.I 1079 97) ≤ x2
  · replace h := uu_pos c1 h
    have hr := Option.some.inj h
    subst hr
    exact agf.rf
  · replace h := uu_neg c1 h
    obtain ⟨v2, e3, h⟩ := uu_ob h
    obtain ⟨r4, e5, h⟩ := uu_ob h
    refine ((zc_X12_boxOf  e5).mo (by decide) (by decide) (by decide) (fun _ h => nomatch h)).tr ?_
    by_cases c6 : 0 ≤ r4.2
    · replace h := uu_pos c6 h
      exact hK4 x1 (x2 + 1) _ _ h
    · replace h := uu_neg c6 h
      exact hK4 (x1 + 1) (x2 + 1) _ _ h
set_option maxRecDepth 100000 in
set_option maxHeartbeats 4000000 in
theorem zn_X12_newBoxes_4     : ∀ (n : Nat) (x1 : Int32) (x2 : Int32)  (s : uS) (r : (uS × Int32)), fn_X12_newBoxes_4   n x1 x2 s = some r → agf [(1079, 21), (1079, 23)] [1093, 1094] [] [] s r.1 := by
  intro n
  induction n with
  | zero => intro x1 x2  s r h
            cases h
  | succ n ih => intro x1 x2  s r h
                 exact zb_X12_newBoxes_4  ih  h
set_option maxRecDepth 100000 in
set_option maxHeartbeats 4000000 in
theorem zc_X12_newBoxes    {s : uS} {r : (uS × Int32)}  (h : fn_X12_newBoxes   s = some r) : agf [(1079, 21), (1079, 23)] [1093, 1094] [] [] s r.1 := by
  unfold fn_X12_newBoxes at h
  exact zn_X12_newBoxes_4  _ _ _ _ _ h
set_option maxRecDepth 100000 in
set_option maxHeartbeats 4000000 in
theorem zb_X12_boxMade_56  {K56 : Int32 → Int32 → Int32 → uS → Option (uS × Int32)}  (hK56 : ∀ (x1 : Int32) (x2 : Int32) (x3 : Int32)  (s : uS) (r : (uS × Int32)), K56 x1 x2 x3 s = some r → agf [(1079, 21), (1079, 23)] [1093, 1094, 1126, 1127, 1128] [] [] s r.1) {x1 : Int32} {x2 : Int32} {x3 : Int32} {s : uS} {r : (uS × Int32)}  (h : fb_X12_boxMade_56  K56 x1 x2 x3 s = some r) : agf [(1079, 21), (1079, 23)] [1093, 1094, 1126, 1127, 1128] [] [] s r.1 := by
  unfold fb_X12_boxMade_56 at h
  obtain ⟨v1, e2, h⟩ := uu_ob h
  by_cases c3 : v1 ≤ x3
  · replace h := uu_pos c3 h
    have hr := Option.some.inj h
    subst hr
    exact agf.rf
  · replace h := uu_neg c3 h
    obtain ⟨v4, e5, h⟩ := uu_ob h
    obtain ⟨v6, e7, h⟩ := uu_ob h
    obtain ⟨s8, e9, h⟩ := uu_ob h
    refine (agf_iput e9 (Or.inl (by decide))).tr ?_
    exact hK56 x1 x2 (x3 + 1) _ _ h
set_option maxRecDepth 100000 in
set_option maxHeartbeats 4000000 in
theorem zn_X12_boxMade_56     : ∀ (n : Nat) (x1 : Int32) (x2 : Int32) (x3 : Int32)  (s : uS) (r : (uS × Int32)), fn_X12_boxMade_56   n x1 x2 x3 s = some r → agf [(1079, 21), (1079, 23)] [1093, 1094, 1126, 1127, 1128] [] [] s r.1 := by
  intro n
  induction n with
  | zero => intro x1 x2 x3  s r h
            cases h
  | succ n ih => intro x1 x2 x3  s r h
                 exact zb_X12_boxMade_56  ih  h
set_option maxRecDepth 100000 in
set_option maxHeartbeats 4000000 in
theorem zc_X12_boxMade   {x1 : Int32} {s : uS} {r : (uS × Int32)}  (h : fn_X12_boxMade  x1 s = some r) : agf [(1079, 21), (1079, 23)] [1093, 1094, 1126, 1127, 1128] [] [] s r.1 := by
  unfold fn_X12_boxMade at h
  obtain ⟨r1, e2, h⟩ := uu_ob h
  refine ((zc_X12_boxOf  e2).mo (by decide) (by decide) (by decide) (fun _ h => nomatch h)).tr ?_
  by_cases c3 : r1.2 < 0
  · replace h := uu_pos c3 h
    obtain ⟨v4, e5, h⟩ := uu_ob h
    obtain ⟨s6, e7, h⟩ := uu_ob h
    refine (agf_iput e7 (Or.inl (by decide))).tr ?_
    obtain ⟨v8, e9, h⟩ := uu_ob h
    obtain ⟨s10, e11, h⟩ := uu_ob h
    refine (agf_iput e11 (Or.inl (by decide))).tr ?_
    exact zn_X12_boxMade_56  _ _ _ _ _ _ h
  · replace h := uu_neg c3 h
    have hr := Option.some.inj h
    subst hr
    exact agf.rf
set_option maxRecDepth 100000 in
set_option maxHeartbeats 4000000 in
theorem zb_X12_hasField_4  {K4 : List Nat → Bool → Int32 → uS → Option (uS × Bool)}  (hK4 : ∀ (w1 : List Nat) (b2 : Bool) (x3 : Int32)  (s : uS) (r : (uS × Bool)), K4 w1 b2 x3 s = some r → agf [(1079, 21), (1079, 23)] [1093, 1094] [] [] s r.1) {w1 : List Nat} {b2 : Bool} {x3 : Int32} {s : uS} {r : (uS × Bool)}  (h : fb_X12_hasField_4  K4 w1 b2 x3 s = some r) : agf [(1079, 21), (1079, 23)] [1093, 1094] [] [] s r.1 := by
  unfold fb_X12_hasField_4 at h
  by_cases c1 : (s.I 1079 14) ≤ x3
  · replace h := uu_pos c1 h
    have hr := Option.some.inj h
    subst hr
    exact agf.rf
  · replace h := uu_neg c1 h
    obtain ⟨s2, e3, h⟩ := uu_ob h
    refine ((zc_X12_oneName  e3).mo (by decide) (by decide) (by decide) (fun _ h => nomatch h)).tr ?_
    by_cases c4 : b2 = true
    · replace h := uu_pos c4 h
      exact hK4 w1 true (x3 + 1) _ _ h
    · replace h := uu_neg c4 h
      obtain ⟨r5, e6, h⟩ := uu_ob h
      refine ((zc_X12_oneIs  e6).mo (by decide) (by decide) (by decide) (fun _ h => nomatch h)).tr ?_
      by_cases c7 : r5.2 = true
      · replace h := uu_pos c7 h
        exact hK4 w1 true (x3 + 1) _ _ h
      · replace h := uu_neg c7 h
        exact hK4 w1 false (x3 + 1) _ _ h
set_option maxRecDepth 100000 in
set_option maxHeartbeats 4000000 in
theorem zn_X12_hasField_4     : ∀ (n : Nat) (w1 : List Nat) (b2 : Bool) (x3 : Int32)  (s : uS) (r : (uS × Bool)), fn_X12_hasField_4   n w1 b2 x3 s = some r → agf [(1079, 21), (1079, 23)] [1093, 1094] [] [] s r.1 := by
  intro n
  induction n with
  | zero => intro w1 b2 x3  s r h
            cases h
  | succ n ih => intro w1 b2 x3  s r h
                 exact zb_X12_hasField_4  ih  h
set_option maxRecDepth 100000 in
set_option maxHeartbeats 4000000 in
theorem zc_X12_hasField   {w1 : List Nat} {s : uS} {r : (uS × Bool)}  (h : fn_X12_hasField  w1 s = some r) : agf [(1079, 21), (1079, 23)] [1093, 1094] [] [] s r.1 := by
  unfold fn_X12_hasField at h
  exact zn_X12_hasField_4  _ _ _ _ _ _ h
set_option maxRecDepth 100000 in
set_option maxHeartbeats 4000000 in
theorem zb_X12_isAutomatic_4  {K4 : Bool → Int32 → uS → Option (uS × Bool)}  (hK4 : ∀ (b1 : Bool) (x2 : Int32)  (s : uS) (r : (uS × Bool)), K4 b1 x2 s = some r → agf [(1079, 21), (1079, 23)] [1093, 1094] [] [] s r.1) {b1 : Bool} {x2 : Int32} {s : uS} {r : (uS × Bool)}  (h : fb_X12_isAutomatic_4  K4 b1 x2 s = some r) : agf [(1079, 21), (1079, 23)] [1093, 1094] [] [] s r.1 := by
  unfold fb_X12_isAutomatic_4 at h
  by_cases c1 : (s.I 1079 14) ≤ x2
  · replace h := uu_pos c1 h
    have hr := Option.some.inj h
    subst hr
    exact agf.rf
  · replace h := uu_neg c1 h
    obtain ⟨s2, e3, h⟩ := uu_ob h
    refine ((zc_X12_oneName  e3).mo (by decide) (by decide) (by decide) (fun _ h => nomatch h)).tr ?_
    obtain ⟨r5, e6, h⟩ := uu_ob h
    refine ((zc_X12_oneIs  e6).mo (by decide) (by decide) (by decide) (fun _ h => nomatch h)).tr ?_
    by_cases c7 : r5.2 = true
    · replace h := uu_pos c7 h
      obtain ⟨s8, e9, h⟩ := uu_ob h
      refine ((zc_X12_oneValue  e9).mo (by decide) (by decide) (by decide) (fun _ h => nomatch h)).tr ?_
      by_cases c10 : b1 = true
      · replace h := uu_pos c10 h
        exact hK4 true (x2 + 1) _ _ h
      · replace h := uu_neg c10 h
        obtain ⟨r12, e13, h⟩ := uu_ob h
        refine ((zc_X12_oneIs  e13).mo (by decide) (by decide) (by decide) (fun _ h => nomatch h)).tr ?_
        by_cases c14 : r12.2 = true
        · replace h := uu_pos c14 h
          exact hK4 false (x2 + 1) _ _ h
        · replace h := uu_neg c14 h
          exact hK4 true (x2 + 1) _ _ h
    · replace h := uu_neg c7 h
      exact hK4 b1 (x2 + 1) _ _ h
set_option maxRecDepth 100000 in
set_option maxHeartbeats 4000000 in
theorem zn_X12_isAutomatic_4     : ∀ (n : Nat) (b1 : Bool) (x2 : Int32)  (s : uS) (r : (uS × Bool)), fn_X12_isAutomatic_4   n b1 x2 s = some r → agf [(1079, 21), (1079, 23)] [1093, 1094] [] [] s r.1 := by
  intro n
  induction n with
  | zero => intro b1 x2  s r h
            cases h
  | succ n ih => intro b1 x2  s r h
                 exact zb_X12_isAutomatic_4  ih  h
set_option maxRecDepth 100000 in
set_option maxHeartbeats 4000000 in
theorem zc_X12_isAutomatic    {s : uS} {r : (uS × Bool)}  (h : fn_X12_isAutomatic   s = some r) : agf [(1079, 21), (1079, 23)] [1093, 1094] [] [] s r.1 := by
  unfold fn_X12_isAutomatic at h
  exact zn_X12_isAutomatic_4  _ _ _ _ _ h
set_option maxRecDepth 100000 in
set_option maxHeartbeats 4000000 in
theorem zb_X12_isNobody_65     {x1 : Int32} {bs0 : Bool} {s : uS} {r : (uS × Bool)}  (h : fb_X12_isNobody_65   x1 bs0 s = some r) : agf [(1079, 21)] [1093] [] [] s r.1 := by
  unfold fb_X12_isNobody_65 at h
  by_cases c1 : bs0 = true
  · replace h := uu_pos c1 h
    have hr := Option.some.inj h
    subst hr
    exact agf.rf
  · replace h := uu_neg c1 h
    obtain ⟨v3, e4, h⟩ := uu_ob h
    by_cases c5 : v3 = true
    · replace h := uu_pos c5 h
      have hr := Option.some.inj h
      subst hr
      exact agf.rf
    · replace h := uu_neg c5 h
      obtain ⟨v7, e8, h⟩ := uu_ob h
      by_cases c9 : v7 = true
      · replace h := uu_pos c9 h
        have hr := Option.some.inj h
        subst hr
        exact agf.rf
      · replace h := uu_neg c9 h
        have hr := Option.some.inj h
        subst hr
        exact agf.rf
set_option maxRecDepth 100000 in
set_option maxHeartbeats 4000000 in
theorem zb_X12_isNobody_43     {x1 : Int32} {s : uS} {r : (uS × Bool)}  (h : fb_X12_isNobody_43   x1 s = some r) : agf [(1079, 21)] [1093] [] [] s r.1 := by
  unfold fb_X12_isNobody_43 at h
  obtain ⟨v2, e3, h⟩ := uu_ob h
  by_cases c4 : v2 = true
  · replace h := uu_pos c4 h
    by_cases c5 : x1 = 9
    · replace h := uu_pos c5 h
      exact zb_X12_isNobody_65  h
    · replace h := uu_neg c5 h
      exact zb_X12_isNobody_65  h
  · replace h := uu_neg c4 h
    exact zb_X12_isNobody_65  h
set_option maxRecDepth 100000 in
set_option maxHeartbeats 4000000 in
theorem zb_X12_isNobody_26     {x1 : Int32} {s : uS} {r : (uS × Bool)}  (h : fb_X12_isNobody_26   x1 s = some r) : agf [(1079, 21)] [1093] [] [] s r.1 := by
  unfold fb_X12_isNobody_26 at h
  obtain ⟨v2, e3, h⟩ := uu_ob h
  by_cases c4 : v2 = true
  · replace h := uu_pos c4 h
    by_cases c5 : x1 = 8
    · replace h := uu_pos c5 h
      exact zb_X12_isNobody_65  h
    · replace h := uu_neg c5 h
      exact zb_X12_isNobody_43  h
  · replace h := uu_neg c4 h
    exact zb_X12_isNobody_43  h
set_option maxRecDepth 100000 in
set_option maxHeartbeats 4000000 in
theorem zc_X12_isNobody    {s : uS} {r : (uS × Bool)}  (h : fn_X12_isNobody   s = some r) : agf [(1079, 21)] [1093] [] [] s r.1 := by
  unfold fn_X12_isNobody at h
  obtain ⟨s1, e2, h⟩ := uu_ob h
  refine ((zc_X12_oneFrom  e2).mo (by decide) (by decide) (by decide) (fun _ h => nomatch h)).tr ?_
  obtain ⟨v3, e4, h⟩ := uu_ob h
  obtain ⟨v6, e7, h⟩ := uu_ob h
  by_cases c8 : v6 = true
  · replace h := uu_pos c8 h
    by_cases c9 : v3 = 13
    · replace h := uu_pos c9 h
      exact zb_X12_isNobody_65  h
    · replace h := uu_neg c9 h
      exact zb_X12_isNobody_26  h
  · replace h := uu_neg c8 h
    exact zb_X12_isNobody_26  h
set_option maxRecDepth 100000 in
set_option maxHeartbeats 4000000 in
theorem zb_X12_isMine_95  {K48 : Bool → Int32 → Int32 → uS → Option (uS × Bool)} {K95 : Int32 → Int32 → Int32 → Int32 → uS → Option (uS × Bool)}  (hK48 : ∀ (b1 : Bool) (x2 : Int32) (x3 : Int32)  (s : uS) (r : (uS × Bool)), K48 b1 x2 x3 s = some r → agf [(1079, 23)] [1094] [] [] s r.1) (hK95 : ∀ (x2 : Int32) (x3 : Int32) (x4 : Int32) (x5 : Int32)  (s : uS) (r : (uS × Bool)), K95 x2 x3 x4 x5 s = some r → agf [(1079, 23)] [1094] [] [] s r.1) {x2 : Int32} {x3 : Int32} {x4 : Int32} {x5 : Int32} {s : uS} {r : (uS × Bool)}  (h : fb_X12_isMine_95  K48 K95 x2 x3 x4 x5 s = some r) : agf [(1079, 23)] [1094] [] [] s r.1 := by
  unfold fb_X12_isMine_95 at h
  by_cases c1 : (s.I 1079 23) ≤ x5
  · replace h := uu_pos c1 h
    obtain ⟨v2, e3, h⟩ := uu_ob h
    exact hK48 v2 x2 (x3 + 1) _ _ h
  · replace h := uu_neg c1 h
    obtain ⟨v4, e5, h⟩ := uu_ob h
    obtain ⟨v6, e7, h⟩ := uu_ob h
    obtain ⟨s8, e9, h⟩ := uu_ob h
    refine (agf_iput e9 (Or.inl (by decide))).tr ?_
    exact hK95 x2 x3 x4 (x5 + 1) _ _ h
set_option maxRecDepth 100000 in
set_option maxHeartbeats 4000000 in
theorem zn_X12_isMine_95  {K48 : Bool → Int32 → Int32 → uS → Option (uS × Bool)}  (hK48 : ∀ (b1 : Bool) (x2 : Int32) (x3 : Int32)  (s : uS) (r : (uS × Bool)), K48 b1 x2 x3 s = some r → agf [(1079, 23)] [1094] [] [] s r.1) : ∀ (n : Nat) (x2 : Int32) (x3 : Int32) (x4 : Int32) (x5 : Int32)  (s : uS) (r : (uS × Bool)), fn_X12_isMine_95  K48 n x2 x3 x4 x5 s = some r → agf [(1079, 23)] [1094] [] [] s r.1 := by
  intro n
  induction n with
  | zero => intro x2 x3 x4 x5  s r h
            cases h
  | succ n ih => intro x2 x3 x4 x5  s r h
                 exact zb_X12_isMine_95  hK48 ih  h
set_option maxRecDepth 100000 in
set_option maxHeartbeats 4000000 in
theorem zb_X12_isMine_48  {K48 : Bool → Int32 → Int32 → uS → Option (uS × Bool)}  (hK48 : ∀ (b1 : Bool) (x2 : Int32) (x3 : Int32)  (s : uS) (r : (uS × Bool)), K48 b1 x2 x3 s = some r → agf [(1079, 23)] [1094] [] [] s r.1) {b1 : Bool} {x2 : Int32} {x3 : Int32} {s : uS} {r : (uS × Bool)}  (h : fb_X12_isMine_48  K48 b1 x2 x3 s = some r) : agf [(1079, 23)] [1094] [] [] s r.1 := by
  unfold fb_X12_isMine_48 at h
  obtain ⟨v1, e2, h⟩ := uu_ob h
  by_cases c3 : v1 < 0
  · replace h := uu_pos c3 h
    have hr := Option.some.inj h
    subst hr
    exact agf.rf
  · replace h := uu_neg c3 h
    obtain ⟨v4, e5, h⟩ := uu_ob h
    by_cases c6 : v4 ≤ x3
    · replace h := uu_pos c6 h
      have hr := Option.some.inj h
      subst hr
      exact agf.rf
    · replace h := uu_neg c6 h
      by_cases c7 : b1 = true
      · replace h := uu_pos c7 h
        have hr := Option.some.inj h
        subst hr
        exact agf.rf
      · replace h := uu_neg c7 h
        obtain ⟨v8, e9, h⟩ := uu_ob h
        obtain ⟨v10, e11, h⟩ := uu_ob h
        refine (agf_wI (a := 1079) (f := 23) (v := v10) (Or.inl (by decide))).tr ?_
        exact zn_X12_isMine_95 hK48 _ _ _ _ _ _ _ h
set_option maxRecDepth 100000 in
set_option maxHeartbeats 4000000 in
theorem zn_X12_isMine_48     : ∀ (n : Nat) (b1 : Bool) (x2 : Int32) (x3 : Int32)  (s : uS) (r : (uS × Bool)), fn_X12_isMine_48   n b1 x2 x3 s = some r → agf [(1079, 23)] [1094] [] [] s r.1 := by
  intro n
  induction n with
  | zero => intro b1 x2 x3  s r h
            cases h
  | succ n ih => intro b1 x2 x3  s r h
                 exact zb_X12_isMine_48  ih  h
set_option maxRecDepth 100000 in
set_option maxHeartbeats 4000000 in
theorem zb_X12_isMine_10  {K10 : Int32 → uS → Option (uS × Bool)}  (hK10 : ∀ (x1 : Int32)  (s : uS) (r : (uS × Bool)), K10 x1 s = some r → agf [(1079, 23)] [1094] [] [] s r.1) {x1 : Int32} {s : uS} {r : (uS × Bool)}  (h : fb_X12_isMine_10  K10 x1 s = some r) : agf [(1079, 23)] [1094] [] [] s r.1 := by
  unfold fb_X12_isMine_10 at h
  by_cases c1 : (s.I 1079 91) ≤ x1
  · replace h := uu_pos c1 h
    obtain ⟨v2, e3, h⟩ := uu_ob h
    exact zn_X12_isMine_48  _ _ _ _ _ _ h
  · replace h := uu_neg c1 h
    obtain ⟨v4, e5, h⟩ := uu_ob h
    obtain ⟨s6, e7, h⟩ := uu_ob h
    refine (agf_iput e7 (Or.inl (by decide))).tr ?_
    exact hK10 (x1 + 1) _ _ h
set_option maxRecDepth 100000 in
set_option maxHeartbeats 4000000 in
theorem zn_X12_isMine_10     : ∀ (n : Nat) (x1 : Int32)  (s : uS) (r : (uS × Bool)), fn_X12_isMine_10   n x1 s = some r → agf [(1079, 23)] [1094] [] [] s r.1 := by
  intro n
  induction n with
  | zero => intro x1  s r h
            cases h
  | succ n ih => intro x1  s r h
                 exact zb_X12_isMine_10  ih  h
set_option maxRecDepth 100000 in
set_option maxHeartbeats 4000000 in
theorem zc_X12_isMine    {s : uS} {r : (uS × Bool)}  (h : fn_X12_isMine   s = some r) : agf [(1079, 23)] [1094] [] [] s r.1 := by
  unfold fn_X12_isMine at h
  refine (agf_wI (a := 1079) (f := 23) (v := s.I 1079 91) (Or.inl (by decide))).tr ?_
  exact zn_X12_isMine_10  _ _ _ _ h
set_option maxRecDepth 100000 in
set_option maxHeartbeats 4000000 in
theorem zb_X12_isForMe_73  {K4 : Bool → Int32 → uS → Option (uS × Bool)} {K73 : Bool → Int32 → uS → Option (uS × Bool)}  (hK4 : ∀ (b1 : Bool) (x2 : Int32)  (s : uS) (r : (uS × Bool)), K4 b1 x2 s = some r → agf [(1079, 21), (1079, 23), (1079, 24), (1079, 25), (1079, 27)] [1093, 1094, 1095] [] [] s r.1) (hK73 : ∀ (b1 : Bool) (x2 : Int32)  (s : uS) (r : (uS × Bool)), K73 b1 x2 s = some r → agf [(1079, 21), (1079, 23), (1079, 24), (1079, 25), (1079, 27)] [1093, 1094, 1095] [] [] s r.1) {b1 : Bool} {x2 : Int32} {s : uS} {r : (uS × Bool)}  (h : fb_X12_isForMe_73  K4 K73 b1 x2 s = some r) : agf [(1079, 21), (1079, 23), (1079, 24), (1079, 25), (1079, 27)] [1093, 1094, 1095] [] [] s r.1 := by
  unfold fb_X12_isForMe_73 at h
  obtain ⟨r1, e2, h⟩ := uu_ob h
  refine ((zc_X12_nextPart  e2).mo (by decide) (by decide) (by decide) (fun _ h => nomatch h)).tr ?_
  by_cases c3 : r1.2 = true
  · replace h := uu_pos c3 h
    by_cases c4 : b1 = true
    · replace h := uu_pos c4 h
      exact hK73 true x2 _ _ h
    · replace h := uu_neg c4 h
      obtain ⟨v5, e6, h⟩ := uu_ob h
      by_cases c7 : v5 < 0
      · replace h := uu_pos c7 h
        exact hK73 false x2 _ _ h
      · replace h := uu_neg c7 h
        obtain ⟨r8, e9, h⟩ := uu_ob h
        refine ((zc_X12_isMine  e9).mo (by decide) (by decide) (by decide) (fun _ h => nomatch h)).tr ?_
        by_cases c10 : r8.2 = true
        · replace h := uu_pos c10 h
          exact hK73 true x2 _ _ h
        · replace h := uu_neg c10 h
          exact hK73 false x2 _ _ h
  · replace h := uu_neg c3 h
    exact hK4 b1 (x2 + 1) _ _ h
set_option maxRecDepth 100000 in
set_option maxHeartbeats 4000000 in
theorem zn_X12_isForMe_73  {K4 : Bool → Int32 → uS → Option (uS × Bool)}  (hK4 : ∀ (b1 : Bool) (x2 : Int32)  (s : uS) (r : (uS × Bool)), K4 b1 x2 s = some r → agf [(1079, 21), (1079, 23), (1079, 24), (1079, 25), (1079, 27)] [1093, 1094, 1095] [] [] s r.1) : ∀ (n : Nat) (b1 : Bool) (x2 : Int32)  (s : uS) (r : (uS × Bool)), fn_X12_isForMe_73  K4 n b1 x2 s = some r → agf [(1079, 21), (1079, 23), (1079, 24), (1079, 25), (1079, 27)] [1093, 1094, 1095] [] [] s r.1 := by
  intro n
  induction n with
  | zero => intro b1 x2  s r h
            cases h
  | succ n ih => intro b1 x2  s r h
                 exact zb_X12_isForMe_73  hK4 ih  h
set_option maxRecDepth 100000 in
set_option maxHeartbeats 4000000 in
theorem zb_X12_isForMe_52  {K4 : Bool → Int32 → uS → Option (uS × Bool)}  (hK4 : ∀ (b1 : Bool) (x2 : Int32)  (s : uS) (r : (uS × Bool)), K4 b1 x2 s = some r → agf [(1079, 21), (1079, 23), (1079, 24), (1079, 25), (1079, 27)] [1093, 1094, 1095] [] [] s r.1) {b1 : Bool} {x2 : Int32} {bs0 : Bool} {s : uS} {r : (uS × Bool)}  (h : fb_X12_isForMe_52  K4 b1 x2 bs0 s = some r) : agf [(1079, 21), (1079, 23), (1079, 24), (1079, 25), (1079, 27)] [1093, 1094, 1095] [] [] s r.1 := by
  unfold fb_X12_isForMe_52 at h
  by_cases c1 : bs0 = true
  · replace h := uu_pos c1 h
    obtain ⟨s2, e3, h⟩ := uu_ob h
    refine ((zc_X12_oneValue  e3).mo (by decide) (by decide) (by decide) (fun _ h => nomatch h)).tr ?_
    obtain ⟨s4, e5, h⟩ := uu_ob h
    refine ((zc_X12_keepWhole  e5).mo (by decide) (by decide) (by decide) (fun _ h => nomatch h)).tr ?_
    obtain ⟨s6, e7, h⟩ := uu_ob h
    refine ((zc_X12_beginParts  e7).mo (by decide) (by decide) (by decide) (fun _ h => nomatch h)).tr ?_
    exact zn_X12_isForMe_73 hK4 _ _ _ _ _ h
  · replace h := uu_neg c1 h
    exact hK4 b1 (x2 + 1) _ _ h
set_option maxRecDepth 100000 in
set_option maxHeartbeats 4000000 in
theorem zb_X12_isForMe_4  {K4 : Bool → Int32 → uS → Option (uS × Bool)}  (hK4 : ∀ (b1 : Bool) (x2 : Int32)  (s : uS) (r : (uS × Bool)), K4 b1 x2 s = some r → agf [(1079, 21), (1079, 23), (1079, 24), (1079, 25), (1079, 27)] [1093, 1094, 1095] [] [] s r.1) {b1 : Bool} {x2 : Int32} {s : uS} {r : (uS × Bool)}  (h : fb_X12_isForMe_4  K4 b1 x2 s = some r) : agf [(1079, 21), (1079, 23), (1079, 24), (1079, 25), (1079, 27)] [1093, 1094, 1095] [] [] s r.1 := by
  unfold fb_X12_isForMe_4 at h
  by_cases c1 : (s.I 1079 14) ≤ x2
  · replace h := uu_pos c1 h
    have hr := Option.some.inj h
    subst hr
    exact agf.rf
  · replace h := uu_neg c1 h
    obtain ⟨s2, e3, h⟩ := uu_ob h
    refine ((zc_X12_oneName  e3).mo (by decide) (by decide) (by decide) (fun _ h => nomatch h)).tr ?_
    obtain ⟨r5, e6, h⟩ := uu_ob h
    refine ((zc_X12_oneIs  e6).mo (by decide) (by decide) (by decide) (fun _ h => nomatch h)).tr ?_
    by_cases c7 : r5.2 = true
    · replace h := uu_pos c7 h
      exact zb_X12_isForMe_52 hK4 h
    · replace h := uu_neg c7 h
      obtain ⟨r9, e10, h⟩ := uu_ob h
      refine ((zc_X12_oneIs  e10).mo (by decide) (by decide) (by decide) (fun _ h => nomatch h)).tr ?_
      by_cases c11 : r9.2 = true
      · replace h := uu_pos c11 h
        exact zb_X12_isForMe_52 hK4 h
      · replace h := uu_neg c11 h
        obtain ⟨r13, e14, h⟩ := uu_ob h
        refine ((zc_X12_oneIs  e14).mo (by decide) (by decide) (by decide) (fun _ h => nomatch h)).tr ?_
        by_cases c15 : r13.2 = true
        · replace h := uu_pos c15 h
          exact zb_X12_isForMe_52 hK4 h
        · replace h := uu_neg c15 h
          exact zb_X12_isForMe_52 hK4 h
set_option maxRecDepth 100000 in
set_option maxHeartbeats 4000000 in
theorem zn_X12_isForMe_4     : ∀ (n : Nat) (b1 : Bool) (x2 : Int32)  (s : uS) (r : (uS × Bool)), fn_X12_isForMe_4   n b1 x2 s = some r → agf [(1079, 21), (1079, 23), (1079, 24), (1079, 25), (1079, 27)] [1093, 1094, 1095] [] [] s r.1 := by
  intro n
  induction n with
  | zero => intro b1 x2  s r h
            cases h
  | succ n ih => intro b1 x2  s r h
                 exact zb_X12_isForMe_4  ih  h
set_option maxRecDepth 100000 in
set_option maxHeartbeats 4000000 in
theorem zc_X12_isForMe    {s : uS} {r : (uS × Bool)}  (h : fn_X12_isForMe   s = some r) : agf [(1079, 21), (1079, 23), (1079, 24), (1079, 25), (1079, 27)] [1093, 1094, 1095] [] [] s r.1 := by
  unfold fn_X12_isForMe at h
  exact zn_X12_isForMe_4  _ _ _ _ _ h
