set_option maxRecDepth 100000 in
set_option maxHeartbeats 4000000 in
theorem zc_X12_answers    {s : uS} {r : (uS × Bool)}  (h : fn_X12_answers   s = some r) : agf [(1079, 21), (1079, 23), (1079, 24), (1079, 25), (1079, 27)] [1093, 1094, 1095] [] [] s r.1 := by
  unfold fn_X12_answers at h
  by_cases c1 : (s.I 1079 104) ≤ 0
  · replace h := uu_pos c1 h
    have hr := Option.some.inj h
    subst hr
    exact agf.rf
  · replace h := uu_neg c1 h
    by_cases c2 : (s.I 1079 93) ≤ 0
    · replace h := uu_pos c2 h
      have hr := Option.some.inj h
      subst hr
      exact agf.rf
    · replace h := uu_neg c2 h
      obtain ⟨r3, e4, h⟩ := uu_ob h
      refine ((zc_X12_isNobody  e4).mo (by decide) (by decide) (by decide) (fun _ h => nomatch h)).tr ?_
      by_cases c5 : r3.2 = true
      · replace h := uu_pos c5 h
        have hr := Option.some.inj h
        subst hr
        exact agf.rf
      · replace h := uu_neg c5 h
        obtain ⟨r7, e8, h⟩ := uu_ob h
        refine ((zc_X12_hasField  e8).mo (by decide) (by decide) (by decide) (fun _ h => nomatch h)).tr ?_
        by_cases c9 : r7.2 = true
        · replace h := uu_pos c9 h
          have hr := Option.some.inj h
          subst hr
          exact agf.rf
        · replace h := uu_neg c9 h
          obtain ⟨r11, e12, h⟩ := uu_ob h
          refine ((zc_X12_hasField  e12).mo (by decide) (by decide) (by decide) (fun _ h => nomatch h)).tr ?_
          by_cases c13 : r11.2 = true
          · replace h := uu_pos c13 h
            have hr := Option.some.inj h
            subst hr
            exact agf.rf
          · replace h := uu_neg c13 h
            obtain ⟨r15, e16, h⟩ := uu_ob h
            refine ((zc_X12_hasField  e16).mo (by decide) (by decide) (by decide) (fun _ h => nomatch h)).tr ?_
            by_cases c17 : r15.2 = true
            · replace h := uu_pos c17 h
              have hr := Option.some.inj h
              subst hr
              exact agf.rf
            · replace h := uu_neg c17 h
              obtain ⟨r18, e19, h⟩ := uu_ob h
              refine ((zc_X12_isAutomatic  e19).mo (by decide) (by decide) (by decide) (fun _ h => nomatch h)).tr ?_
              by_cases c20 : r18.2 = true
              · replace h := uu_pos c20 h
                have hr := Option.some.inj h
                subst hr
                exact agf.rf
              · replace h := uu_neg c20 h
                obtain ⟨r21, e22, h⟩ := uu_ob h
                refine ((zc_X12_isForMe  e22).mo (by decide) (by decide) (by decide) (fun _ h => nomatch h)).tr ?_
                by_cases c23 : r21.2 = true
                · replace h := uu_pos c23 h
                  obtain ⟨v24, e25, h⟩ := uu_ob h
                  by_cases c26 : v24 = true
                  · replace h := uu_pos c26 h
                    have hr := Option.some.inj h
                    subst hr
                    exact agf.rf
                  · replace h := uu_neg c26 h
                    have hr := Option.some.inj h
                    subst hr
                    exact agf.rf
                · replace h := uu_neg c23 h
                  have hr := Option.some.inj h
                  subst hr
                  exact agf.rf
set_option maxRecDepth 100000 in
set_option maxHeartbeats 4000000 in
theorem zb_X12_moveNote_78  {K78 : Int32 → Int32 → Int32 → uS → Option uS}  (hK78 : ∀ (x1 : Int32) (x2 : Int32) (x3 : Int32)  (s : uS) (r : uS), K78 x1 x2 x3 s = some r → agf [] [1130, 1131, 1132, 1133, 1134, 1135] [] [] s r) {x1 : Int32} {x2 : Int32} {x3 : Int32} {s : uS} {r : uS}  (h : fb_X12_moveNote_78  K78 x1 x2 x3 s = some r) : agf [] [1130, 1131, 1132, 1133, 1134, 1135] [] [] s r := by
  unfold fb_X12_moveNote_78 at h
  obtain ⟨v1, e2, h⟩ := uu_ob h
  by_cases c3 : v1 ≤ x3
  · replace h := uu_pos c3 h
    have hr := Option.some.inj h
    subst hr
    exact agf.rf
  · replace h := uu_neg c3 h
    obtain ⟨v4, e5, h⟩ := uu_ob h
    obtain ⟨s6, e7, h⟩ := uu_ob h
    refine ((zc_X12_setHandle  e7).mo (by decide) (by decide) (by decide) (fun _ h => nomatch h)).tr ?_
    exact hK78 x1 x2 (x3 + 1) _ _ h
set_option maxRecDepth 100000 in
set_option maxHeartbeats 4000000 in
theorem zn_X12_moveNote_78     : ∀ (n : Nat) (x1 : Int32) (x2 : Int32) (x3 : Int32)  (s : uS) (r : uS), fn_X12_moveNote_78   n x1 x2 x3 s = some r → agf [] [1130, 1131, 1132, 1133, 1134, 1135] [] [] s r := by
  intro n
  induction n with
  | zero => intro x1 x2 x3  s r h
            cases h
  | succ n ih => intro x1 x2 x3  s r h
                 exact zb_X12_moveNote_78  ih  h
set_option maxRecDepth 100000 in
set_option maxHeartbeats 4000000 in
theorem zb_X12_moveNote_38  {K38 : Int32 → Int32 → Int32 → uS → Option uS}  (hK38 : ∀ (x1 : Int32) (x2 : Int32) (x3 : Int32)  (s : uS) (r : uS), K38 x1 x2 x3 s = some r → agf [] [1130, 1131, 1132, 1133, 1134, 1135] [] [] s r) {x1 : Int32} {x2 : Int32} {x3 : Int32} {s : uS} {r : uS}  (h : fb_X12_moveNote_38  K38 x1 x2 x3 s = some r) : agf [] [1130, 1131, 1132, 1133, 1134, 1135] [] [] s r := by
  unfold fb_X12_moveNote_38 at h
  obtain ⟨v1, e2, h⟩ := uu_ob h
  by_cases c3 : v1 ≤ x3
  · replace h := uu_pos c3 h
    exact zn_X12_moveNote_78  _ _ _ _ _ _ h
  · replace h := uu_neg c3 h
    obtain ⟨v4, e5, h⟩ := uu_ob h
    obtain ⟨s6, e7, h⟩ := uu_ob h
    refine (agf_iput e7 (Or.inl (by decide))).tr ?_
    exact hK38 x1 x2 (x3 + 1) _ _ h
set_option maxRecDepth 100000 in
set_option maxHeartbeats 4000000 in
theorem zn_X12_moveNote_38     : ∀ (n : Nat) (x1 : Int32) (x2 : Int32) (x3 : Int32)  (s : uS) (r : uS), fn_X12_moveNote_38   n x1 x2 x3 s = some r → agf [] [1130, 1131, 1132, 1133, 1134, 1135] [] [] s r := by
  intro n
  induction n with
  | zero => intro x1 x2 x3  s r h
            cases h
  | succ n ih => intro x1 x2 x3  s r h
                 exact zb_X12_moveNote_38  ih  h
set_option maxRecDepth 100000 in
set_option maxHeartbeats 4000000 in
theorem zc_X12_moveNote   {x1 : Int32} {x2 : Int32} {s : uS} {r : uS}  (h : fn_X12_moveNote  x1 x2 s = some r) : agf [] [1130, 1131, 1132, 1133, 1134, 1135] [] [] s r := by
  unfold fn_X12_moveNote at h
  obtain ⟨v1, e2, h⟩ := uu_ob h
  obtain ⟨s3, e4, h⟩ := uu_ob h
  refine (agf_iput e4 (Or.inl (by decide))).tr ?_
  obtain ⟨v5, e6, h⟩ := uu_ob h
  obtain ⟨s7, e8, h⟩ := uu_ob h
  refine (agf_iput e8 (Or.inl (by decide))).tr ?_
  obtain ⟨v9, e10, h⟩ := uu_ob h
  obtain ⟨s11, e12, h⟩ := uu_ob h
  refine (agf_iput e12 (Or.inl (by decide))).tr ?_
  exact zn_X12_moveNote_38  _ _ _ _ _ _ h
set_option maxRecDepth 100000 in
set_option maxHeartbeats 4000000 in
theorem zb_X12_addNote_173  {K173 : Int32 → Int32 → Int32 → uS → Option uS}  (hK173 : ∀ (x1 : Int32) (x2 : Int32) (x3 : Int32)  (s : uS) (r : uS), K173 x1 x2 x3 s = some r → agf [] [1129, 1130, 1131, 1132, 1133, 1134, 1135] [] [] s r) {x1 : Int32} {x2 : Int32} {x3 : Int32} {s : uS} {r : uS}  (h : fb_X12_addNote_173  K173 x1 x2 x3 s = some r) : agf [] [1129, 1130, 1131, 1132, 1133, 1134, 1135] [] [] s r := by
  unfold fb_X12_addNote_173 at h
  obtain ⟨v1, e2, h⟩ := uu_ob h
  by_cases c3 : v1 ≤ x3
  · replace h := uu_pos c3 h
    have hr := Option.some.inj h
    subst hr
    exact agf.rf
  · replace h := uu_neg c3 h
    obtain ⟨v4, e5, h⟩ := uu_ob h
    obtain ⟨v6, e7, h⟩ := uu_ob h
    obtain ⟨s8, e9, h⟩ := uu_ob h
    refine ((zc_X12_setHandle  e9).mo (by decide) (by decide) (by decide) (fun _ h => nomatch h)).tr ?_
    exact hK173 x1 x2 (x3 + 1) _ _ h
set_option maxRecDepth 100000 in
set_option maxHeartbeats 4000000 in
theorem zn_X12_addNote_173     : ∀ (n : Nat) (x1 : Int32) (x2 : Int32) (x3 : Int32)  (s : uS) (r : uS), fn_X12_addNote_173   n x1 x2 x3 s = some r → agf [] [1129, 1130, 1131, 1132, 1133, 1134, 1135] [] [] s r := by
  intro n
  induction n with
  | zero => intro x1 x2 x3  s r h
            cases h
  | succ n ih => intro x1 x2 x3  s r h
                 exact zb_X12_addNote_173  ih  h
set_option maxRecDepth 100000 in
set_option maxHeartbeats 4000000 in
theorem zb_X12_addNote_123  {K123 : Int32 → Int32 → uS → Option uS}  (hK123 : ∀ (x1 : Int32) (x2 : Int32)  (s : uS) (r : uS), K123 x1 x2 s = some r → agf [] [1129, 1130, 1131, 1132, 1133, 1134, 1135] [] [] s r) {x1 : Int32} {x2 : Int32} {s : uS} {r : uS}  (h : fb_X12_addNote_123  K123 x1 x2 s = some r) : agf [] [1129, 1130, 1131, 1132, 1133, 1134, 1135] [] [] s r := by
  unfold fb_X12_addNote_123 at h
  by_cases c1 : (s.I 1079 93) ≤ x2
  · replace h := uu_pos c1 h
    obtain ⟨v2, e3, h⟩ := uu_ob h
    obtain ⟨v4, e5, h⟩ := uu_ob h
    obtain ⟨s6, e7, h⟩ := uu_ob h
    refine (agf_iput e7 (Or.inl (by decide))).tr ?_
    exact zn_X12_addNote_173  _ _ _ _ _ _ h
  · replace h := uu_neg c1 h
    obtain ⟨v8, e9, h⟩ := uu_ob h
    obtain ⟨s10, e11, h⟩ := uu_ob h
    refine (agf_iput e11 (Or.inl (by decide))).tr ?_
    exact hK123 x1 (x2 + 1) _ _ h
set_option maxRecDepth 100000 in
set_option maxHeartbeats 4000000 in
theorem zn_X12_addNote_123     : ∀ (n : Nat) (x1 : Int32) (x2 : Int32)  (s : uS) (r : uS), fn_X12_addNote_123   n x1 x2 s = some r → agf [] [1129, 1130, 1131, 1132, 1133, 1134, 1135] [] [] s r := by
  intro n
  induction n with
  | zero => intro x1 x2  s r h
            cases h
  | succ n ih => intro x1 x2  s r h
                 exact zb_X12_addNote_123  ih  h
set_option maxRecDepth 100000 in
set_option maxHeartbeats 4000000 in
theorem zb_X12_addNote_63      {s : uS} {r : uS}  (h : fb_X12_addNote_63    s = some r) : agf [] [1129, 1130, 1131, 1132, 1133, 1134, 1135] [] [] s r := by
  unfold fb_X12_addNote_63 at h
  obtain ⟨v1, e2, h⟩ := uu_ob h
  obtain ⟨v3, e4, h⟩ := uu_ob h
  obtain ⟨s5, e6, h⟩ := uu_ob h
  refine (agf_iput e6 (Or.inl (by decide))).tr ?_
  obtain ⟨s7, e8, h⟩ := uu_ob h
  refine (agf_iput e8 (Or.inl (by decide))).tr ?_
  obtain ⟨s9, e10, h⟩ := uu_ob h
  refine (agf_iput e10 (Or.inl (by decide))).tr ?_
  exact zn_X12_addNote_123  _ _ _ _ _ h
set_option maxRecDepth 100000 in
set_option maxHeartbeats 4000000 in
theorem zb_X12_addNote_16  {K16 : Int32 → uS → Option uS}  (hK16 : ∀ (x1 : Int32)  (s : uS) (r : uS), K16 x1 s = some r → agf [] [1129, 1130, 1131, 1132, 1133, 1134, 1135] [] [] s r) {x1 : Int32} {s : uS} {r : uS}  (h : fb_X12_addNote_16  K16 x1 s = some r) : agf [] [1129, 1130, 1131, 1132, 1133, 1134, 1135] [] [] s r := by
  unfold fb_X12_addNote_16 at h
  by_cases c1 : (40 : Int32) ≤ x1
  · replace h := uu_pos c1 h
    obtain ⟨s2, e3, h⟩ := uu_ob h
    refine (agf_iput e3 (Or.inl (by decide))).tr ?_
    exact zb_X12_addNote_63  h
  · replace h := uu_neg c1 h
    obtain ⟨s4, e5, h⟩ := uu_ob h
    refine ((zc_X12_moveNote  e5).mo (by decide) (by decide) (by decide) (fun _ h => nomatch h)).tr ?_
    exact hK16 (x1 + 1) _ _ h
set_option maxRecDepth 100000 in
set_option maxHeartbeats 4000000 in
theorem zn_X12_addNote_16     : ∀ (n : Nat) (x1 : Int32)  (s : uS) (r : uS), fn_X12_addNote_16   n x1 s = some r → agf [] [1129, 1130, 1131, 1132, 1133, 1134, 1135] [] [] s r := by
  intro n
  induction n with
  | zero => intro x1  s r h
            cases h
  | succ n ih => intro x1  s r h
                 exact zb_X12_addNote_16  ih  h
set_option maxRecDepth 100000 in
set_option maxHeartbeats 4000000 in
theorem zc_X12_addNote    {s : uS} {r : uS}  (h : fn_X12_addNote   s = some r) : agf [] [1129, 1130, 1131, 1132, 1133, 1134, 1135] [] [] s r := by
  unfold fn_X12_addNote at h
  obtain ⟨v1, e2, h⟩ := uu_ob h
  by_cases c3 : v1 = 40
  · replace h := uu_pos c3 h
    exact zn_X12_addNote_16  _ _ _ _ h
  · replace h := uu_neg c3 h
    exact zb_X12_addNote_63  h
set_option maxRecDepth 100000 in
set_option maxHeartbeats 4000000 in
theorem zc_X12_write   {x1 : Int32} {s : uS} {r : uS}  (h : fn_X12_write  x1 s = some r) : agf [(1079, 112)] [1143] [] [] s r := by
  unfold fn_X12_write at h
  obtain ⟨s1, e2, h⟩ := uu_ob h
  refine (agf_iput e2 (Or.inl (by decide))).tr ?_
  refine (agf_wI (a := 1079) (f := 112) (v := (s1.I 1079 112) + 1) (Or.inl (by decide))).tr ?_
  have hr := Option.some.inj h
  subst hr
  exact agf.rf
set_option maxRecDepth 100000 in
set_option maxHeartbeats 4000000 in
theorem zb_X12_writeWord_2  {K2 : List Nat → Int32 → uS → Option uS}  (hK2 : ∀ (w1 : List Nat) (x2 : Int32)  (s : uS) (r : uS), K2 w1 x2 s = some r → agf [(1079, 112)] [1143] [] [] s r) {w1 : List Nat} {x2 : Int32} {s : uS} {r : uS}  (h : fb_X12_writeWord_2  K2 w1 x2 s = some r) : agf [(1079, 112)] [1143] [] [] s r := by
  unfold fb_X12_writeWord_2 at h
  by_cases c1 : (nI w1.length) ≤ x2
  · replace h := uu_pos c1 h
    have hr := Option.some.inj h
    subst hr
    exact agf.rf
  · replace h := uu_neg c1 h
    obtain ⟨v2, e3, h⟩ := uu_ob h
    obtain ⟨s4, e5, h⟩ := uu_ob h
    refine ((zc_X12_write  e5).mo (by decide) (by decide) (by decide) (fun _ h => nomatch h)).tr ?_
    exact hK2 w1 (x2 + 1) _ _ h
set_option maxRecDepth 100000 in
set_option maxHeartbeats 4000000 in
theorem zn_X12_writeWord_2     : ∀ (n : Nat) (w1 : List Nat) (x2 : Int32)  (s : uS) (r : uS), fn_X12_writeWord_2   n w1 x2 s = some r → agf [(1079, 112)] [1143] [] [] s r := by
  intro n
  induction n with
  | zero => intro w1 x2  s r h
            cases h
  | succ n ih => intro w1 x2  s r h
                 exact zb_X12_writeWord_2  ih  h
set_option maxRecDepth 100000 in
set_option maxHeartbeats 4000000 in
theorem zc_X12_writeWord   {w1 : List Nat} {s : uS} {r : uS}  (h : fn_X12_writeWord  w1 s = some r) : agf [(1079, 112)] [1143] [] [] s r := by
  unfold fn_X12_writeWord at h
  exact zn_X12_writeWord_2  _ _ _ _ _ h
set_option maxRecDepth 100000 in
set_option maxHeartbeats 4000000 in
theorem zb_X12_writeString_2  {K2 : Int32 → Int32 → uS → Option uS}  (hK2 : ∀ (x1 : Int32) (x2 : Int32)  (s : uS) (r : uS), K2 x1 x2 s = some r → agf [(1079, 112)] [1143] [] [] s r) {x1 : Int32} {x2 : Int32} {s : uS} {r : uS}  (h : fb_X12_writeString_2  K2 x1 x2 s = some r) : agf [(1079, 112)] [1143] [] [] s r := by
  unfold fb_X12_writeString_2 at h
  obtain ⟨v1, e2, h⟩ := uu_ob h
  by_cases c3 : v1 ≤ x2
  · replace h := uu_pos c3 h
    have hr := Option.some.inj h
    subst hr
    exact agf.rf
  · replace h := uu_neg c3 h
    obtain ⟨v4, e5, h⟩ := uu_ob h
    obtain ⟨v6, e7, h⟩ := uu_ob h
    obtain ⟨s8, e9, h⟩ := uu_ob h
    refine ((zc_X12_write  e9).mo (by decide) (by decide) (by decide) (fun _ h => nomatch h)).tr ?_
    exact hK2 x1 (x2 + 1) _ _ h
set_option maxRecDepth 100000 in
set_option maxHeartbeats 4000000 in
theorem zn_X12_writeString_2     : ∀ (n : Nat) (x1 : Int32) (x2 : Int32)  (s : uS) (r : uS), fn_X12_writeString_2   n x1 x2 s = some r → agf [(1079, 112)] [1143] [] [] s r := by
  intro n
  induction n with
  | zero => intro x1 x2  s r h
            cases h
  | succ n ih => intro x1 x2  s r h
                 exact zb_X12_writeString_2  ih  h
set_option maxRecDepth 100000 in
set_option maxHeartbeats 4000000 in
theorem zc_X12_writeString   {x1 : Int32} {s : uS} {r : uS}  (h : fn_X12_writeString  x1 s = some r) : agf [(1079, 112)] [1143] [] [] s r := by
  unfold fn_X12_writeString at h
  exact zn_X12_writeString_2  _ _ _ _ _ h
set_option maxRecDepth 100000 in
set_option maxHeartbeats 4000000 in
theorem zc_X12_writeEnd    {s : uS} {r : uS}  (h : fn_X12_writeEnd   s = some r) : agf [(1079, 112)] [1143] [] [] s r := by
  unfold fn_X12_writeEnd at h
  obtain ⟨s1, e2, h⟩ := uu_ob h
  refine ((zc_X12_write  e2).mo (by decide) (by decide) (by decide) (fun _ h => nomatch h)).tr ?_
  obtain ⟨s3, e4, h⟩ := uu_ob h
  refine ((zc_X12_write  e4).mo (by decide) (by decide) (by decide) (fun _ h => nomatch h)).tr ?_
  have hr := Option.some.inj h
  subst hr
  exact agf.rf
set_option maxRecDepth 100000 in
set_option maxHeartbeats 4000000 in
theorem zb_X12_writeSubject_30  {K30 : Int32 → Int32 → uS → Option uS}  (hK30 : ∀ (x1 : Int32) (x2 : Int32)  (s : uS) (r : uS), K30 x1 x2 s = some r → agf [(1079, 21), (1079, 23), (1079, 112)] [1093, 1094, 1143] [] [] s r) {x1 : Int32} {x2 : Int32} {s : uS} {r : uS}  (h : fb_X12_writeSubject_30  K30 x1 x2 s = some r) : agf [(1079, 21), (1079, 23), (1079, 112)] [1093, 1094, 1143] [] [] s r := by
  unfold fb_X12_writeSubject_30 at h
  obtain ⟨v1, e2, h⟩ := uu_ob h
  by_cases c3 : v1 ≤ x2
  · replace h := uu_pos c3 h
    have hr := Option.some.inj h
    subst hr
    exact agf.rf
  · replace h := uu_neg c3 h
    obtain ⟨v4, e5, h⟩ := uu_ob h
    obtain ⟨v6, e7, h⟩ := uu_ob h
    obtain ⟨s8, e9, h⟩ := uu_ob h
    refine ((zc_X12_write  e9).mo (by decide) (by decide) (by decide) (fun _ h => nomatch h)).tr ?_
    exact hK30 x1 (x2 + 1) _ _ h
set_option maxRecDepth 100000 in
set_option maxHeartbeats 4000000 in
theorem zn_X12_writeSubject_30     : ∀ (n : Nat) (x1 : Int32) (x2 : Int32)  (s : uS) (r : uS), fn_X12_writeSubject_30   n x1 x2 s = some r → agf [(1079, 21), (1079, 23), (1079, 112)] [1093, 1094, 1143] [] [] s r := by
  intro n
  induction n with
  | zero => intro x1 x2  s r h
            cases h
  | succ n ih => intro x1 x2  s r h
                 exact zb_X12_writeSubject_30  ih  h
set_option maxRecDepth 100000 in
set_option maxHeartbeats 4000000 in
theorem zb_X12_writeSubject_2  {K2 : Int32 → uS → Option uS}  (hK2 : ∀ (x1 : Int32)  (s : uS) (r : uS), K2 x1 s = some r → agf [(1079, 21), (1079, 23), (1079, 112)] [1093, 1094, 1143] [] [] s r) {x1 : Int32} {s : uS} {r : uS}  (h : fb_X12_writeSubject_2  K2 x1 s = some r) : agf [(1079, 21), (1079, 23), (1079, 112)] [1093, 1094, 1143] [] [] s r := by
  unfold fb_X12_writeSubject_2 at h
  by_cases c1 : (s.I 1079 14) ≤ x1
  · replace h := uu_pos c1 h
    have hr := Option.some.inj h
    subst hr
    exact agf.rf
  · replace h := uu_neg c1 h
    obtain ⟨s2, e3, h⟩ := uu_ob h
    refine ((zc_X12_oneName  e3).mo (by decide) (by decide) (by decide) (fun _ h => nomatch h)).tr ?_
    obtain ⟨r5, e6, h⟩ := uu_ob h
    refine ((zc_X12_oneIs  e6).mo (by decide) (by decide) (by decide) (fun _ h => nomatch h)).tr ?_
    by_cases c7 : r5.2 = true
    · replace h := uu_pos c7 h
      exact zn_X12_writeSubject_30  _ _ _ _ _ h
    · replace h := uu_neg c7 h
      exact hK2 (x1 + 1) _ _ h
set_option maxRecDepth 100000 in
set_option maxHeartbeats 4000000 in
theorem zn_X12_writeSubject_2     : ∀ (n : Nat) (x1 : Int32)  (s : uS) (r : uS), fn_X12_writeSubject_2   n x1 s = some r → agf [(1079, 21), (1079, 23), (1079, 112)] [1093, 1094, 1143] [] [] s r := by
  intro n
  induction n with
  | zero => intro x1  s r h
            cases h
  | succ n ih => intro x1  s r h
                 exact zb_X12_writeSubject_2  ih  h
set_option maxRecDepth 100000 in
set_option maxHeartbeats 4000000 in
theorem zc_X12_writeSubject    {s : uS} {r : uS}  (h : fn_X12_writeSubject   s = some r) : agf [(1079, 21), (1079, 23), (1079, 112)] [1093, 1094, 1143] [] [] s r := by
  unfold fn_X12_writeSubject at h
  exact zn_X12_writeSubject_2  _ _ _ _ h
set_option maxRecDepth 100000 in
set_option maxHeartbeats 4000000 in
theorem zb_X12_writeLetter_136     {xs0 : Int32} {s : uS} {r : uS}  (h : fb_X12_writeLetter_136   xs0 s = some r) : agf [(1079, 21), (1079, 23), (1079, 112)] [1093, 1094, 1143] [] [] s r := by
  unfold fb_X12_writeLetter_136 at h
  obtain ⟨s1, e2, h⟩ := uu_ob h
  refine ((zc_X12_writeString  e2).mo (by decide) (by decide) (by decide) (fun _ h => nomatch h)).tr ?_
  obtain ⟨s3, e4, h⟩ := uu_ob h
  refine ((zc_X12_writeEnd  e4).mo (by decide) (by decide) (by decide) (fun _ h => nomatch h)).tr ?_
  have hr := Option.some.inj h
  subst hr
  exact agf.rf
set_option maxRecDepth 100000 in
set_option maxHeartbeats 4000000 in
theorem zb_X12_writeLetter_102     {b1 : Bool} {s : uS} {r : uS}  (h : fb_X12_writeLetter_102   b1 s = some r) : agf [(1079, 21), (1079, 23), (1079, 112)] [1093, 1094, 1143] [] [] s r := by
  unfold fb_X12_writeLetter_102 at h
  obtain ⟨s1, e2, h⟩ := uu_ob h
  refine ((zc_X12_writeEnd  e2).mo (by decide) (by decide) (by decide) (fun _ h => nomatch h)).tr ?_
  obtain ⟨s3, e4, h⟩ := uu_ob h
  refine ((zc_X12_writeEnd  e4).mo (by decide) (by decide) (by decide) (fun _ h => nomatch h)).tr ?_
  by_cases c5 : b1 = true
  · replace h := uu_pos c5 h
    obtain ⟨v6, e7, h⟩ := uu_ob h
    exact zb_X12_writeLetter_136  h
  · replace h := uu_neg c5 h
    obtain ⟨v8, e9, h⟩ := uu_ob h
    exact zb_X12_writeLetter_136  h
set_option maxRecDepth 100000 in
set_option maxHeartbeats 4000000 in
theorem zb_X12_writeLetter_14  {K14 : Bool → Int32 → uS → Option uS}  (hK14 : ∀ (b1 : Bool) (x2 : Int32)  (s : uS) (r : uS), K14 b1 x2 s = some r → agf [(1079, 21), (1079, 23), (1079, 112)] [1093, 1094, 1143] [] [] s r) {b1 : Bool} {x2 : Int32} {s : uS} {r : uS}  (h : fb_X12_writeLetter_14  K14 b1 x2 s = some r) : agf [(1079, 21), (1079, 23), (1079, 112)] [1093, 1094, 1143] [] [] s r := by
  unfold fb_X12_writeLetter_14 at h
  by_cases c1 : (s.I 1079 93) ≤ x2
  · replace h := uu_pos c1 h
    obtain ⟨s2, e3, h⟩ := uu_ob h
    refine ((zc_X12_writeEnd  e3).mo (by decide) (by decide) (by decide) (fun _ h => nomatch h)).tr ?_
    obtain ⟨s5, e6, h⟩ := uu_ob h
    refine ((zc_X12_writeWord  e6).mo (by decide) (by decide) (by decide) (fun _ h => nomatch h)).tr ?_
    by_cases c7 : b1 = true
    · replace h := uu_pos c7 h
      obtain ⟨s9, e10, h⟩ := uu_ob h
      refine ((zc_X12_writeWord  e10).mo (by decide) (by decide) (by decide) (fun _ h => nomatch h)).tr ?_
      exact zb_X12_writeLetter_102  h
    · replace h := uu_neg c7 h
      obtain ⟨v11, e12, h⟩ := uu_ob h
      by_cases c13 : v11 < 0
      · replace h := uu_pos c13 h
        obtain ⟨s15, e16, h⟩ := uu_ob h
        refine ((zc_X12_writeWord  e16).mo (by decide) (by decide) (by decide) (fun _ h => nomatch h)).tr ?_
        obtain ⟨s17, e18, h⟩ := uu_ob h
        refine ((zc_X12_writeSubject  e18).mo (by decide) (by decide) (by decide) (fun _ h => nomatch h)).tr ?_
        exact zb_X12_writeLetter_102  h
      · replace h := uu_neg c13 h
        obtain ⟨v19, e20, h⟩ := uu_ob h
        obtain ⟨s21, e22, h⟩ := uu_ob h
        refine ((zc_X12_writeString  e22).mo (by decide) (by decide) (by decide) (fun _ h => nomatch h)).tr ?_
        exact zb_X12_writeLetter_102  h
  · replace h := uu_neg c1 h
    obtain ⟨v23, e24, h⟩ := uu_ob h
    obtain ⟨s25, e26, h⟩ := uu_ob h
    refine ((zc_X12_write  e26).mo (by decide) (by decide) (by decide) (fun _ h => nomatch h)).tr ?_
    exact hK14 b1 (x2 + 1) _ _ h
set_option maxRecDepth 100000 in
set_option maxHeartbeats 4000000 in
theorem zn_X12_writeLetter_14     : ∀ (n : Nat) (b1 : Bool) (x2 : Int32)  (s : uS) (r : uS), fn_X12_writeLetter_14   n b1 x2 s = some r → agf [(1079, 21), (1079, 23), (1079, 112)] [1093, 1094, 1143] [] [] s r := by
  intro n
  induction n with
  | zero => intro b1 x2  s r h
            cases h
  | succ n ih => intro b1 x2  s r h
                 exact zb_X12_writeLetter_14  ih  h
set_option maxRecDepth 100000 in
set_option maxHeartbeats 4000000 in
theorem zc_X12_writeLetter   {b1 : Bool} {s : uS} {r : uS}  (h : fn_X12_writeLetter  b1 s = some r) : agf [(1079, 21), (1079, 23), (1079, 112)] [1093, 1094, 1143] [] [] s r := by
  unfold fn_X12_writeLetter at h
  refine (agf_wI (a := 1079) (f := 112) (v := 0) (Or.inl (by decide))).tr ?_
  obtain ⟨s2, e3, h⟩ := uu_ob h
  refine ((zc_X12_writeWord  e3).mo (by decide) (by decide) (by decide) (fun _ h => nomatch h)).tr ?_
  exact zn_X12_writeLetter_14  _ _ _ _ _ h
set_option maxRecDepth 100000 in
set_option maxHeartbeats 4000000 in
theorem zc_X12_begin    {s : uS} {r : uS}  (h : fn_X12_begin   s = some r) : agf [(1079, 94), (1079, 95), (1079, 96), (1079, 97), (1079, 100), (1079, 102), (1079, 104), (1079, 106)] [] [] [] s r := by
  unfold fn_X12_begin at h
  refine (agf_wI (a := 1079) (f := 94) (v := 0) (Or.inl (by decide))).tr ?_
  refine (agf_wI (a := 1079) (f := 95) (v := 1) (Or.inl (by decide))).tr ?_
  refine (agf_wI (a := 1079) (f := 96) (v := 0) (Or.inl (by decide))).tr ?_
  refine (agf_wI (a := 1079) (f := 106) (v := 0) (Or.inl (by decide))).tr ?_
  refine (agf_wI (a := 1079) (f := 97) (v := 0) (Or.inl (by decide))).tr ?_
  refine (agf_wI (a := 1079) (f := 100) (v := 0) (Or.inl (by decide))).tr ?_
  refine (agf_wI (a := 1079) (f := 102) (v := 0) (Or.inl (by decide))).tr ?_
  refine (agf_wI (a := 1079) (f := 104) (v := 0) (Or.inl (by decide))).tr ?_
  have hr := Option.some.inj h
  subst hr
  exact agf.rf
set_option maxRecDepth 100000 in
set_option maxHeartbeats 4000000 in
theorem zb_X12_loadScript_12  {K12 : Int32 → Int32 → uS → Option uS}  (hK12 : ∀ (x1 : Int32) (x2 : Int32)  (s : uS) (r : uS), K12 x1 x2 s = some r → agf [(1079, 29)] [1096] [] [] s r) {x1 : Int32} {x2 : Int32} {s : uS} {r : uS}  (h : fb_X12_loadScript_12  K12 x1 x2 s = some r) : agf [(1079, 29)] [1096] [] [] s r := by
  unfold fb_X12_loadScript_12 at h
  by_cases c1 : (s.I 1079 29) ≤ x2
  · replace h := uu_pos c1 h
    have hr := Option.some.inj h
    subst hr
    exact agf.rf
  · replace h := uu_neg c1 h
    obtain ⟨v2, e3, h⟩ := uu_ob h
    obtain ⟨s4, e5, h⟩ := uu_ob h
    refine (agf_iput e5 (Or.inl (by decide))).tr ?_
    exact hK12 x1 (x2 + 1) _ _ h
set_option maxRecDepth 100000 in
set_option maxHeartbeats 4000000 in
theorem zn_X12_loadScript_12     : ∀ (n : Nat) (x1 : Int32) (x2 : Int32)  (s : uS) (r : uS), fn_X12_loadScript_12   n x1 x2 s = some r → agf [(1079, 29)] [1096] [] [] s r := by
  intro n
  induction n with
  | zero => intro x1 x2  s r h
            cases h
  | succ n ih => intro x1 x2  s r h
                 exact zb_X12_loadScript_12  ih  h
set_option maxRecDepth 100000 in
set_option maxHeartbeats 4000000 in
theorem zc_X12_loadScript   {x1 : Int32} {s : uS} {r : uS}  (h : fn_X12_loadScript  x1 s = some r) : agf [(1079, 29)] [1096] [] [] s r := by
  unfold fn_X12_loadScript at h
  obtain ⟨v1, e2, h⟩ := uu_ob h
  refine (agf_wI (a := 1079) (f := 29) (v := v1) (Or.inl (by decide))).tr ?_
  exact zn_X12_loadScript_12  _ _ _ _ _ h
set_option maxRecDepth 100000 in
set_option maxHeartbeats 4000000 in
theorem zb_X12_fails_34     {bs0 : Bool} {s : uS} {r : (uS × Bool)}  (h : fb_X12_fails_34   bs0 s = some r) : agf [(1079, 21), (1079, 23)] [1093, 1094] [] [] s r.1 := by
  unfold fb_X12_fails_34 at h
  by_cases c1 : (4 : Int32) < (s.I 1079 100)
  · replace h := uu_pos c1 h
    have hr := Option.some.inj h
    subst hr
    exact agf.rf
  · replace h := uu_neg c1 h
    by_cases c2 : bs0 = true
    · replace h := uu_pos c2 h
      have hr := Option.some.inj h
      subst hr
      exact agf.rf
    · replace h := uu_neg c2 h
      by_cases c3 : (1 : Int32) < (s.I 1079 104)
      · replace h := uu_pos c3 h
        have hr := Option.some.inj h
        subst hr
        exact agf.rf
      · replace h := uu_neg c3 h
        obtain ⟨v4, e5, h⟩ := uu_ob h
        obtain ⟨r6, e7, h⟩ := uu_ob h
        refine ((zc_X12_newBoxes  e7).mo (by decide) (by decide) (by decide) (fun _ h => nomatch h)).tr ?_
        by_cases c8 : (v4 + r6.2) ≤ 6
        · replace h := uu_pos c8 h
          have hr := Option.some.inj h
          subst hr
          exact agf.rf
        · replace h := uu_neg c8 h
          have hr := Option.some.inj h
          subst hr
          exact agf.rf
set_option maxRecDepth 100000 in
set_option maxHeartbeats 4000000 in
theorem zb_X12_fails_21      {s : uS} {r : (uS × Bool)}  (h : fb_X12_fails_21    s = some r) : agf [(1079, 21), (1079, 23)] [1093, 1094] [] [] s r.1 := by
  unfold fb_X12_fails_21 at h
  by_cases c1 : (s.I 1079 102) ≤ 1
  · replace h := uu_pos c1 h
    exact zb_X12_fails_34  h
  · replace h := uu_neg c1 h
    exact zb_X12_fails_34  h
set_option maxRecDepth 100000 in
set_option maxHeartbeats 4000000 in
theorem zc_X12_fails    {s : uS} {r : (uS × Bool)}  (h : fn_X12_fails   s = some r) : agf [(1079, 21), (1079, 23)] [1093, 1094] [] [] s r.1 := by
  unfold fn_X12_fails at h
  by_cases c1 : (s.I 1079 102) ≤ 0
  · replace h := uu_pos c1 h
    exact zb_X12_fails_21  h
  · replace h := uu_neg c1 h
    by_cases c2 : (s.I 1079 106) = 0
    · replace h := uu_pos c2 h
      by_cases c3 : 0 < (s.I 1079 104)
      · replace h := uu_pos c3 h
        exact zb_X12_fails_34  h
      · replace h := uu_neg c3 h
        exact zb_X12_fails_21  h
    · replace h := uu_neg c2 h
      exact zb_X12_fails_34  h
set_option maxRecDepth 100000 in
set_option maxHeartbeats 4000000 in
theorem zb_X12_copyMail_2  {K2 : Int32 → Int32 → uS → Option uS}  (hK2 : ∀ (x1 : Int32) (x2 : Int32)  (s : uS) (r : uS), K2 x1 x2 s = some r → agf [(1079, 69)] [1118, 1122] [] [] s r) {x1 : Int32} {x2 : Int32} {s : uS} {r : uS}  (h : fb_X12_copyMail_2  K2 x1 x2 s = some r) : agf [(1079, 69)] [1118, 1122] [] [] s r := by
  unfold fb_X12_copyMail_2 at h
  by_cases c1 : (s.I 1079 13) ≤ x2
  · replace h := uu_pos c1 h
    obtain ⟨s2, e3, h⟩ := uu_ob h
    refine (agf_iput e3 (Or.inl (by decide))).tr ?_
    have hr := Option.some.inj h
    subst hr
    exact agf.rf
  · replace h := uu_neg c1 h
    obtain ⟨v4, e5, h⟩ := uu_ob h
    obtain ⟨s6, e7, h⟩ := uu_ob h
    refine ((zc_X12_store  e7).mo (by decide) (by decide) (by decide) (fun _ h => nomatch h)).tr ?_
    exact hK2 x1 (x2 + 1) _ _ h
set_option maxRecDepth 100000 in
set_option maxHeartbeats 4000000 in
theorem zn_X12_copyMail_2     : ∀ (n : Nat) (x1 : Int32) (x2 : Int32)  (s : uS) (r : uS), fn_X12_copyMail_2   n x1 x2 s = some r → agf [(1079, 69)] [1118, 1122] [] [] s r := by
  intro n
  induction n with
  | zero => intro x1 x2  s r h
            cases h
  | succ n ih => intro x1 x2  s r h
                 exact zb_X12_copyMail_2  ih  h
set_option maxRecDepth 100000 in
set_option maxHeartbeats 4000000 in
theorem zc_X12_copyMail   {x1 : Int32} {s : uS} {r : uS}  (h : fn_X12_copyMail  x1 s = some r) : agf [(1079, 69)] [1118, 1122] [] [] s r := by
  unfold fn_X12_copyMail at h
  exact zn_X12_copyMail_2  _ _ _ _ _ h
set_option maxRecDepth 100000 in
set_option maxHeartbeats 4000000 in
theorem zb_X12_sendTo_25  {K25 : Int32 → Int32 → Int32 → uS → Option uS}  (hK25 : ∀ (x1 : Int32) (x2 : Int32) (x3 : Int32)  (s : uS) (r : uS), K25 x1 x2 x3 s = some r → agf [(1079, 69), (1079, 70), (1079, 71)] [1118, 1119, 1120, 1121, 1122, 1123, 1124, 1125] [] [] s r) {x1 : Int32} {x2 : Int32} {x3 : Int32} {s : uS} {r : uS}  (h : fb_X12_sendTo_25  K25 x1 x2 x3 s = some r) : agf [(1079, 69), (1079, 70), (1079, 71)] [1118, 1119, 1120, 1121, 1122, 1123, 1124, 1125] [] [] s r := by
  unfold fb_X12_sendTo_25 at h
  obtain ⟨v1, e2, h⟩ := uu_ob h
  by_cases c3 : v1 ≤ x3
  · replace h := uu_pos c3 h
    refine (agf_wI (a := 1079) (f := 71) (v := (s.I 1079 71) + 1) (Or.inl (by decide))).tr ?_
    obtain ⟨s4, e5, h⟩ := uu_ob h
    refine ((zc_X12_copyMail  e5).mo (by decide) (by decide) (by decide) (fun _ h => nomatch h)).tr ?_
    have hr := Option.some.inj h
    subst hr
    exact agf.rf
  · replace h := uu_neg c3 h
    obtain ⟨v6, e7, h⟩ := uu_ob h
    obtain ⟨v8, e9, h⟩ := uu_ob h
    obtain ⟨s10, e11, h⟩ := uu_ob h
    refine (agf_iput e11 (Or.inl (by decide))).tr ?_
    exact hK25 x1 x2 (x3 + 1) _ _ h
set_option maxRecDepth 100000 in
set_option maxHeartbeats 4000000 in
theorem zn_X12_sendTo_25     : ∀ (n : Nat) (x1 : Int32) (x2 : Int32) (x3 : Int32)  (s : uS) (r : uS), fn_X12_sendTo_25   n x1 x2 x3 s = some r → agf [(1079, 69), (1079, 70), (1079, 71)] [1118, 1119, 1120, 1121, 1122, 1123, 1124, 1125] [] [] s r := by
  intro n
  induction n with
  | zero => intro x1 x2 x3  s r h
            cases h
  | succ n ih => intro x1 x2 x3  s r h
                 exact zb_X12_sendTo_25  ih  h
set_option maxRecDepth 100000 in
set_option maxHeartbeats 4000000 in
theorem zc_X12_sendTo   {x1 : Int32} {s : uS} {r : uS}  (h : fn_X12_sendTo  x1 s = some r) : agf [(1079, 69), (1079, 70), (1079, 71)] [1118, 1119, 1120, 1121, 1122, 1123, 1124, 1125] [] [] s r := by
  unfold fn_X12_sendTo at h
  obtain ⟨r1, e2, h⟩ := uu_ob h
  refine ((zc_X12_beginMail  e2).mo (by decide) (by decide) (by decide) (fun _ h => nomatch h)).tr ?_
  obtain ⟨v3, e4, h⟩ := uu_ob h
  obtain ⟨s5, e6, h⟩ := uu_ob h
  refine (agf_iput e6 (Or.inl (by decide))).tr ?_
  exact zn_X12_sendTo_25  _ _ _ _ _ _ h
set_option maxRecDepth 100000 in
set_option maxHeartbeats 4000000 in
theorem zb_X12_sendLetter_69  {K69 : Int32 → Int32 → uS → Option uS}  (hK69 : ∀ (x1 : Int32) (x2 : Int32)  (s : uS) (r : uS), K69 x1 x2 s = some r → agf [(1079, 69), (1079, 70), (1079, 71)] [1118, 1119, 1120, 1121, 1122, 1123, 1124, 1125] [] [] s r) {x1 : Int32} {x2 : Int32} {s : uS} {r : uS}  (h : fb_X12_sendLetter_69  K69 x1 x2 s = some r) : agf [(1079, 69), (1079, 70), (1079, 71)] [1118, 1119, 1120, 1121, 1122, 1123, 1124, 1125] [] [] s r := by
  unfold fb_X12_sendLetter_69 at h
  by_cases c1 : (s.I 1079 112) ≤ x2
  · replace h := uu_pos c1 h
    obtain ⟨s2, e3, h⟩ := uu_ob h
    refine (agf_iput e3 (Or.inl (by decide))).tr ?_
    have hr := Option.some.inj h
    subst hr
    exact agf.rf
  · replace h := uu_neg c1 h
    obtain ⟨v4, e5, h⟩ := uu_ob h
    obtain ⟨s6, e7, h⟩ := uu_ob h
    refine ((zc_X12_store  e7).mo (by decide) (by decide) (by decide) (fun _ h => nomatch h)).tr ?_
    exact hK69 x1 (x2 + 1) _ _ h
set_option maxRecDepth 100000 in
set_option maxHeartbeats 4000000 in
theorem zn_X12_sendLetter_69     : ∀ (n : Nat) (x1 : Int32) (x2 : Int32)  (s : uS) (r : uS), fn_X12_sendLetter_69   n x1 x2 s = some r → agf [(1079, 69), (1079, 70), (1079, 71)] [1118, 1119, 1120, 1121, 1122, 1123, 1124, 1125] [] [] s r := by
  intro n
  induction n with
  | zero => intro x1 x2  s r h
            cases h
  | succ n ih => intro x1 x2  s r h
                 exact zb_X12_sendLetter_69  ih  h
set_option maxRecDepth 100000 in
set_option maxHeartbeats 4000000 in
theorem zb_X12_sendLetter_23  {K23 : Int32 → Int32 → uS → Option uS}  (hK23 : ∀ (x1 : Int32) (x2 : Int32)  (s : uS) (r : uS), K23 x1 x2 s = some r → agf [(1079, 69), (1079, 70), (1079, 71)] [1118, 1119, 1120, 1121, 1122, 1123, 1124, 1125] [] [] s r) {x1 : Int32} {x2 : Int32} {s : uS} {r : uS}  (h : fb_X12_sendLetter_23  K23 x1 x2 s = some r) : agf [(1079, 69), (1079, 70), (1079, 71)] [1118, 1119, 1120, 1121, 1122, 1123, 1124, 1125] [] [] s r := by
  unfold fb_X12_sendLetter_23 at h
  by_cases c1 : (s.I 1079 93) ≤ x2
  · replace h := uu_pos c1 h
    refine (agf_wI (a := 1079) (f := 71) (v := (s.I 1079 71) + 1) (Or.inl (by decide))).tr ?_
    exact zn_X12_sendLetter_69  _ _ _ _ _ h
  · replace h := uu_neg c1 h
    obtain ⟨v2, e3, h⟩ := uu_ob h
    obtain ⟨s4, e5, h⟩ := uu_ob h
    refine (agf_iput e5 (Or.inl (by decide))).tr ?_
    exact hK23 x1 (x2 + 1) _ _ h
set_option maxRecDepth 100000 in
set_option maxHeartbeats 4000000 in
theorem zn_X12_sendLetter_23     : ∀ (n : Nat) (x1 : Int32) (x2 : Int32)  (s : uS) (r : uS), fn_X12_sendLetter_23   n x1 x2 s = some r → agf [(1079, 69), (1079, 70), (1079, 71)] [1118, 1119, 1120, 1121, 1122, 1123, 1124, 1125] [] [] s r := by
  intro n
  induction n with
  | zero => intro x1 x2  s r h
            cases h
  | succ n ih => intro x1 x2  s r h
                 exact zb_X12_sendLetter_23  ih  h
set_option maxRecDepth 100000 in
set_option maxHeartbeats 4000000 in
theorem zc_X12_sendLetter    {s : uS} {r : uS}  (h : fn_X12_sendLetter   s = some r) : agf [(1079, 69), (1079, 70), (1079, 71)] [1118, 1119, 1120, 1121, 1122, 1123, 1124, 1125] [] [] s r := by
  unfold fn_X12_sendLetter at h
  obtain ⟨r1, e2, h⟩ := uu_ob h
  refine ((zc_X12_beginMail  e2).mo (by decide) (by decide) (by decide) (fun _ h => nomatch h)).tr ?_
  obtain ⟨s3, e4, h⟩ := uu_ob h
  refine (agf_iput e4 (Or.inl (by decide))).tr ?_
  exact zn_X12_sendLetter_23  _ _ _ _ _ h
set_option maxRecDepth 100000 in
set_option maxHeartbeats 4000000 in
theorem zc_X12_reset    {s : uS} {r : uS}  (h : fn_X12_reset   s = some r) : agf [(1079, 115), (1079, 117)] [] [] [] s r := by
  unfold fn_X12_reset at h
  refine (agf_wI (a := 1079) (f := 115) (v := 0) (Or.inl (by decide))).tr ?_
  refine (agf_wI (a := 1079) (f := 117) (v := 0) (Or.inl (by decide))).tr ?_
  have hr := Option.some.inj h
  subst hr
  exact agf.rf
set_option maxRecDepth 100000 in
set_option maxHeartbeats 4000000 in
theorem zc_X12_connect    {s : uS} {r : (uS × Bool)}  (h : fn_X12_connect   s = some r) : agf [(1079, 113), (1079, 114), (1079, 115), (1079, 116), (1079, 117), (1079, 122), (1079, 123)] [1081, 1082, 1083, 1084, 1085, 1086] [] [] s r.1 := by
  unfold fn_X12_connect at h
  by_cases c1 : (s.I 1079 0) = 0
  · replace h := uu_pos c1 h
    have hr := Option.some.inj h
    subst hr
    exact agf.rf
  · replace h := uu_neg c1 h
    refine (agf_wI (a := 1079) (f := 113) (v := 1) (Or.inl (by decide))).tr ?_
    refine (agf_wI (a := 1079) (f := 114) (v := 0) (Or.inl (by decide))).tr ?_
    obtain ⟨s2, e3, h⟩ := uu_ob h
    refine ((zc_X12_reset  e3).mo (by decide) (by decide) (by decide) (fun _ h => nomatch h)).tr ?_
    refine (agf_wI (a := 1079) (f := 116) (v := 0) (Or.inl (by decide))).tr ?_
    refine (agf_wI (a := 1079) (f := 122) (v := 0) (Or.inl (by decide))).tr ?_
    refine (agf_wI (a := 1079) (f := 123) (v := 0) (Or.inl (by decide))).tr ?_
    obtain ⟨s5, e6, h⟩ := uu_ob h
    refine ((zc_X12_line  e6).mo (by decide) (by decide) (by decide) (fun _ h => nomatch h)).tr ?_
    have hr := Option.some.inj h
    subst hr
    exact agf.rf
set_option maxRecDepth 100000 in
set_option maxHeartbeats 4000000 in
theorem zb_X12_cmdByte_20      {s : uS} {r : uS}  (h : fb_X12_cmdByte_20    s = some r) : agf [(1079, 122)] [1147] [] [] s r := by
  unfold fb_X12_cmdByte_20 at h
  by_cases c1 : (100000 : Int32) ≤ (s.I 1079 122)
  · replace h := uu_pos c1 h
    refine (agf_wI (a := 1079) (f := 122) (v := s.I 1079 122) (Or.inl (by decide))).tr ?_
    have hr := Option.some.inj h
    subst hr
    exact agf.rf
  · replace h := uu_neg c1 h
    refine (agf_wI (a := 1079) (f := 122) (v := (s.I 1079 122) + 1) (Or.inl (by decide))).tr ?_
    have hr := Option.some.inj h
    subst hr
    exact agf.rf
set_option maxRecDepth 100000 in
set_option maxHeartbeats 4000000 in
theorem zc_X12_cmdByte   {x1 : Int32} {s : uS} {r : uS}  (h : fn_X12_cmdByte  x1 s = some r) : agf [(1079, 122)] [1147] [] [] s r := by
  unfold fn_X12_cmdByte at h
  by_cases c1 : (505 : Int32) ≤ (s.I 1079 122)
  · replace h := uu_pos c1 h
    exact zb_X12_cmdByte_20  h
  · replace h := uu_neg c1 h
    obtain ⟨s2, e3, h⟩ := uu_ob h
    refine (agf_iput e3 (Or.inl (by decide))).tr ?_
    exact zb_X12_cmdByte_20  h
set_option maxRecDepth 100000 in
set_option maxHeartbeats 4000000 in
theorem zb_X12_stands_70     {w1 : List Nat} {b2 : Bool} {s : uS} {r : (uS × Bool)}  (h : fb_X12_stands_70   w1 b2 s = some r) : agf [(1079, 127)] [] [] [] s r.1 := by
  unfold fb_X12_stands_70 at h
  by_cases c1 : b2 = true
  · replace h := uu_pos c1 h
    refine (agf_wI (a := 1079) (f := 127) (v := (s.I 1079 127) + (nI w1.length)) (Or.inl (by decide))).tr ?_
    have hr := Option.some.inj h
    subst hr
    exact agf.rf
  · replace h := uu_neg c1 h
    refine (agf_wI (a := 1079) (f := 127) (v := s.I 1079 127) (Or.inl (by decide))).tr ?_
    have hr := Option.some.inj h
    subst hr
    exact agf.rf
set_option maxRecDepth 100000 in
set_option maxHeartbeats 4000000 in
theorem zb_X12_stands_24  {K24 : List Nat → Bool → Int32 → uS → Option (uS × Bool)}  (hK24 : ∀ (w1 : List Nat) (b2 : Bool) (x3 : Int32)  (s : uS) (r : (uS × Bool)), K24 w1 b2 x3 s = some r → agf [(1079, 127)] [] [] [] s r.1) {w1 : List Nat} {b2 : Bool} {x3 : Int32} {s : uS} {r : (uS × Bool)}  (h : fb_X12_stands_24  K24 w1 b2 x3 s = some r) : agf [(1079, 127)] [] [] [] s r.1 := by
  unfold fb_X12_stands_24 at h
  by_cases c1 : (nI w1.length) ≤ x3
  · replace h := uu_pos c1 h
    exact zb_X12_stands_70  h
  · replace h := uu_neg c1 h
    by_cases c2 : b2 = true
    · replace h := uu_pos c2 h
      obtain ⟨v3, e4, h⟩ := uu_ob h
      obtain ⟨v5, e6, h⟩ := uu_ob h
      obtain ⟨v7, e8, h⟩ := uu_ob h
      by_cases c9 : v5 = v7
      · replace h := uu_pos c9 h
        exact hK24 w1 true (x3 + 1) _ _ h
      · replace h := uu_neg c9 h
        exact hK24 w1 false (x3 + 1) _ _ h
    · replace h := uu_neg c2 h
      exact zb_X12_stands_70  h
set_option maxRecDepth 100000 in
set_option maxHeartbeats 4000000 in
theorem zn_X12_stands_24     : ∀ (n : Nat) (w1 : List Nat) (b2 : Bool) (x3 : Int32)  (s : uS) (r : (uS × Bool)), fn_X12_stands_24   n w1 b2 x3 s = some r → agf [(1079, 127)] [] [] [] s r.1 := by
  intro n
  induction n with
  | zero => intro w1 b2 x3  s r h
            cases h
  | succ n ih => intro w1 b2 x3  s r h
                 exact zb_X12_stands_24  ih  h
set_option maxRecDepth 100000 in
set_option maxHeartbeats 4000000 in
theorem zc_X12_stands   {w1 : List Nat} {s : uS} {r : (uS × Bool)}  (h : fn_X12_stands  w1 s = some r) : agf [(1079, 127)] [] [] [] s r.1 := by
  unfold fn_X12_stands at h
  by_cases c1 : (s.I 1079 126) < ((s.I 1079 127) + (nI w1.length))
  · replace h := uu_pos c1 h
    exact zn_X12_stands_24  _ _ _ _ _ _ h
  · replace h := uu_neg c1 h
    exact zn_X12_stands_24  _ _ _ _ _ _ h
set_option maxRecDepth 100000 in
set_option maxHeartbeats 4000000 in
theorem zc_X12_first   {w1 : List Nat} {s : uS} {r : (uS × Bool)}  (h : fn_X12_first  w1 s = some r) : agf [(1079, 127)] [] [] [] s r.1 := by
  unfold fn_X12_first at h
  refine (agf_wI (a := 1079) (f := 127) (v := 0) (Or.inl (by decide))).tr ?_
  obtain ⟨r1, e2, h⟩ := uu_ob h
  refine ((zc_X12_stands  e2).mo (by decide) (by decide) (by decide) (fun _ h => nomatch h)).tr ?_
  by_cases c3 : r1.2 = true
  · replace h := uu_pos c3 h
    by_cases c4 : (r1.1.I 1079 127) = (r1.1.I 1079 126)
    · replace h := uu_pos c4 h
      have hr := Option.some.inj h
      subst hr
      exact agf.rf
    · replace h := uu_neg c4 h
      obtain ⟨v5, e6, h⟩ := uu_ob h
      by_cases c7 : v5 = 32
      · replace h := uu_pos c7 h
        have hr := Option.some.inj h
        subst hr
        exact agf.rf
      · replace h := uu_neg c7 h
        have hr := Option.some.inj h
        subst hr
        exact agf.rf
  · replace h := uu_neg c3 h
    have hr := Option.some.inj h
    subst hr
    exact agf.rf
set_option maxRecDepth 100000 in
set_option maxHeartbeats 4000000 in
theorem zb_X12_done_20     {ws0 : List Nat} {xs1 : Int32} {s : uS} {r : (uS × Bool)}  (h : fb_X12_done_20   ws0 xs1 s = some r) : agf [] [1081, 1082, 1083, 1084, 1085, 1086] [] [] s r.1 := by
  unfold fb_X12_done_20 at h
  obtain ⟨s1, e2, h⟩ := uu_ob h
  refine ((zc_X12_line  e2).mo (by decide) (by decide) (by decide) (fun _ h => nomatch h)).tr ?_
  by_cases c3 : (s1.I 1079 127) = (s1.I 1079 126)
  · replace h := uu_pos c3 h
    have hr := Option.some.inj h
    subst hr
    exact agf.rf
  · replace h := uu_neg c3 h
    have hr := Option.some.inj h
    subst hr
    exact agf.rf
set_option maxRecDepth 100000 in
set_option maxHeartbeats 4000000 in
theorem zc_X12_done   {w1 : List Nat} {s : uS} {r : (uS × Bool)}  (h : fn_X12_done  w1 s = some r) : agf [] [1081, 1082, 1083, 1084, 1085, 1086] [] [] s r.1 := by
  unfold fn_X12_done at h
  by_cases c1 : (s.I 1079 127) = (s.I 1079 126)
  · replace h := uu_pos c1 h
    exact zb_X12_done_20  h
  · replace h := uu_neg c1 h
    exact zb_X12_done_20  h
set_option maxRecDepth 100000 in
set_option maxHeartbeats 4000000 in
theorem zb_X12_oneCmd_9  {K9 : Int32 → Int32 → uS → Option uS}  (hK9 : ∀ (x1 : Int32) (x3 : Int32)  (s : uS) (r : uS), K9 x1 x3 s = some r → agf [(1079, 21)] [1093] [] [] s r) {x1 : Int32} {x3 : Int32} {s : uS} {r : uS}  (h : fb_X12_oneCmd_9  K9 x1 x3 s = some r) : agf [(1079, 21)] [1093] [] [] s r := by
  unfold fb_X12_oneCmd_9 at h
  by_cases c1 : (s.I 1079 21) ≤ x3
  · replace h := uu_pos c1 h
    have hr := Option.some.inj h
    subst hr
    exact agf.rf
  · replace h := uu_neg c1 h
    obtain ⟨v2, e3, h⟩ := uu_ob h
    obtain ⟨s4, e5, h⟩ := uu_ob h
    refine (agf_iput e5 (Or.inl (by decide))).tr ?_
    exact hK9 x1 (x3 + 1) _ _ h
set_option maxRecDepth 100000 in
set_option maxHeartbeats 4000000 in
theorem zn_X12_oneCmd_9     : ∀ (n : Nat) (x1 : Int32) (x3 : Int32)  (s : uS) (r : uS), fn_X12_oneCmd_9   n x1 x3 s = some r → agf [(1079, 21)] [1093] [] [] s r := by
  intro n
  induction n with
  | zero => intro x1 x3  s r h
            cases h
  | succ n ih => intro x1 x3  s r h
                 exact zb_X12_oneCmd_9  ih  h
set_option maxRecDepth 100000 in
set_option maxHeartbeats 4000000 in
theorem zc_X12_oneCmd   {x1 : Int32} {x2 : Int32} {s : uS} {r : uS}  (h : fn_X12_oneCmd  x1 x2 s = some r) : agf [(1079, 21)] [1093] [] [] s r := by
  unfold fn_X12_oneCmd at h
  refine (agf_wI (a := 1079) (f := 21) (v := x2 - x1) (Or.inl (by decide))).tr ?_
  exact zn_X12_oneCmd_9  _ _ _ _ _ h
set_option maxRecDepth 100000 in
set_option maxHeartbeats 4000000 in
theorem zb_X12_hello_39      {s : uS} {r : uS}  (h : fb_X12_hello_39    s = some r) : agf [(1079, 21), (1079, 114), (1079, 115), (1079, 117), (1079, 127)] [1081, 1082, 1083, 1084, 1085, 1086, 1093] [] [] s r := by
  unfold fb_X12_hello_39 at h
  obtain ⟨s2, e3, h⟩ := uu_ob h
  refine ((zc_X12_line  e3).mo (by decide) (by decide) (by decide) (fun _ h => nomatch h)).tr ?_
  have hr := Option.some.inj h
  subst hr
  exact agf.rf
set_option maxRecDepth 100000 in
set_option maxHeartbeats 4000000 in
theorem zc_X12_hello    {s : uS} {r : uS}  (h : fn_X12_hello   s = some r) : agf [(1079, 21), (1079, 114), (1079, 115), (1079, 117), (1079, 127)] [1081, 1082, 1083, 1084, 1085, 1086, 1093] [] [] s r := by
  unfold fn_X12_hello at h
  obtain ⟨r2, e3, h⟩ := uu_ob h
  refine ((zc_X12_stands  e3).mo (by decide) (by decide) (by decide) (fun _ h => nomatch h)).tr ?_
  obtain ⟨s4, e5, h⟩ := uu_ob h
  refine ((zc_X12_oneCmd  e5).mo (by decide) (by decide) (by decide) (fun _ h => nomatch h)).tr ?_
  by_cases c6 : r2.2 = true
  · replace h := uu_pos c6 h
    obtain ⟨v7, e8, h⟩ := uu_ob h
    by_cases c9 : v7 = true
    · replace h := uu_pos c9 h
      refine (agf_wI (a := 1079) (f := 114) (v := 1) (Or.inl (by decide))).tr ?_
      obtain ⟨s10, e11, h⟩ := uu_ob h
      refine ((zc_X12_reset  e11).mo (by decide) (by decide) (by decide) (fun _ h => nomatch h)).tr ?_
      obtain ⟨s13, e14, h⟩ := uu_ob h
      refine ((zc_X12_line  e14).mo (by decide) (by decide) (by decide) (fun _ h => nomatch h)).tr ?_
      obtain ⟨s16, e17, h⟩ := uu_ob h
      refine ((zc_X12_line  e17).mo (by decide) (by decide) (by decide) (fun _ h => nomatch h)).tr ?_
      obtain ⟨s19, e20, h⟩ := uu_ob h
      refine ((zc_X12_line  e20).mo (by decide) (by decide) (by decide) (fun _ h => nomatch h)).tr ?_
      have hr := Option.some.inj h
      subst hr
      exact agf.rf
    · replace h := uu_neg c9 h
      exact zb_X12_hello_39  h
  · replace h := uu_neg c6 h
    exact zb_X12_hello_39  h
set_option maxRecDepth 100000 in
set_option maxHeartbeats 4000000 in
theorem zc_X12_data    {s : uS} {r : uS}  (h : fn_X12_data   s = some r) : agf [(1079, 13), (1079, 116), (1079, 124), (1079, 125)] [1081, 1082, 1083, 1084, 1085, 1086] [] [] s r := by
  unfold fn_X12_data at h
  by_cases c1 : (s.I 1079 127) = (s.I 1079 126)
  · replace h := uu_pos c1 h
    by_cases c2 : (s.I 1079 117) = 0
    · replace h := uu_pos c2 h
      obtain ⟨s4, e5, h⟩ := uu_ob h
      refine ((zc_X12_line  e5).mo (by decide) (by decide) (by decide) (fun _ h => nomatch h)).tr ?_
      have hr := Option.some.inj h
      subst hr
      exact agf.rf
    · replace h := uu_neg c2 h
      obtain ⟨s7, e8, h⟩ := uu_ob h
      refine ((zc_X12_line  e8).mo (by decide) (by decide) (by decide) (fun _ h => nomatch h)).tr ?_
      refine (agf_wI (a := 1079) (f := 116) (v := 1) (Or.inl (by decide))).tr ?_
      refine (agf_wI (a := 1079) (f := 13) (v := 0) (Or.inl (by decide))).tr ?_
      refine (agf_wI (a := 1079) (f := 124) (v := 0) (Or.inl (by decide))).tr ?_
      refine (agf_wI (a := 1079) (f := 125) (v := 0) (Or.inl (by decide))).tr ?_
      have hr := Option.some.inj h
      subst hr
      exact agf.rf
  · replace h := uu_neg c1 h
    obtain ⟨s10, e11, h⟩ := uu_ob h
    refine ((zc_X12_line  e11).mo (by decide) (by decide) (by decide) (fun _ h => nomatch h)).tr ?_
    have hr := Option.some.inj h
    subst hr
    exact agf.rf
set_option maxRecDepth 100000 in
set_option maxHeartbeats 4000000 in
theorem zb_X12_path_43     {x1 : Int32} {s : uS} {r : (uS × Bool)}  (h : fb_X12_path_43   x1 s = some r) : agf [(1079, 21), (1079, 127)] [1093] [] [] s r.1 := by
  unfold fb_X12_path_43 at h
  by_cases c1 : x1 = (s.I 1079 126)
  · replace h := uu_pos c1 h
    have hr := Option.some.inj h
    subst hr
    exact agf.rf
  · replace h := uu_neg c1 h
    obtain ⟨s2, e3, h⟩ := uu_ob h
    refine ((zc_X12_oneCmd  e3).mo (by decide) (by decide) (by decide) (fun _ h => nomatch h)).tr ?_
    refine (agf_wI (a := 1079) (f := 127) (v := x1 + 1) (Or.inl (by decide))).tr ?_
    obtain ⟨v4, e5, h⟩ := uu_ob h
    by_cases c6 : v4 < 0
    · replace h := uu_pos c6 h
      have hr := Option.some.inj h
      subst hr
      exact agf.rf
    · replace h := uu_neg c6 h
      have hr := Option.some.inj h
      subst hr
      exact agf.rf
set_option maxRecDepth 100000 in
set_option maxHeartbeats 4000000 in
theorem zb_X12_path_17  {K17 : Int32 → uS → Option (uS × Bool)}  (hK17 : ∀ (x1 : Int32)  (s : uS) (r : (uS × Bool)), K17 x1 s = some r → agf [(1079, 21), (1079, 127)] [1093] [] [] s r.1) {x1 : Int32} {s : uS} {r : (uS × Bool)}  (h : fb_X12_path_17  K17 x1 s = some r) : agf [(1079, 21), (1079, 127)] [1093] [] [] s r.1 := by
  unfold fb_X12_path_17 at h
  by_cases c1 : (s.I 1079 126) ≤ x1
  · replace h := uu_pos c1 h
    exact zb_X12_path_43  h
  · replace h := uu_neg c1 h
    obtain ⟨v2, e3, h⟩ := uu_ob h
    by_cases c4 : v2 = 62
    · replace h := uu_pos c4 h
      exact zb_X12_path_43  h
    · replace h := uu_neg c4 h
      exact hK17 (x1 + 1) _ _ h
set_option maxRecDepth 100000 in
set_option maxHeartbeats 4000000 in
theorem zn_X12_path_17     : ∀ (n : Nat) (x1 : Int32)  (s : uS) (r : (uS × Bool)), fn_X12_path_17   n x1 s = some r → agf [(1079, 21), (1079, 127)] [1093] [] [] s r.1 := by
  intro n
  induction n with
  | zero => intro x1  s r h
            cases h
  | succ n ih => intro x1  s r h
                 exact zb_X12_path_17  ih  h
set_option maxRecDepth 100000 in
set_option maxHeartbeats 4000000 in
theorem zc_X12_path    {s : uS} {r : (uS × Bool)}  (h : fn_X12_path   s = some r) : agf [(1079, 21), (1079, 127)] [1093] [] [] s r.1 := by
  unfold fn_X12_path at h
  obtain ⟨r2, e3, h⟩ := uu_ob h
  refine ((zc_X12_stands  e3).mo (by decide) (by decide) (by decide) (fun _ h => nomatch h)).tr ?_
  by_cases c4 : r2.2 = true
  · replace h := uu_pos c4 h
    exact zn_X12_path_17  _ _ _ _ h
  · replace h := uu_neg c4 h
    have hr := Option.some.inj h
    subst hr
    exact agf.rf
set_option maxRecDepth 100000 in
set_option maxHeartbeats 4000000 in
theorem zb_X12_recipient_129  {K129 : Int32 → uS → Option uS}  (hK129 : ∀ (x3 : Int32)  (s : uS) (r : uS), K129 x3 s = some r → agf [(1079, 21), (1079, 23), (1079, 117), (1079, 127)] [1081, 1082, 1083, 1084, 1085, 1086, 1093, 1094, 1144, 1145, 1146] [] [] s r) {x3 : Int32} {s : uS} {r : uS}  (h : fb_X12_recipient_129  K129 x3 s = some r) : agf [(1079, 21), (1079, 23), (1079, 117), (1079, 127)] [1081, 1082, 1083, 1084, 1085, 1086, 1093, 1094, 1144, 1145, 1146] [] [] s r := by
  unfold fb_X12_recipient_129 at h
  by_cases c1 : (s.I 1079 21) ≤ x3
  · replace h := uu_pos c1 h
    refine (agf_wI (a := 1079) (f := 117) (v := (s.I 1079 117) + 1) (Or.inl (by decide))).tr ?_
    obtain ⟨s3, e4, h⟩ := uu_ob h
    refine ((zc_X12_line  e4).mo (by decide) (by decide) (by decide) (fun _ h => nomatch h)).tr ?_
    have hr := Option.some.inj h
    subst hr
    exact agf.rf
  · replace h := uu_neg c1 h
    obtain ⟨v5, e6, h⟩ := uu_ob h
    obtain ⟨s7, e8, h⟩ := uu_ob h
    refine (agf_iput e8 (Or.inl (by decide))).tr ?_
    exact hK129 (x3 + 1) _ _ h
set_option maxRecDepth 100000 in
set_option maxHeartbeats 4000000 in
theorem zn_X12_recipient_129     : ∀ (n : Nat) (x3 : Int32)  (s : uS) (r : uS), fn_X12_recipient_129   n x3 s = some r → agf [(1079, 21), (1079, 23), (1079, 117), (1079, 127)] [1081, 1082, 1083, 1084, 1085, 1086, 1093, 1094, 1144, 1145, 1146] [] [] s r := by
  intro n
  induction n with
  | zero => intro x3  s r h
            cases h
  | succ n ih => intro x3  s r h
                 exact zb_X12_recipient_129  ih  h
set_option maxRecDepth 100000 in
set_option maxHeartbeats 4000000 in
theorem zb_X12_recipient_33     {bs0 : Bool} {s : uS} {r : uS}  (h : fb_X12_recipient_33   bs0 s = some r) : agf [(1079, 21), (1079, 23), (1079, 117), (1079, 127)] [1081, 1082, 1083, 1084, 1085, 1086, 1093, 1094, 1144, 1145, 1146] [] [] s r := by
  unfold fb_X12_recipient_33 at h
  by_cases c1 : bs0 = true
  · replace h := uu_pos c1 h
    obtain ⟨r2, e3, h⟩ := uu_ob h
    refine ((zc_X12_userOf  e3).mo (by decide) (by decide) (by decide) (fun _ h => nomatch h)).tr ?_
    by_cases c4 : (r2.1.I 1079 115) = 0
    · replace h := uu_pos c4 h
      obtain ⟨s6, e7, h⟩ := uu_ob h
      refine ((zc_X12_line  e7).mo (by decide) (by decide) (by decide) (fun _ h => nomatch h)).tr ?_
      have hr := Option.some.inj h
      subst hr
      exact agf.rf
    · replace h := uu_neg c4 h
      by_cases c8 : 0 ≤ r2.2
      · replace h := uu_pos c8 h
        by_cases c9 : (r2.1.I 1079 117) = 4
        · replace h := uu_pos c9 h
          obtain ⟨s11, e12, h⟩ := uu_ob h
          refine ((zc_X12_line  e12).mo (by decide) (by decide) (by decide) (fun _ h => nomatch h)).tr ?_
          have hr := Option.some.inj h
          subst hr
          exact agf.rf
        · replace h := uu_neg c9 h
          obtain ⟨s13, e14, h⟩ := uu_ob h
          refine (agf_iput e14 (Or.inl (by decide))).tr ?_
          obtain ⟨s15, e16, h⟩ := uu_ob h
          refine (agf_iput e16 (Or.inl (by decide))).tr ?_
          exact zn_X12_recipient_129  _ _ _ _ h
      · replace h := uu_neg c8 h
        obtain ⟨s18, e19, h⟩ := uu_ob h
        refine ((zc_X12_line  e19).mo (by decide) (by decide) (by decide) (fun _ h => nomatch h)).tr ?_
        have hr := Option.some.inj h
        subst hr
        exact agf.rf
  · replace h := uu_neg c1 h
    obtain ⟨s21, e22, h⟩ := uu_ob h
    refine ((zc_X12_line  e22).mo (by decide) (by decide) (by decide) (fun _ h => nomatch h)).tr ?_
    have hr := Option.some.inj h
    subst hr
    exact agf.rf
set_option maxRecDepth 100000 in
set_option maxHeartbeats 4000000 in
theorem zc_X12_recipient    {s : uS} {r : uS}  (h : fn_X12_recipient   s = some r) : agf [(1079, 21), (1079, 23), (1079, 117), (1079, 127)] [1081, 1082, 1083, 1084, 1085, 1086, 1093, 1094, 1144, 1145, 1146] [] [] s r := by
  unfold fn_X12_recipient at h
  obtain ⟨r2, e3, h⟩ := uu_ob h
  refine ((zc_X12_stands  e3).mo (by decide) (by decide) (by decide) (fun _ h => nomatch h)).tr ?_
  by_cases c4 : r2.2 = true
  · replace h := uu_pos c4 h
    obtain ⟨r5, e6, h⟩ := uu_ob h
    refine ((zc_X12_path  e6).mo (by decide) (by decide) (by decide) (fun _ h => nomatch h)).tr ?_
    by_cases c7 : r5.2 = true
    · replace h := uu_pos c7 h
      by_cases c8 : (r5.1.I 1079 127) = (r5.1.I 1079 126)
      · replace h := uu_pos c8 h
        exact zb_X12_recipient_33  h
      · replace h := uu_neg c8 h
        exact zb_X12_recipient_33  h
    · replace h := uu_neg c7 h
      exact zb_X12_recipient_33  h
  · replace h := uu_neg c4 h
    exact zb_X12_recipient_33  h
set_option maxRecDepth 100000 in
set_option maxHeartbeats 4000000 in
theorem zb_X12_parameters_134  {K5 : uS → Option (uS × Bool)}  (hK5 : ∀   (s : uS) (r : (uS × Bool)), K5  s = some r → agf [(1079, 127), (1079, 128)] [] [] [] s r.1) {x1 : Int32} {x2 : Int32} {s : uS} {r : (uS × Bool)}  (h : fb_X12_parameters_134  K5 x1 x2 s = some r) : agf [(1079, 127), (1079, 128)] [] [] [] s r.1 := by
  unfold fb_X12_parameters_134 at h
  by_cases c1 : x1 < 1
  · replace h := uu_pos c1 h
    have hr := Option.some.inj h
    subst hr
    exact agf.rf
  · replace h := uu_neg c1 h
    by_cases c2 : x1 ≤ 9
    · replace h := uu_pos c2 h
      by_cases c3 : x2 ≤ (s.I 1079 128)
      · replace h := uu_pos c3 h
        refine (agf_wI (a := 1079) (f := 128) (v := s.I 1079 128) (Or.inl (by decide))).tr ?_
        exact hK5  _ _ h
      · replace h := uu_neg c3 h
        refine (agf_wI (a := 1079) (f := 128) (v := x2) (Or.inl (by decide))).tr ?_
        exact hK5  _ _ h
    · replace h := uu_neg c2 h
      have hr := Option.some.inj h
      subst hr
      exact agf.rf
set_option maxRecDepth 100000 in
set_option maxHeartbeats 4000000 in
theorem zb_X12_parameters_116  {K5 : uS → Option (uS × Bool)} {K57 : Int32 → Int32 → uS → Option (uS × Bool)}  (hK5 : ∀   (s : uS) (r : (uS × Bool)), K5  s = some r → agf [(1079, 127), (1079, 128)] [] [] [] s r.1) (hK57 : ∀ (x1 : Int32) (x2 : Int32)  (s : uS) (r : (uS × Bool)), K57 x1 x2 s = some r → agf [(1079, 127), (1079, 128)] [] [] [] s r.1) {x1 : Int32} {xs0 : Int32} {s : uS} {r : (uS × Bool)}  (h : fb_X12_parameters_116  K5 K57 x1 xs0 s = some r) : agf [(1079, 127), (1079, 128)] [] [] [] s r.1 := by
  unfold fb_X12_parameters_116 at h
  refine (agf_wI (a := 1079) (f := 127) (v := (s.I 1079 127) + 1) (Or.inl (by decide))).tr ?_
  exact hK57 (x1 + 1) xs0 _ _ h
set_option maxRecDepth 100000 in
set_option maxHeartbeats 4000000 in
theorem zb_X12_parameters_57  {K5 : uS → Option (uS × Bool)} {K57 : Int32 → Int32 → uS → Option (uS × Bool)}  (hK5 : ∀   (s : uS) (r : (uS × Bool)), K5  s = some r → agf [(1079, 127), (1079, 128)] [] [] [] s r.1) (hK57 : ∀ (x1 : Int32) (x2 : Int32)  (s : uS) (r : (uS × Bool)), K57 x1 x2 s = some r → agf [(1079, 127), (1079, 128)] [] [] [] s r.1) {x1 : Int32} {x2 : Int32} {s : uS} {r : (uS × Bool)}  (h : fb_X12_parameters_57  K5 K57 x1 x2 s = some r) : agf [(1079, 127), (1079, 128)] [] [] [] s r.1 := by
  unfold fb_X12_parameters_57 at h
  by_cases c1 : (s.I 1079 126) ≤ (s.I 1079 127)
  · replace h := uu_pos c1 h
    exact zb_X12_parameters_134 hK5 h
  · replace h := uu_neg c1 h
    obtain ⟨v2, e3, h⟩ := uu_ob h
    obtain ⟨v4, e5, h⟩ := uu_ob h
    by_cases c6 : v4 = true
    · replace h := uu_pos c6 h
      by_cases c7 : (10 : Int32) ≤ x1
      · replace h := uu_pos c7 h
        exact zb_X12_parameters_134 hK5 h
      · replace h := uu_neg c7 h
        by_cases c8 : (9 : Int32) ≤ x1
        · replace h := uu_pos c8 h
          exact zb_X12_parameters_116 hK5 hK57 h
        · replace h := uu_neg c8 h
          obtain ⟨v9, e10, h⟩ := uu_ob h
          exact zb_X12_parameters_116 hK5 hK57 h
    · replace h := uu_neg c6 h
      exact zb_X12_parameters_134 hK5 h
set_option maxRecDepth 100000 in
set_option maxHeartbeats 4000000 in
theorem zn_X12_parameters_57  {K5 : uS → Option (uS × Bool)}  (hK5 : ∀   (s : uS) (r : (uS × Bool)), K5  s = some r → agf [(1079, 127), (1079, 128)] [] [] [] s r.1) : ∀ (n : Nat) (x1 : Int32) (x2 : Int32)  (s : uS) (r : (uS × Bool)), fn_X12_parameters_57  K5 n x1 x2 s = some r → agf [(1079, 127), (1079, 128)] [] [] [] s r.1 := by
  intro n
  induction n with
  | zero => intro x1 x2  s r h
            cases h
  | succ n ih => intro x1 x2  s r h
                 exact zb_X12_parameters_57  hK5 ih  h
set_option maxRecDepth 100000 in
set_option maxHeartbeats 4000000 in
theorem zb_X12_parameters_5  {K5 : uS → Option (uS × Bool)}  (hK5 : ∀   (s : uS) (r : (uS × Bool)), K5  s = some r → agf [(1079, 127), (1079, 128)] [] [] [] s r.1)  {s : uS} {r : (uS × Bool)}  (h : fb_X12_parameters_5  K5  s = some r) : agf [(1079, 127), (1079, 128)] [] [] [] s r.1 := by
  unfold fb_X12_parameters_5 at h
  by_cases c1 : (s.I 1079 126) ≤ (s.I 1079 127)
  · replace h := uu_pos c1 h
    have hr := Option.some.inj h
    subst hr
    exact agf.rf
  · replace h := uu_neg c1 h
    obtain ⟨r3, e4, h⟩ := uu_ob h
    refine ((zc_X12_stands  e4).mo (by decide) (by decide) (by decide) (fun _ h => nomatch h)).tr ?_
    by_cases c5 : r3.2 = true
    · replace h := uu_pos c5 h
      obtain ⟨r7, e8, h⟩ := uu_ob h
      refine ((zc_X12_stands  e8).mo (by decide) (by decide) (by decide) (fun _ h => nomatch h)).tr ?_
      by_cases c9 : r7.2 = true
      · replace h := uu_pos c9 h
        exact hK5  _ _ h
      · replace h := uu_neg c9 h
        obtain ⟨r11, e12, h⟩ := uu_ob h
        refine ((zc_X12_stands  e12).mo (by decide) (by decide) (by decide) (fun _ h => nomatch h)).tr ?_
        by_cases c13 : r11.2 = true
        · replace h := uu_pos c13 h
          exact zn_X12_parameters_57 hK5 _ _ _ _ _ h
        · replace h := uu_neg c13 h
          have hr := Option.some.inj h
          subst hr
          exact agf.rf
    · replace h := uu_neg c5 h
      have hr := Option.some.inj h
      subst hr
      exact agf.rf
set_option maxRecDepth 100000 in
set_option maxHeartbeats 4000000 in
theorem zn_X12_parameters_5     : ∀ (n : Nat)   (s : uS) (r : (uS × Bool)), fn_X12_parameters_5   n  s = some r → agf [(1079, 127), (1079, 128)] [] [] [] s r.1 := by
  intro n
  induction n with
  | zero => intro   s r h
            cases h
  | succ n ih => intro   s r h
                 exact zb_X12_parameters_5  ih  h
set_option maxRecDepth 100000 in
set_option maxHeartbeats 4000000 in
theorem zc_X12_parameters    {s : uS} {r : (uS × Bool)}  (h : fn_X12_parameters   s = some r) : agf [(1079, 127), (1079, 128)] [] [] [] s r.1 := by
  unfold fn_X12_parameters at h
  refine (agf_wI (a := 1079) (f := 128) (v := 0) (Or.inl (by decide))).tr ?_
  exact zn_X12_parameters_5  _ _ _ h
set_option maxRecDepth 100000 in
set_option maxHeartbeats 4000000 in
theorem zb_X12_sender_152  {K152 : Int32 → uS → Option uS}  (hK152 : ∀ (x2 : Int32)  (s : uS) (r : uS), K152 x2 s = some r → agf [(1079, 21), (1079, 93), (1079, 115), (1079, 127), (1079, 128), (1079, 130)] [1081, 1082, 1083, 1084, 1085, 1086, 1093, 1137, 1148] [] [] s r) {x2 : Int32} {s : uS} {r : uS}  (h : fb_X12_sender_152  K152 x2 s = some r) : agf [(1079, 21), (1079, 93), (1079, 115), (1079, 127), (1079, 128), (1079, 130)] [1081, 1082, 1083, 1084, 1085, 1086, 1093, 1137, 1148] [] [] s r := by
  unfold fb_X12_sender_152 at h
  by_cases c1 : (s.I 1079 130) ≤ x2
  · replace h := uu_pos c1 h
    obtain ⟨s3, e4, h⟩ := uu_ob h
    refine ((zc_X12_line  e4).mo (by decide) (by decide) (by decide) (fun _ h => nomatch h)).tr ?_
    have hr := Option.some.inj h
    subst hr
    exact agf.rf
  · replace h := uu_neg c1 h
    obtain ⟨v5, e6, h⟩ := uu_ob h
    obtain ⟨s7, e8, h⟩ := uu_ob h
    refine (agf_iput e8 (Or.inl (by decide))).tr ?_
    exact hK152 (x2 + 1) _ _ h
set_option maxRecDepth 100000 in
set_option maxHeartbeats 4000000 in
theorem zn_X12_sender_152     : ∀ (n : Nat) (x2 : Int32)  (s : uS) (r : uS), fn_X12_sender_152   n x2 s = some r → agf [(1079, 21), (1079, 93), (1079, 115), (1079, 127), (1079, 128), (1079, 130)] [1081, 1082, 1083, 1084, 1085, 1086, 1093, 1137, 1148] [] [] s r := by
  intro n
  induction n with
  | zero => intro x2  s r h
            cases h
  | succ n ih => intro x2  s r h
                 exact zb_X12_sender_152  ih  h
set_option maxRecDepth 100000 in
set_option maxHeartbeats 4000000 in
theorem zb_X12_sender_87      {s : uS} {r : uS}  (h : fb_X12_sender_87    s = some r) : agf [(1079, 21), (1079, 93), (1079, 115), (1079, 127), (1079, 128), (1079, 130)] [1081, 1082, 1083, 1084, 1085, 1086, 1093, 1137, 1148] [] [] s r := by
  unfold fb_X12_sender_87 at h
  obtain ⟨s2, e3, h⟩ := uu_ob h
  refine ((zc_X12_line  e3).mo (by decide) (by decide) (by decide) (fun _ h => nomatch h)).tr ?_
  have hr := Option.some.inj h
  subst hr
  exact agf.rf
set_option maxRecDepth 100000 in
set_option maxHeartbeats 4000000 in
theorem zb_X12_sender_76     {b1 : Bool} {s : uS} {r : uS}  (h : fb_X12_sender_76   b1 s = some r) : agf [(1079, 21), (1079, 93), (1079, 115), (1079, 127), (1079, 128), (1079, 130)] [1081, 1082, 1083, 1084, 1085, 1086, 1093, 1137, 1148] [] [] s r := by
  unfold fb_X12_sender_76 at h
  by_cases c1 : b1 = true
  · replace h := uu_pos c1 h
    obtain ⟨r2, e3, h⟩ := uu_ob h
    refine ((zc_X12_parameters  e3).mo (by decide) (by decide) (by decide) (fun _ h => nomatch h)).tr ?_
    by_cases c4 : r2.2 = true
    · replace h := uu_pos c4 h
      by_cases c5 : (r2.1.I 1079 115) = 0
      · replace h := uu_pos c5 h
        by_cases c6 : (r2.1.I 1079 128) ≤ 4000
        · replace h := uu_pos c6 h
          refine (agf_wI (a := 1079) (f := 115) (v := 1) (Or.inl (by decide))).tr ?_
          refine (agf_wI (a := 1079) (f := 93) (v := (wI r2.1 1079 115 1).I 1079 130) (Or.inl (by decide))).tr ?_
          exact zn_X12_sender_152  _ _ _ _ h
        · replace h := uu_neg c6 h
          obtain ⟨s8, e9, h⟩ := uu_ob h
          refine ((zc_X12_line  e9).mo (by decide) (by decide) (by decide) (fun _ h => nomatch h)).tr ?_
          have hr := Option.some.inj h
          subst hr
          exact agf.rf
      · replace h := uu_neg c5 h
        obtain ⟨s11, e12, h⟩ := uu_ob h
        refine ((zc_X12_line  e12).mo (by decide) (by decide) (by decide) (fun _ h => nomatch h)).tr ?_
        have hr := Option.some.inj h
        subst hr
        exact agf.rf
    · replace h := uu_neg c4 h
      exact zb_X12_sender_87  h
  · replace h := uu_neg c1 h
    exact zb_X12_sender_87  h
set_option maxRecDepth 100000 in
set_option maxHeartbeats 4000000 in
theorem zb_X12_sender_50  {K50 : Bool → Int32 → uS → Option uS}  (hK50 : ∀ (b1 : Bool) (x2 : Int32)  (s : uS) (r : uS), K50 b1 x2 s = some r → agf [(1079, 21), (1079, 93), (1079, 115), (1079, 127), (1079, 128), (1079, 130)] [1081, 1082, 1083, 1084, 1085, 1086, 1093, 1137, 1148] [] [] s r) {b1 : Bool} {x2 : Int32} {s : uS} {r : uS}  (h : fb_X12_sender_50  K50 b1 x2 s = some r) : agf [(1079, 21), (1079, 93), (1079, 115), (1079, 127), (1079, 128), (1079, 130)] [1081, 1082, 1083, 1084, 1085, 1086, 1093, 1137, 1148] [] [] s r := by
  unfold fb_X12_sender_50 at h
  by_cases c1 : (s.I 1079 130) ≤ x2
  · replace h := uu_pos c1 h
    exact zb_X12_sender_76  h
  · replace h := uu_neg c1 h
    obtain ⟨v2, e3, h⟩ := uu_ob h
    obtain ⟨s4, e5, h⟩ := uu_ob h
    refine (agf_iput e5 (Or.inl (by decide))).tr ?_
    exact hK50 b1 (x2 + 1) _ _ h
set_option maxRecDepth 100000 in
set_option maxHeartbeats 4000000 in
theorem zn_X12_sender_50     : ∀ (n : Nat) (b1 : Bool) (x2 : Int32)  (s : uS) (r : uS), fn_X12_sender_50   n b1 x2 s = some r → agf [(1079, 21), (1079, 93), (1079, 115), (1079, 127), (1079, 128), (1079, 130)] [1081, 1082, 1083, 1084, 1085, 1086, 1093, 1137, 1148] [] [] s r := by
  intro n
  induction n with
  | zero => intro b1 x2  s r h
            cases h
  | succ n ih => intro b1 x2  s r h
                 exact zb_X12_sender_50  ih  h
set_option maxRecDepth 100000 in
set_option maxHeartbeats 4000000 in
theorem zc_X12_sender    {s : uS} {r : uS}  (h : fn_X12_sender   s = some r) : agf [(1079, 21), (1079, 93), (1079, 115), (1079, 127), (1079, 128), (1079, 130)] [1081, 1082, 1083, 1084, 1085, 1086, 1093, 1137, 1148] [] [] s r := by
  unfold fn_X12_sender at h
  obtain ⟨r2, e3, h⟩ := uu_ob h
  refine ((zc_X12_stands  e3).mo (by decide) (by decide) (by decide) (fun _ h => nomatch h)).tr ?_
  refine (agf_wI (a := 1079) (f := 130) (v := 0) (Or.inl (by decide))).tr ?_
  by_cases c4 : r2.2 = true
  · replace h := uu_pos c4 h
    obtain ⟨r6, e7, h⟩ := uu_ob h
    refine ((zc_X12_stands  e7).mo (by decide) (by decide) (by decide) (fun _ h => nomatch h)).tr ?_
    by_cases c8 : r6.2 = true
    · replace h := uu_pos c8 h
      exact zb_X12_sender_76  h
    · replace h := uu_neg c8 h
      obtain ⟨r9, e10, h⟩ := uu_ob h
      refine ((zc_X12_path  e10).mo (by decide) (by decide) (by decide) (fun _ h => nomatch h)).tr ?_
      by_cases c11 : r9.2 = true
      · replace h := uu_pos c11 h
        refine (agf_wI (a := 1079) (f := 130) (v := r9.1.I 1079 21) (Or.inl (by decide))).tr ?_
        exact zn_X12_sender_50  _ _ _ _ _ h
      · replace h := uu_neg c11 h
        refine (agf_wI (a := 1079) (f := 130) (v := 0) (Or.inl (by decide))).tr ?_
        exact zn_X12_sender_50  _ _ _ _ _ h
  · replace h := uu_neg c4 h
    exact zb_X12_sender_76  h
set_option maxRecDepth 100000 in
set_option maxHeartbeats 4000000 in
theorem zc_X12_transact    {s : uS} {r : uS}  (h : fn_X12_transact   s = some r) : agf [(1079, 13), (1079, 21), (1079, 23), (1079, 93), (1079, 115), (1079, 116), (1079, 117), (1079, 124), (1079, 125), (1079, 127), (1079, 128), (1079, 130)] [1081, 1082, 1083, 1084, 1085, 1086, 1093, 1094, 1137, 1144, 1145, 1146, 1148] [] [] s r := by
  unfold fn_X12_transact at h
  obtain ⟨r2, e3, h⟩ := uu_ob h
  refine ((zc_X12_first  e3).mo (by decide) (by decide) (by decide) (fun _ h => nomatch h)).tr ?_
  by_cases c4 : r2.2 = true
  · replace h := uu_pos c4 h
    obtain ⟨s5, e6, h⟩ := uu_ob h
    refine ((zc_X12_sender  e6).mo (by decide) (by decide) (by decide) (fun _ h => nomatch h)).tr ?_
    have hr := Option.some.inj h
    subst hr
    exact agf.rf
  · replace h := uu_neg c4 h
    obtain ⟨r8, e9, h⟩ := uu_ob h
    refine ((zc_X12_first  e9).mo (by decide) (by decide) (by decide) (fun _ h => nomatch h)).tr ?_
    by_cases c10 : r8.2 = true
    · replace h := uu_pos c10 h
      obtain ⟨s11, e12, h⟩ := uu_ob h
      refine ((zc_X12_recipient  e12).mo (by decide) (by decide) (by decide) (fun _ h => nomatch h)).tr ?_
      have hr := Option.some.inj h
      subst hr
      exact agf.rf
    · replace h := uu_neg c10 h
      obtain ⟨r14, e15, h⟩ := uu_ob h
      refine ((zc_X12_first  e15).mo (by decide) (by decide) (by decide) (fun _ h => nomatch h)).tr ?_
      obtain ⟨s16, e17, h⟩ := uu_ob h
      refine ((zc_X12_data  e17).mo (by decide) (by decide) (by decide) (fun _ h => nomatch h)).tr ?_
      have hr := Option.some.inj h
      subst hr
      exact agf.rf
set_option maxRecDepth 100000 in
set_option maxHeartbeats 4000000 in
theorem zb_X12_order_128      {s : uS} {r : uS}  (h : fb_X12_order_128    s = some r) : agf [(1079, 13), (1079, 21), (1079, 23), (1079, 93), (1079, 113), (1079, 114), (1079, 115), (1079, 116), (1079, 117), (1079, 124), (1079, 125), (1079, 126), (1079, 127), (1079, 128), (1079, 130)] [1081, 1082, 1083, 1084, 1085, 1086, 1093, 1094, 1137, 1144, 1145, 1146, 1148] [] [] s r := by
  unfold fb_X12_order_128 at h
  by_cases c1 : (s.I 1079 114) = 0
  · replace h := uu_pos c1 h
    obtain ⟨s3, e4, h⟩ := uu_ob h
    refine ((zc_X12_line  e4).mo (by decide) (by decide) (by decide) (fun _ h => nomatch h)).tr ?_
    have hr := Option.some.inj h
    subst hr
    exact agf.rf
  · replace h := uu_neg c1 h
    obtain ⟨s5, e6, h⟩ := uu_ob h
    refine ((zc_X12_transact  e6).mo (by decide) (by decide) (by decide) (fun _ h => nomatch h)).tr ?_
    have hr := Option.some.inj h
    subst hr
    exact agf.rf
set_option maxRecDepth 100000 in
set_option maxHeartbeats 4000000 in
theorem zc_X12_order   {x1 : Int32} {s : uS} {r : uS}  (h : fn_X12_order  x1 s = some r) : agf [(1079, 13), (1079, 21), (1079, 23), (1079, 93), (1079, 113), (1079, 114), (1079, 115), (1079, 116), (1079, 117), (1079, 124), (1079, 125), (1079, 126), (1079, 127), (1079, 128), (1079, 130)] [1081, 1082, 1083, 1084, 1085, 1086, 1093, 1094, 1137, 1144, 1145, 1146, 1148] [] [] s r := by
  unfold fn_X12_order at h
  refine (agf_wI (a := 1079) (f := 126) (v := x1) (Or.inl (by decide))).tr ?_
  obtain ⟨r2, e3, h⟩ := uu_ob h
  refine ((zc_X12_first  e3).mo (by decide) (by decide) (by decide) (fun _ h => nomatch h)).tr ?_
  by_cases c4 : r2.2 = true
  · replace h := uu_pos c4 h
    obtain ⟨s5, e6, h⟩ := uu_ob h
    refine ((zc_X12_hello  e6).mo (by decide) (by decide) (by decide) (fun _ h => nomatch h)).tr ?_
    have hr := Option.some.inj h
    subst hr
    exact agf.rf
  · replace h := uu_neg c4 h
    obtain ⟨r8, e9, h⟩ := uu_ob h
    refine ((zc_X12_first  e9).mo (by decide) (by decide) (by decide) (fun _ h => nomatch h)).tr ?_
    by_cases c10 : r8.2 = true
    · replace h := uu_pos c10 h
      obtain ⟨r12, e13, h⟩ := uu_ob h
      refine ((zc_X12_done  e13).mo (by decide) (by decide) (by decide) (fun _ h => nomatch h)).tr ?_
      have hr := Option.some.inj h
      subst hr
      exact agf.rf
    · replace h := uu_neg c10 h
      obtain ⟨r15, e16, h⟩ := uu_ob h
      refine ((zc_X12_first  e16).mo (by decide) (by decide) (by decide) (fun _ h => nomatch h)).tr ?_
      by_cases c17 : r15.2 = true
      · replace h := uu_pos c17 h
        obtain ⟨r19, e20, h⟩ := uu_ob h
        refine ((zc_X12_done  e20).mo (by decide) (by decide) (by decide) (fun _ h => nomatch h)).tr ?_
        by_cases c21 : r19.2 = true
        · replace h := uu_pos c21 h
          obtain ⟨s22, e23, h⟩ := uu_ob h
          refine ((zc_X12_reset  e23).mo (by decide) (by decide) (by decide) (fun _ h => nomatch h)).tr ?_
          have hr := Option.some.inj h
          subst hr
          exact agf.rf
        · replace h := uu_neg c21 h
          have hr := Option.some.inj h
          subst hr
          exact agf.rf
      · replace h := uu_neg c17 h
        obtain ⟨r25, e26, h⟩ := uu_ob h
        refine ((zc_X12_first  e26).mo (by decide) (by decide) (by decide) (fun _ h => nomatch h)).tr ?_
        by_cases c27 : r25.2 = true
        · replace h := uu_pos c27 h
          obtain ⟨r29, e30, h⟩ := uu_ob h
          refine ((zc_X12_done  e30).mo (by decide) (by decide) (by decide) (fun _ h => nomatch h)).tr ?_
          by_cases c31 : r29.2 = true
          · replace h := uu_pos c31 h
            refine (agf_wI (a := 1079) (f := 113) (v := 0) (Or.inl (by decide))).tr ?_
            have hr := Option.some.inj h
            subst hr
            exact agf.rf
          · replace h := uu_neg c31 h
            have hr := Option.some.inj h
            subst hr
            exact agf.rf
        · replace h := uu_neg c27 h
          obtain ⟨r33, e34, h⟩ := uu_ob h
          refine ((zc_X12_first  e34).mo (by decide) (by decide) (by decide) (fun _ h => nomatch h)).tr ?_
          by_cases c35 : r33.2 = true
          · replace h := uu_pos c35 h
            exact zb_X12_order_128  h
          · replace h := uu_neg c35 h
            obtain ⟨r37, e38, h⟩ := uu_ob h
            refine ((zc_X12_first  e38).mo (by decide) (by decide) (by decide) (fun _ h => nomatch h)).tr ?_
            by_cases c39 : r37.2 = true
            · replace h := uu_pos c39 h
              exact zb_X12_order_128  h
            · replace h := uu_neg c39 h
              obtain ⟨r41, e42, h⟩ := uu_ob h
              refine ((zc_X12_first  e42).mo (by decide) (by decide) (by decide) (fun _ h => nomatch h)).tr ?_
              by_cases c43 : r41.2 = true
              · replace h := uu_pos c43 h
                exact zb_X12_order_128  h
              · replace h := uu_neg c43 h
                obtain ⟨s45, e46, h⟩ := uu_ob h
                refine ((zc_X12_line  e46).mo (by decide) (by decide) (by decide) (fun _ h => nomatch h)).tr ?_
                have hr := Option.some.inj h
                subst hr
                exact agf.rf
set_option maxRecDepth 100000 in
set_option maxHeartbeats 4000000 in
theorem zc_X12_commandLine    {s : uS} {r : (uS × Bool)}  (h : fn_X12_commandLine   s = some r) : agf [(1079, 13), (1079, 21), (1079, 23), (1079, 93), (1079, 113), (1079, 114), (1079, 115), (1079, 116), (1079, 117), (1079, 122), (1079, 124), (1079, 125), (1079, 126), (1079, 127), (1079, 128), (1079, 130)] [1081, 1082, 1083, 1084, 1085, 1086, 1093, 1094, 1137, 1144, 1145, 1146, 1148] [] [] s r.1 := by
  unfold fn_X12_commandLine at h
  refine (agf_wI (a := 1079) (f := 122) (v := 0) (Or.inl (by decide))).tr ?_
  by_cases c1 : (s.I 1079 122) ≤ 500
  · replace h := uu_pos c1 h
    obtain ⟨s2, e3, h⟩ := uu_ob h
    refine ((zc_X12_order  e3).mo (by decide) (by decide) (by decide) (fun _ h => nomatch h)).tr ?_
    have hr := Option.some.inj h
    subst hr
    exact agf.rf
  · replace h := uu_neg c1 h
    obtain ⟨s5, e6, h⟩ := uu_ob h
    refine ((zc_X12_line  e6).mo (by decide) (by decide) (by decide) (fun _ h => nomatch h)).tr ?_
    have hr := Option.some.inj h
    subst hr
    exact agf.rf
set_option maxRecDepth 100000 in
set_option maxHeartbeats 4000000 in
theorem zb_X12_plain_56     {x1 : Int32} {b2 : Bool} {bs0 : Bool} {s : uS} {r : uS}  (h : fb_X12_plain_56   x1 b2 bs0 s = some r) : agf [(1079, 13), (1079, 122), (1079, 124), (1079, 125)] [1087, 1147] [] [] s r := by
  unfold fb_X12_plain_56 at h
  refine (agf_wI (a := 1079) (f := 124) (v := bI bs0) (Or.inl (by decide))).tr ?_
  by_cases c1 : b2 = true
  · replace h := uu_pos c1 h
    have hr := Option.some.inj h
    subst hr
    exact agf.rf
  · replace h := uu_neg c1 h
    refine (agf_wI (a := 1079) (f := 125) (v := ((wI s 1079 124 (bI bs0)).I 1079 125) + 1) (Or.inl (by decide))).tr ?_
    obtain ⟨s2, e3, h⟩ := uu_ob h
    refine ((zc_X12_mailByte  e3).mo (by decide) (by decide) (by decide) (fun _ h => nomatch h)).tr ?_
    have hr := Option.some.inj h
    subst hr
    exact agf.rf
set_option maxRecDepth 100000 in
set_option maxHeartbeats 4000000 in
theorem zb_X12_plain_38     {x1 : Int32} {bs0 : Bool} {s : uS} {r : uS}  (h : fb_X12_plain_38   x1 bs0 s = some r) : agf [(1079, 13), (1079, 122), (1079, 124), (1079, 125)] [1087, 1147] [] [] s r := by
  unfold fb_X12_plain_38 at h
  by_cases c1 : (s.I 1079 124) = 0
  · replace h := uu_pos c1 h
    by_cases c2 : bs0 = true
    · replace h := uu_pos c2 h
      exact zb_X12_plain_56  h
    · replace h := uu_neg c2 h
      exact zb_X12_plain_56  h
  · replace h := uu_neg c1 h
    exact zb_X12_plain_56  h
set_option maxRecDepth 100000 in
set_option maxHeartbeats 4000000 in
theorem zc_X12_plain   {x1 : Int32} {s : uS} {r : uS}  (h : fn_X12_plain  x1 s = some r) : agf [(1079, 13), (1079, 122), (1079, 124), (1079, 125)] [1087, 1147] [] [] s r := by
  unfold fn_X12_plain at h
  by_cases c1 : (s.I 1079 116) = 0
  · replace h := uu_pos c1 h
    obtain ⟨s2, e3, h⟩ := uu_ob h
    refine ((zc_X12_cmdByte  e3).mo (by decide) (by decide) (by decide) (fun _ h => nomatch h)).tr ?_
    have hr := Option.some.inj h
    subst hr
    exact agf.rf
  · replace h := uu_neg c1 h
    by_cases c4 : x1 = 46
    · replace h := uu_pos c4 h
      by_cases c5 : (s.I 1079 125) = 0
      · replace h := uu_pos c5 h
        by_cases c6 : (s.I 1079 124) = 0
        · replace h := uu_pos c6 h
          exact zb_X12_plain_38  h
        · replace h := uu_neg c6 h
          exact zb_X12_plain_38  h
      · replace h := uu_neg c5 h
        exact zb_X12_plain_38  h
    · replace h := uu_neg c4 h
      exact zb_X12_plain_38  h
set_option maxRecDepth 100000 in
set_option maxHeartbeats 4000000 in
theorem zb_X12_saveScript_12  {K12 : Int32 → Int32 → uS → Option uS}  (hK12 : ∀ (x1 : Int32) (x2 : Int32)  (s : uS) (r : uS), K12 x1 x2 s = some r → agf [] [1154, 1155] [] [] s r) {x1 : Int32} {x2 : Int32} {s : uS} {r : uS}  (h : fb_X12_saveScript_12  K12 x1 x2 s = some r) : agf [] [1154, 1155] [] [] s r := by
  unfold fb_X12_saveScript_12 at h
  by_cases c1 : (s.I 1079 29) ≤ x2
  · replace h := uu_pos c1 h
    have hr := Option.some.inj h
    subst hr
    exact agf.rf
  · replace h := uu_neg c1 h
    obtain ⟨v2, e3, h⟩ := uu_ob h
    obtain ⟨v4, e5, h⟩ := uu_ob h
    obtain ⟨s6, e7, h⟩ := uu_ob h
    refine (agf_lput e7 (Or.inl (by decide))).tr ?_
    exact hK12 x1 (x2 + 1) _ _ h
set_option maxRecDepth 100000 in
set_option maxHeartbeats 4000000 in
theorem zn_X12_saveScript_12     : ∀ (n : Nat) (x1 : Int32) (x2 : Int32)  (s : uS) (r : uS), fn_X12_saveScript_12   n x1 x2 s = some r → agf [] [1154, 1155] [] [] s r := by
  intro n
  induction n with
  | zero => intro x1 x2  s r h
            cases h
  | succ n ih => intro x1 x2  s r h
                 exact zb_X12_saveScript_12  ih  h
set_option maxRecDepth 100000 in
set_option maxHeartbeats 4000000 in
theorem zc_X12_saveScript   {x1 : Int32} {s : uS} {r : uS}  (h : fn_X12_saveScript  x1 s = some r) : agf [] [1154, 1155] [] [] s r := by
  unfold fn_X12_saveScript at h
  obtain ⟨s1, e2, h⟩ := uu_ob h
  refine (agf_iput e2 (Or.inl (by decide))).tr ?_
  exact zn_X12_saveScript_12  _ _ _ _ _ h
set_option maxRecDepth 100000 in
set_option maxHeartbeats 4000000 in
theorem zb_X12_nameScript_19  {K19 : Int32 → Int32 → Int32 → Int32 → uS → Option uS}  (hK19 : ∀ (x1 : Int32) (x2 : Int32) (x3 : Int32) (x4 : Int32)  (s : uS) (r : uS), K19 x1 x2 x3 x4 s = some r → agf [] [1152, 1153] [] [] s r) {x1 : Int32} {x2 : Int32} {x3 : Int32} {x4 : Int32} {s : uS} {r : uS}  (h : fb_X12_nameScript_19  K19 x1 x2 x3 x4 s = some r) : agf [] [1152, 1153] [] [] s r := by
  unfold fb_X12_nameScript_19 at h
  obtain ⟨v1, e2, h⟩ := uu_ob h
  by_cases c3 : v1 ≤ x4
  · replace h := uu_pos c3 h
    have hr := Option.some.inj h
    subst hr
    exact agf.rf
  · replace h := uu_neg c3 h
    obtain ⟨v4, e5, h⟩ := uu_ob h
    obtain ⟨s6, e7, h⟩ := uu_ob h
    refine (agf_iput e7 (Or.inl (by decide))).tr ?_
    exact hK19 x1 x2 x3 (x4 + 1) _ _ h
set_option maxRecDepth 100000 in
set_option maxHeartbeats 4000000 in
theorem zn_X12_nameScript_19     : ∀ (n : Nat) (x1 : Int32) (x2 : Int32) (x3 : Int32) (x4 : Int32)  (s : uS) (r : uS), fn_X12_nameScript_19   n x1 x2 x3 x4 s = some r → agf [] [1152, 1153] [] [] s r := by
  intro n
  induction n with
  | zero => intro x1 x2 x3 x4  s r h
            cases h
  | succ n ih => intro x1 x2 x3 x4  s r h
                 exact zb_X12_nameScript_19  ih  h
set_option maxRecDepth 100000 in
set_option maxHeartbeats 4000000 in
theorem zc_X12_nameScript   {x1 : Int32} {x2 : Int32} {x3 : Int32} {s : uS} {r : uS}  (h : fn_X12_nameScript  x1 x2 x3 s = some r) : agf [] [1152, 1153] [] [] s r := by
  unfold fn_X12_nameScript at h
  obtain ⟨v1, e2, h⟩ := uu_ob h
  obtain ⟨s3, e4, h⟩ := uu_ob h
  refine (agf_iput e4 (Or.inl (by decide))).tr ?_
  exact zn_X12_nameScript_19  _ _ _ _ _ _ _ h
set_option maxRecDepth 100000 in
set_option maxHeartbeats 4000000 in
theorem zc_X12_partByte   {x1 : Int32} {x2 : Int32} {s : uS} {r : uS}  (h : fn_X12_partByte  x1 x2 s = some r) : agf [] [1164, 1165, 1167, 1168, 1169, 1170] [] [] s r := by
  unfold fn_X12_partByte at h
  obtain ⟨v1, e2, h⟩ := uu_ob h
  by_cases c3 : v1 = 2
  · replace h := uu_pos c3 h
    obtain ⟨v4, e5, h⟩ := uu_ob h
    obtain ⟨s6, e7, h⟩ := uu_ob h
    refine (agf_iput e7 (Or.inl (by decide))).tr ?_
    have hr := Option.some.inj h
    subst hr
    exact agf.rf
  · replace h := uu_neg c3 h
    obtain ⟨v8, e9, h⟩ := uu_ob h
    obtain ⟨v10, e11, h⟩ := uu_ob h
    obtain ⟨s12, e13, h⟩ := uu_ob h
    refine (agf_iput e13 (Or.inl (by decide))).tr ?_
    by_cases c68_0 : x1 = 0
    · replace h := uu_pos c68_0 h
      obtain ⟨s14, e15, h⟩ := uu_ob h
      refine (agf_iput e15 (Or.inl (by decide))).tr ?_
      have hr := Option.some.inj h
      subst hr
      exact agf.rf
    replace h := uu_neg c68_0 h
    by_cases c68_1 : x1 = 1
    · replace h := uu_pos c68_1 h
      obtain ⟨s16, e17, h⟩ := uu_ob h
      refine (agf_iput e17 (Or.inl (by decide))).tr ?_
      have hr := Option.some.inj h
      subst hr
      exact agf.rf
    replace h := uu_neg c68_1 h
    by_cases c68_2 : x1 = 2
    · replace h := uu_pos c68_2 h
      obtain ⟨s18, e19, h⟩ := uu_ob h
      refine (agf_iput e19 (Or.inl (by decide))).tr ?_
      have hr := Option.some.inj h
      subst hr
      exact agf.rf
    replace h := uu_neg c68_2 h
    obtain ⟨s20, e21, h⟩ := uu_ob h
    refine (agf_iput e21 (Or.inl (by decide))).tr ?_
    have hr := Option.some.inj h
    subst hr
    exact agf.rf
set_option maxRecDepth 100000 in
set_option maxHeartbeats 4000000 in
theorem zc_X12_pass   {x1 : Int32} {x2 : Int32} {s : uS} {r : (uS × Bool)}  (h : fn_X12_pass  x1 x2 s = some r) : agf [] [1156, 1163] [] [] s r.1 := by
  unfold fn_X12_pass at h
  obtain ⟨s1, e2, h⟩ := uu_ob h
  refine (agf_iput e2 (Or.inl (by decide))).tr ?_
  by_cases c3 : x2 = 13
  · replace h := uu_pos c3 h
    obtain ⟨s4, e5, h⟩ := uu_ob h
    refine (agf_iput e5 (Or.inl (by decide))).tr ?_
    have hr := Option.some.inj h
    subst hr
    exact agf.rf
  · replace h := uu_neg c3 h
    obtain ⟨s6, e7, h⟩ := uu_ob h
    refine (agf_iput e7 (Or.inl (by decide))).tr ?_
    have hr := Option.some.inj h
    subst hr
    exact agf.rf
set_option maxRecDepth 100000 in
set_option maxHeartbeats 4000000 in
theorem zc_X12_go   {x1 : Int32} {x2 : Int32} {s : uS} {r : (uS × Bool)}  (h : fn_X12_go  x1 x2 s = some r) : agf [] [1156] [] [] s r.1 := by
  unfold fn_X12_go at h
  obtain ⟨s1, e2, h⟩ := uu_ob h
  refine (agf_iput e2 (Or.inl (by decide))).tr ?_
  have hr := Option.some.inj h
  subst hr
  exact agf.rf
set_option maxRecDepth 100000 in
set_option maxHeartbeats 4000000 in
theorem zb_X12_behindIn_23     {x1 : Int32} {x2 : Int32} {s : uS} {r : (uS × Bool)}  (h : fb_X12_behindIn_23   x1 x2 s = some r) : agf [] [1156, 1163] [] [] s r.1 := by
  unfold fb_X12_behindIn_23 at h
  by_cases c1 : x2 = 13
  · replace h := uu_pos c1 h
    obtain ⟨r2, e3, h⟩ := uu_ob h
    refine ((zc_X12_go  e3).mo (by decide) (by decide) (by decide) (fun _ h => nomatch h)).tr ?_
    have hr := Option.some.inj h
    subst hr
    exact agf.rf
  · replace h := uu_neg c1 h
    obtain ⟨r4, e5, h⟩ := uu_ob h
    refine ((zc_X12_pass  e5).mo (by decide) (by decide) (by decide) (fun _ h => nomatch h)).tr ?_
    have hr := Option.some.inj h
    subst hr
    exact agf.rf
set_option maxRecDepth 100000 in
set_option maxHeartbeats 4000000 in
theorem zc_X12_behindIn   {x1 : Int32} {x2 : Int32} {s : uS} {r : (uS × Bool)}  (h : fn_X12_behindIn  x1 x2 s = some r) : agf [] [1156, 1163] [] [] s r.1 := by
  unfold fn_X12_behindIn at h
  by_cases c1 : x2 = 32
  · replace h := uu_pos c1 h
    obtain ⟨v2, e3, h⟩ := uu_ob h
    by_cases c4 : (3 : Int32) ≤ v2
    · replace h := uu_pos c4 h
      exact zb_X12_behindIn_23  h
    · replace h := uu_neg c4 h
      obtain ⟨r5, e6, h⟩ := uu_ob h
      refine ((zc_X12_go  e6).mo (by decide) (by decide) (by decide) (fun _ h => nomatch h)).tr ?_
      have hr := Option.some.inj h
      subst hr
      exact agf.rf
  · replace h := uu_neg c1 h
    exact zb_X12_behindIn_23  h
set_option maxRecDepth 100000 in
set_option maxHeartbeats 4000000 in
theorem zb_X12_wordIn_35     {x1 : Int32} {s : uS} {r : (uS × Bool)}  (h : fb_X12_wordIn_35   x1 s = some r) : agf [] [1156, 1157, 1158, 1159, 1163] [] [] s r.1 := by
  unfold fb_X12_wordIn_35 at h
  obtain ⟨v1, e2, h⟩ := uu_ob h
  by_cases c3 : (21 : Int32) ≤ v1
  · replace h := uu_pos c3 h
    obtain ⟨s4, e5, h⟩ := uu_ob h
    refine (agf_iput e5 (Or.inl (by decide))).tr ?_
    have hr := Option.some.inj h
    subst hr
    exact agf.rf
  · replace h := uu_neg c3 h
    obtain ⟨v6, e7, h⟩ := uu_ob h
    obtain ⟨s8, e9, h⟩ := uu_ob h
    refine (agf_iput e9 (Or.inl (by decide))).tr ?_
    have hr := Option.some.inj h
    subst hr
    exact agf.rf
set_option maxRecDepth 100000 in
set_option maxHeartbeats 4000000 in
theorem zb_X12_wordIn_108     {x1 : Int32} {x2 : Int32} {xs0 : Int32} {xs1 : Int32} {s : uS} {r : (uS × Bool)}  (h : fb_X12_wordIn_108   x1 x2 xs0 xs1 s = some r) : agf [] [1156, 1157, 1158, 1159, 1163] [] [] s r.1 := by
  unfold fb_X12_wordIn_108 at h
  obtain ⟨s1, e2, h⟩ := uu_ob h
  refine (agf_iput e2 (Or.inl (by decide))).tr ?_
  obtain ⟨r3, e4, h⟩ := uu_ob h
  refine ((zc_X12_behindIn  e4).mo (by decide) (by decide) (by decide) (fun _ h => nomatch h)).tr ?_
  have hr := Option.some.inj h
  subst hr
  exact agf.rf
set_option maxRecDepth 100000 in
set_option maxHeartbeats 4000000 in
theorem zc_X12_wordIn   {x1 : Int32} {x2 : Int32} {s : uS} {r : (uS × Bool)}  (h : fn_X12_wordIn  x1 x2 s = some r) : agf [] [1156, 1157, 1158, 1159, 1163] [] [] s r.1 := by
  unfold fn_X12_wordIn at h
  obtain ⟨v1, e2, h⟩ := uu_ob h
  by_cases c3 : v1 = true
  · replace h := uu_pos c3 h
    obtain ⟨v4, e5, h⟩ := uu_ob h
    by_cases c6 : (20 : Int32) ≤ v4
    · replace h := uu_pos c6 h
      exact zb_X12_wordIn_35  h
    · replace h := uu_neg c6 h
      obtain ⟨v7, e8, h⟩ := uu_ob h
      obtain ⟨s9, e10, h⟩ := uu_ob h
      refine (agf_iput e10 (Or.inl (by decide))).tr ?_
      exact zb_X12_wordIn_35  h
  · replace h := uu_neg c3 h
    obtain ⟨v11, e12, h⟩ := uu_ob h
    by_cases c13 : v11 = 0
    · replace h := uu_pos c13 h
      obtain ⟨r14, e15, h⟩ := uu_ob h
      refine ((zc_X12_pass  e15).mo (by decide) (by decide) (by decide) (fun _ h => nomatch h)).tr ?_
      have hr := Option.some.inj h
      subst hr
      exact agf.rf
    · replace h := uu_neg c13 h
      obtain ⟨v16, e17, h⟩ := uu_ob h
      by_cases c18 : (21 : Int32) ≤ v16
      · replace h := uu_pos c18 h
        exact zb_X12_wordIn_108  h
      · replace h := uu_neg c18 h
        obtain ⟨v19, e20, h⟩ := uu_ob h
        exact zb_X12_wordIn_108  h
set_option maxRecDepth 100000 in
set_option maxHeartbeats 4000000 in
theorem zb_X12_digitIn_40     {x1 : Int32} {x3 : Int32} {xs0 : Int32} {xs1 : Int32} {s : uS} {r : (uS × Bool)}  (h : fb_X12_digitIn_40   x1 x3 xs0 xs1 s = some r) : agf [] [1156, 1161, 1162] [] [] s r.1 := by
  unfold fb_X12_digitIn_40 at h
  obtain ⟨s1, e2, h⟩ := uu_ob h
  refine (agf_iput e2 (Or.inl (by decide))).tr ?_
  obtain ⟨v3, e4, h⟩ := uu_ob h
  obtain ⟨s5, e6, h⟩ := uu_ob h
  refine (agf_iput e6 (Or.inl (by decide))).tr ?_
  obtain ⟨r7, e8, h⟩ := uu_ob h
  refine ((zc_X12_go  e8).mo (by decide) (by decide) (by decide) (fun _ h => nomatch h)).tr ?_
  have hr := Option.some.inj h
  subst hr
  exact agf.rf
set_option maxRecDepth 100000 in
set_option maxHeartbeats 4000000 in
theorem zc_X12_digitIn   {x1 : Int32} {x2 : Int32} {x3 : Int32} {s : uS} {r : (uS × Bool)}  (h : fn_X12_digitIn  x1 x2 x3 s = some r) : agf [] [1156, 1161, 1162] [] [] s r.1 := by
  unfold fn_X12_digitIn at h
  obtain ⟨v1, e2, h⟩ := uu_ob h
  by_cases c3 : (100000000 : Int32) ≤ v1
  · replace h := uu_pos c3 h
    obtain ⟨v4, e5, h⟩ := uu_ob h
    exact zb_X12_digitIn_40  h
  · replace h := uu_neg c3 h
    obtain ⟨v6, e7, h⟩ := uu_ob h
    exact zb_X12_digitIn_40  h
set_option maxRecDepth 100000 in
set_option maxHeartbeats 4000000 in
theorem zb_X12_beginIn_36     {x1 : Int32} {x2 : Int32} {s : uS} {r : (uS × Bool)}  (h : fb_X12_beginIn_36   x1 x2 s = some r) : agf [] [1156, 1161, 1162, 1163, 1164, 1165] [] [] s r.1 := by
  unfold fb_X12_beginIn_36 at h
  obtain ⟨s1, e2, h⟩ := uu_ob h
  refine (agf_iput e2 (Or.inl (by decide))).tr ?_
  obtain ⟨s3, e4, h⟩ := uu_ob h
  refine (agf_iput e4 (Or.inl (by decide))).tr ?_
  obtain ⟨v5, e6, h⟩ := uu_ob h
  by_cases c7 : v5 = true
  · replace h := uu_pos c7 h
    obtain ⟨r8, e9, h⟩ := uu_ob h
    refine ((zc_X12_digitIn  e9).mo (by decide) (by decide) (by decide) (fun _ h => nomatch h)).tr ?_
    have hr := Option.some.inj h
    subst hr
    exact agf.rf
  · replace h := uu_neg c7 h
    by_cases c10 : x2 = 34
    · replace h := uu_pos c10 h
      obtain ⟨r11, e12, h⟩ := uu_ob h
      refine ((zc_X12_go  e12).mo (by decide) (by decide) (by decide) (fun _ h => nomatch h)).tr ?_
      have hr := Option.some.inj h
      subst hr
      exact agf.rf
    · replace h := uu_neg c10 h
      by_cases c13 : x2 = 123
      · replace h := uu_pos c13 h
        obtain ⟨r14, e15, h⟩ := uu_ob h
        refine ((zc_X12_go  e15).mo (by decide) (by decide) (by decide) (fun _ h => nomatch h)).tr ?_
        have hr := Option.some.inj h
        subst hr
        exact agf.rf
      · replace h := uu_neg c13 h
        obtain ⟨r16, e17, h⟩ := uu_ob h
        refine ((zc_X12_pass  e17).mo (by decide) (by decide) (by decide) (fun _ h => nomatch h)).tr ?_
        have hr := Option.some.inj h
        subst hr
        exact agf.rf
set_option maxRecDepth 100000 in
set_option maxHeartbeats 4000000 in
theorem zc_X12_beginIn   {x1 : Int32} {x2 : Int32} {s : uS} {r : (uS × Bool)}  (h : fn_X12_beginIn  x1 x2 s = some r) : agf [] [1156, 1161, 1162, 1163, 1164, 1165] [] [] s r.1 := by
  unfold fn_X12_beginIn at h
  obtain ⟨v1, e2, h⟩ := uu_ob h
  by_cases c3 : (2 : Int32) ≤ v1
  · replace h := uu_pos c3 h
    obtain ⟨s4, e5, h⟩ := uu_ob h
    refine (agf_iput e5 (Or.inl (by decide))).tr ?_
    exact zb_X12_beginIn_36  h
  · replace h := uu_neg c3 h
    obtain ⟨v6, e7, h⟩ := uu_ob h
    obtain ⟨s8, e9, h⟩ := uu_ob h
    refine (agf_iput e9 (Or.inl (by decide))).tr ?_
    exact zb_X12_beginIn_36  h
set_option maxRecDepth 100000 in
set_option maxHeartbeats 4000000 in
theorem zc_X12_partDone   {x1 : Int32} {s : uS} {r : (uS × Bool)}  (h : fn_X12_partDone  x1 s = some r) : agf [] [1156, 1160] [] [] s r.1 := by
  unfold fn_X12_partDone at h
  obtain ⟨v1, e2, h⟩ := uu_ob h
  obtain ⟨s3, e4, h⟩ := uu_ob h
  refine (agf_iput e4 (Or.inl (by decide))).tr ?_
  obtain ⟨r5, e6, h⟩ := uu_ob h
  refine ((zc_X12_go  e6).mo (by decide) (by decide) (by decide) (fun _ h => nomatch h)).tr ?_
  have hr := Option.some.inj h
  subst hr
  exact agf.rf
set_option maxRecDepth 100000 in
set_option maxHeartbeats 4000000 in
theorem zb_X12_quotedIn_44     {x1 : Int32} {x2 : Int32} {s : uS} {r : (uS × Bool)}  (h : fb_X12_quotedIn_44   x1 x2 s = some r) : agf [] [1156, 1160, 1163, 1164, 1165, 1167, 1168, 1169, 1170] [] [] s r.1 := by
  unfold fb_X12_quotedIn_44 at h
  obtain ⟨r1, e2, h⟩ := uu_ob h
  refine ((zc_X12_pass  e2).mo (by decide) (by decide) (by decide) (fun _ h => nomatch h)).tr ?_
  have hr := Option.some.inj h
  subst hr
  exact agf.rf
set_option maxRecDepth 100000 in
set_option maxHeartbeats 4000000 in
theorem zb_X12_quotedIn_68     {x1 : Int32} {x2 : Int32} {s : uS} {r : (uS × Bool)}  (h : fb_X12_quotedIn_68   x1 x2 s = some r) : agf [] [1156, 1160, 1163, 1164, 1165, 1167, 1168, 1169, 1170] [] [] s r.1 := by
  unfold fb_X12_quotedIn_68 at h
  obtain ⟨v1, e2, h⟩ := uu_ob h
  by_cases c3 : v1 = 200
  · replace h := uu_pos c3 h
    obtain ⟨r4, e5, h⟩ := uu_ob h
    refine ((zc_X12_pass  e5).mo (by decide) (by decide) (by decide) (fun _ h => nomatch h)).tr ?_
    have hr := Option.some.inj h
    subst hr
    exact agf.rf
  · replace h := uu_neg c3 h
    obtain ⟨s6, e7, h⟩ := uu_ob h
    refine ((zc_X12_partByte  e7).mo (by decide) (by decide) (by decide) (fun _ h => nomatch h)).tr ?_
    obtain ⟨r8, e9, h⟩ := uu_ob h
    refine ((zc_X12_go  e9).mo (by decide) (by decide) (by decide) (fun _ h => nomatch h)).tr ?_
    have hr := Option.some.inj h
    subst hr
    exact agf.rf
set_option maxRecDepth 100000 in
set_option maxHeartbeats 4000000 in
theorem zb_X12_quotedIn_32     {x1 : Int32} {x2 : Int32} {b3 : Bool} {s : uS} {r : (uS × Bool)}  (h : fb_X12_quotedIn_32   x1 x2 b3 s = some r) : agf [] [1156, 1160, 1163, 1164, 1165, 1167, 1168, 1169, 1170] [] [] s r.1 := by
  unfold fb_X12_quotedIn_32 at h
  by_cases c1 : x2 = 13
  · replace h := uu_pos c1 h
    exact zb_X12_quotedIn_44  h
  · replace h := uu_neg c1 h
    by_cases c2 : x2 = 10
    · replace h := uu_pos c2 h
      exact zb_X12_quotedIn_44  h
    · replace h := uu_neg c2 h
      by_cases c3 : x2 = 92
      · replace h := uu_pos c3 h
        by_cases c4 : b3 = true
        · replace h := uu_pos c4 h
          exact zb_X12_quotedIn_68  h
        · replace h := uu_neg c4 h
          obtain ⟨r5, e6, h⟩ := uu_ob h
          refine ((zc_X12_go  e6).mo (by decide) (by decide) (by decide) (fun _ h => nomatch h)).tr ?_
          have hr := Option.some.inj h
          subst hr
          exact agf.rf
      · replace h := uu_neg c3 h
        exact zb_X12_quotedIn_68  h
set_option maxRecDepth 100000 in
set_option maxHeartbeats 4000000 in
theorem zb_X12_quotedIn_15     {x1 : Int32} {x2 : Int32} {bs0 : Bool} {s : uS} {r : (uS × Bool)}  (h : fb_X12_quotedIn_15   x1 x2 bs0 s = some r) : agf [] [1156, 1160, 1163, 1164, 1165, 1167, 1168, 1169, 1170] [] [] s r.1 := by
  unfold fb_X12_quotedIn_15 at h
  by_cases c1 : x2 = 34
  · replace h := uu_pos c1 h
    by_cases c2 : bs0 = true
    · replace h := uu_pos c2 h
      exact zb_X12_quotedIn_32  h
    · replace h := uu_neg c2 h
      obtain ⟨r3, e4, h⟩ := uu_ob h
      refine ((zc_X12_partDone  e4).mo (by decide) (by decide) (by decide) (fun _ h => nomatch h)).tr ?_
      have hr := Option.some.inj h
      subst hr
      exact agf.rf
  · replace h := uu_neg c1 h
    exact zb_X12_quotedIn_32  h
set_option maxRecDepth 100000 in
set_option maxHeartbeats 4000000 in
theorem zc_X12_quotedIn   {x1 : Int32} {x2 : Int32} {s : uS} {r : (uS × Bool)}  (h : fn_X12_quotedIn  x1 x2 s = some r) : agf [] [1156, 1160, 1163, 1164, 1165, 1167, 1168, 1169, 1170] [] [] s r.1 := by
  unfold fn_X12_quotedIn at h
  obtain ⟨v1, e2, h⟩ := uu_ob h
  by_cases c3 : v1 = 4
  · replace h := uu_pos c3 h
    exact zb_X12_quotedIn_15  h
  · replace h := uu_neg c3 h
    exact zb_X12_quotedIn_15  h
set_option maxRecDepth 100000 in
set_option maxHeartbeats 4000000 in
theorem zb_X12_countIn_60     {x1 : Int32} {x2 : Int32} {s : uS} {r : (uS × Bool)}  (h : fb_X12_countIn_60   x1 x2 s = some r) : agf [] [1156, 1161, 1162, 1163] [] [] s r.1 := by
  unfold fb_X12_countIn_60 at h
  obtain ⟨r1, e2, h⟩ := uu_ob h
  refine ((zc_X12_pass  e2).mo (by decide) (by decide) (by decide) (fun _ h => nomatch h)).tr ?_
  have hr := Option.some.inj h
  subst hr
  exact agf.rf
set_option maxRecDepth 100000 in
set_option maxHeartbeats 4000000 in
theorem zc_X12_countIn   {x1 : Int32} {x2 : Int32} {s : uS} {r : (uS × Bool)}  (h : fn_X12_countIn  x1 x2 s = some r) : agf [] [1156, 1161, 1162, 1163] [] [] s r.1 := by
  unfold fn_X12_countIn at h
  obtain ⟨v1, e2, h⟩ := uu_ob h
  by_cases c3 : v1 = true
  · replace h := uu_pos c3 h
    obtain ⟨v4, e5, h⟩ := uu_ob h
    by_cases c6 : (9 : Int32) ≤ v4
    · replace h := uu_pos c6 h
      obtain ⟨r7, e8, h⟩ := uu_ob h
      refine ((zc_X12_pass  e8).mo (by decide) (by decide) (by decide) (fun _ h => nomatch h)).tr ?_
      have hr := Option.some.inj h
      subst hr
      exact agf.rf
    · replace h := uu_neg c6 h
      obtain ⟨r9, e10, h⟩ := uu_ob h
      refine ((zc_X12_digitIn  e10).mo (by decide) (by decide) (by decide) (fun _ h => nomatch h)).tr ?_
      have hr := Option.some.inj h
      subst hr
      exact agf.rf
  · replace h := uu_neg c3 h
    by_cases c11 : x2 = 43
    · replace h := uu_pos c11 h
      obtain ⟨v12, e13, h⟩ := uu_ob h
      by_cases c14 : v12 ≤ 0
      · replace h := uu_pos c14 h
        exact zb_X12_countIn_60  h
      · replace h := uu_neg c14 h
        obtain ⟨r15, e16, h⟩ := uu_ob h
        refine ((zc_X12_go  e16).mo (by decide) (by decide) (by decide) (fun _ h => nomatch h)).tr ?_
        have hr := Option.some.inj h
        subst hr
        exact agf.rf
    · replace h := uu_neg c11 h
      exact zb_X12_countIn_60  h
set_option maxRecDepth 100000 in
set_option maxHeartbeats 4000000 in
theorem zc_X12_numberIn   {x1 : Int32} {x2 : Int32} {s : uS} {r : (uS × Bool)}  (h : fn_X12_numberIn  x1 x2 s = some r) : agf [] [1156, 1160, 1161, 1162, 1163, 1166] [] [] s r.1 := by
  unfold fn_X12_numberIn at h
  obtain ⟨v1, e2, h⟩ := uu_ob h
  by_cases c3 : v1 = true
  · replace h := uu_pos c3 h
    obtain ⟨v4, e5, h⟩ := uu_ob h
    by_cases c6 : (9 : Int32) ≤ v4
    · replace h := uu_pos c6 h
      obtain ⟨r7, e8, h⟩ := uu_ob h
      refine ((zc_X12_pass  e8).mo (by decide) (by decide) (by decide) (fun _ h => nomatch h)).tr ?_
      have hr := Option.some.inj h
      subst hr
      exact agf.rf
    · replace h := uu_neg c6 h
      obtain ⟨r9, e10, h⟩ := uu_ob h
      refine ((zc_X12_digitIn  e10).mo (by decide) (by decide) (by decide) (fun _ h => nomatch h)).tr ?_
      have hr := Option.some.inj h
      subst hr
      exact agf.rf
  · replace h := uu_neg c3 h
    obtain ⟨v11, e12, h⟩ := uu_ob h
    obtain ⟨v13, e14, h⟩ := uu_ob h
    obtain ⟨s15, e16, h⟩ := uu_ob h
    refine (agf_iput e16 (Or.inl (by decide))).tr ?_
    obtain ⟨v17, e18, h⟩ := uu_ob h
    obtain ⟨s19, e20, h⟩ := uu_ob h
    refine (agf_iput e20 (Or.inl (by decide))).tr ?_
    obtain ⟨r21, e22, h⟩ := uu_ob h
    refine ((zc_X12_behindIn  e22).mo (by decide) (by decide) (by decide) (fun _ h => nomatch h)).tr ?_
    have hr := Option.some.inj h
    subst hr
    exact agf.rf
set_option maxRecDepth 100000 in
set_option maxHeartbeats 4000000 in
theorem zc_X12_literalIn   {x1 : Int32} {x2 : Int32} {s : uS} {r : (uS × Bool)}  (h : fn_X12_literalIn  x1 x2 s = some r) : agf [] [1156, 1160, 1164, 1165, 1167, 1168, 1169, 1170] [] [] s r.1 := by
  unfold fn_X12_literalIn at h
  obtain ⟨s1, e2, h⟩ := uu_ob h
  refine ((zc_X12_partByte  e2).mo (by decide) (by decide) (by decide) (fun _ h => nomatch h)).tr ?_
  obtain ⟨v3, e4, h⟩ := uu_ob h
  obtain ⟨v5, e6, h⟩ := uu_ob h
  by_cases c7 : v3 = v5
  · replace h := uu_pos c7 h
    obtain ⟨r8, e9, h⟩ := uu_ob h
    refine ((zc_X12_partDone  e9).mo (by decide) (by decide) (by decide) (fun _ h => nomatch h)).tr ?_
    have hr := Option.some.inj h
    subst hr
    exact agf.rf
  · replace h := uu_neg c7 h
    have hr := Option.some.inj h
    subst hr
    exact agf.rf
set_option maxRecDepth 100000 in
set_option maxHeartbeats 4000000 in
theorem zc_X12_no   {x1 : Int32} {w2 : List Nat} {s : uS} {r : uS}  (h : fn_X12_no  x1 w2 s = some r) : agf [] [1081, 1082, 1083, 1084, 1085, 1086] [] [] s r := by
  unfold fn_X12_no at h
  obtain ⟨s2, e3, h⟩ := uu_ob h
  refine ((zc_X12_tell  e3).mo (by decide) (by decide) (by decide) (fun _ h => nomatch h)).tr ?_
  obtain ⟨s4, e5, h⟩ := uu_ob h
  refine ((zc_X12_tell  e5).mo (by decide) (by decide) (by decide) (fun _ h => nomatch h)).tr ?_
  obtain ⟨s7, e8, h⟩ := uu_ob h
  refine ((zc_X12_line  e8).mo (by decide) (by decide) (by decide) (fun _ h => nomatch h)).tr ?_
  have hr := Option.some.inj h
  subst hr
  exact agf.rf
set_option maxRecDepth 100000 in
set_option maxHeartbeats 4000000 in
theorem zb_X12_source_16  {K16 : Int32 → Int32 → Int32 → uS → Option uS}  (hK16 : ∀ (x1 : Int32) (x2 : Int32) (x3 : Int32)  (s : uS) (r : uS), K16 x1 x2 x3 s = some r → agf [(1079, 29)] [1096] [] [] s r) {x1 : Int32} {x2 : Int32} {x3 : Int32} {s : uS} {r : uS}  (h : fb_X12_source_16  K16 x1 x2 x3 s = some r) : agf [(1079, 29)] [1096] [] [] s r := by
  unfold fb_X12_source_16 at h
  by_cases c1 : (s.I 1079 29) ≤ x3
  · replace h := uu_pos c1 h
    have hr := Option.some.inj h
    subst hr
    exact agf.rf
  · replace h := uu_neg c1 h
    obtain ⟨v2, e3, h⟩ := uu_ob h
    obtain ⟨s4, e5, h⟩ := uu_ob h
    refine (agf_iput e5 (Or.inl (by decide))).tr ?_
    exact hK16 x1 x2 (x3 + 1) _ _ h
set_option maxRecDepth 100000 in
set_option maxHeartbeats 4000000 in
theorem zn_X12_source_16     : ∀ (n : Nat) (x1 : Int32) (x2 : Int32) (x3 : Int32)  (s : uS) (r : uS), fn_X12_source_16   n x1 x2 x3 s = some r → agf [(1079, 29)] [1096] [] [] s r := by
  intro n
  induction n with
  | zero => intro x1 x2 x3  s r h
            cases h
  | succ n ih => intro x1 x2 x3  s r h
                 exact zb_X12_source_16  ih  h
set_option maxRecDepth 100000 in
set_option maxHeartbeats 4000000 in
theorem zc_X12_source   {x1 : Int32} {x2 : Int32} {s : uS} {r : uS}  (h : fn_X12_source  x1 x2 s = some r) : agf [(1079, 29)] [1096] [] [] s r := by
  unfold fn_X12_source at h
  obtain ⟨v1, e2, h⟩ := uu_ob h
  refine (agf_wI (a := 1079) (f := 29) (v := v1) (Or.inl (by decide))).tr ?_
  exact zn_X12_source_16  _ _ _ _ _ _ h
set_option maxRecDepth 100000 in
set_option maxHeartbeats 4000000 in
theorem zb_X12_sayNumber_7  {K7 : Int32 → Int32 → uS → Option uS}  (hK7 : ∀ (x1 : Int32) (x3 : Int32)  (s : uS) (r : uS), K7 x1 x3 s = some r → agf [(1079, 21)] [1081, 1082, 1083, 1084, 1085, 1086, 1093] [] [] s r) {x1 : Int32} {x3 : Int32} {s : uS} {r : uS}  (h : fb_X12_sayNumber_7  K7 x1 x3 s = some r) : agf [(1079, 21)] [1081, 1082, 1083, 1084, 1085, 1086, 1093] [] [] s r := by
  unfold fb_X12_sayNumber_7 at h
  by_cases c1 : (s.I 1079 21) ≤ x3
  · replace h := uu_pos c1 h
    have hr := Option.some.inj h
    subst hr
    exact agf.rf
  · replace h := uu_neg c1 h
    obtain ⟨v2, e3, h⟩ := uu_ob h
    obtain ⟨s4, e5, h⟩ := uu_ob h
    refine ((zc_X12_say  e5).mo (by decide) (by decide) (by decide) (fun _ h => nomatch h)).tr ?_
    exact hK7 x1 (x3 + 1) _ _ h
set_option maxRecDepth 100000 in
set_option maxHeartbeats 4000000 in
theorem zn_X12_sayNumber_7     : ∀ (n : Nat) (x1 : Int32) (x3 : Int32)  (s : uS) (r : uS), fn_X12_sayNumber_7   n x1 x3 s = some r → agf [(1079, 21)] [1081, 1082, 1083, 1084, 1085, 1086, 1093] [] [] s r := by
  intro n
  induction n with
  | zero => intro x1 x3  s r h
            cases h
  | succ n ih => intro x1 x3  s r h
                 exact zb_X12_sayNumber_7  ih  h
set_option maxRecDepth 100000 in
set_option maxHeartbeats 4000000 in
theorem zc_X12_sayNumber   {x1 : Int32} {x2 : Int32} {s : uS} {r : uS}  (h : fn_X12_sayNumber  x1 x2 s = some r) : agf [(1079, 21)] [1081, 1082, 1083, 1084, 1085, 1086, 1093] [] [] s r := by
  unfold fn_X12_sayNumber at h
  obtain ⟨s1, e2, h⟩ := uu_ob h
  refine ((zc_X12_oneNumber  e2).mo (by decide) (by decide) (by decide) (fun _ h => nomatch h)).tr ?_
  exact zn_X12_sayNumber_7  _ _ _ _ _ h
set_option maxRecDepth 100000 in
set_option maxHeartbeats 4000000 in
theorem zb_X12_setActive_79     {x1 : Int32} {xs0 : Int32} {xs1 : Int32} {s : uS} {r : (uS × Bool)}  (h : fb_X12_setActive_79   x1 xs0 xs1 s = some r) : agf [(1079, 0), (1079, 2), (1079, 3), (1079, 113)] [1081, 1082, 1083, 1084, 1085, 1086, 1150, 1156, 1157, 1160, 1166] [] [] s r.1 := by
  unfold fb_X12_setActive_79 at h
  obtain ⟨s1, e2, h⟩ := uu_ob h
  refine (agf_iput e2 (Or.inl (by decide))).tr ?_
  obtain ⟨s4, e5, h⟩ := uu_ob h
  refine ((zc_X12_line  e5).mo (by decide) (by decide) (by decide) (fun _ h => nomatch h)).tr ?_
  have hr := Option.some.inj h
  subst hr
  exact agf.rf
set_option maxRecDepth 100000 in
set_option maxHeartbeats 4000000 in
theorem zb_X12_setActive_47     {x1 : Int32} {x2 : Int32} {s : uS} {r : (uS × Bool)}  (h : fb_X12_setActive_47   x1 x2 s = some r) : agf [(1079, 0), (1079, 2), (1079, 3), (1079, 113)] [1081, 1082, 1083, 1084, 1085, 1086, 1150, 1156, 1157, 1160, 1166] [] [] s r.1 := by
  unfold fb_X12_setActive_47 at h
  obtain ⟨r1, e2, h⟩ := uu_ob h
  refine ((zc_X12_commit  e2).mo (by decide) (by decide) (by decide) (fun _ h => nomatch h)).tr ?_
  by_cases c3 : r1.2 = true
  · replace h := uu_pos c3 h
    by_cases c4 : 0 ≤ x2
    · replace h := uu_pos c4 h
      obtain ⟨v5, e6, h⟩ := uu_ob h
      exact zb_X12_setActive_79  h
    · replace h := uu_neg c4 h
      exact zb_X12_setActive_79  h
  · replace h := uu_neg c3 h
    have hr := Option.some.inj h
    subst hr
    exact agf.rf
set_option maxRecDepth 100000 in
set_option maxHeartbeats 4000000 in
theorem zb_X12_setActive_21     {x1 : Int32} {xs0 : Int32} {s : uS} {r : (uS × Bool)}  (h : fb_X12_setActive_21   x1 xs0 s = some r) : agf [(1079, 0), (1079, 2), (1079, 3), (1079, 113)] [1081, 1082, 1083, 1084, 1085, 1086, 1150, 1156, 1157, 1160, 1166] [] [] s r.1 := by
  unfold fb_X12_setActive_21 at h
  by_cases c1 : 0 ≤ xs0
  · replace h := uu_pos c1 h
    exact zb_X12_setActive_47  h
  · replace h := uu_neg c1 h
    obtain ⟨v2, e3, h⟩ := uu_ob h
    by_cases c4 : v2 ≤ 0
    · replace h := uu_pos c4 h
      exact zb_X12_setActive_47  h
    · replace h := uu_neg c4 h
      obtain ⟨s6, e7, h⟩ := uu_ob h
      refine ((zc_X12_no  e7).mo (by decide) (by decide) (by decide) (fun _ h => nomatch h)).tr ?_
      have hr := Option.some.inj h
      subst hr
      exact agf.rf
set_option maxRecDepth 100000 in
set_option maxHeartbeats 4000000 in
theorem zc_X12_setActive   {x1 : Int32} {s : uS} {r : (uS × Bool)}  (h : fn_X12_setActive  x1 s = some r) : agf [(1079, 0), (1079, 2), (1079, 3), (1079, 113)] [1081, 1082, 1083, 1084, 1085, 1086, 1150, 1156, 1157, 1160, 1166] [] [] s r.1 := by
  unfold fn_X12_setActive at h
  obtain ⟨v1, e2, h⟩ := uu_ob h
  by_cases c3 : v1 = 0
  · replace h := uu_pos c3 h
    exact zb_X12_setActive_21  h
  · replace h := uu_neg c3 h
    obtain ⟨v4, e5, h⟩ := uu_ob h
    exact zb_X12_setActive_21  h
set_option maxRecDepth 100000 in
set_option maxHeartbeats 4000000 in
theorem zb_X12_getScript_61  {K61 : Int32 → Int32 → uS → Option (uS × Bool)}  (hK61 : ∀ (x1 : Int32) (x3 : Int32)  (s : uS) (r : (uS × Bool)), K61 x1 x3 s = some r → agf [(1079, 21), (1079, 29)] [1081, 1082, 1083, 1084, 1085, 1086, 1093, 1096] [] [] s r.1) {x1 : Int32} {x3 : Int32} {s : uS} {r : (uS × Bool)}  (h : fb_X12_getScript_61  K61 x1 x3 s = some r) : agf [(1079, 21), (1079, 29)] [1081, 1082, 1083, 1084, 1085, 1086, 1093, 1096] [] [] s r.1 := by
  unfold fb_X12_getScript_61 at h
  by_cases c1 : (s.I 1079 29) ≤ x3
  · replace h := uu_pos c1 h
    obtain ⟨s3, e4, h⟩ := uu_ob h
    refine ((zc_X12_line  e4).mo (by decide) (by decide) (by decide) (fun _ h => nomatch h)).tr ?_
    obtain ⟨s6, e7, h⟩ := uu_ob h
    refine ((zc_X12_line  e7).mo (by decide) (by decide) (by decide) (fun _ h => nomatch h)).tr ?_
    have hr := Option.some.inj h
    subst hr
    exact agf.rf
  · replace h := uu_neg c1 h
    obtain ⟨v8, e9, h⟩ := uu_ob h
    obtain ⟨s10, e11, h⟩ := uu_ob h
    refine ((zc_X12_say  e11).mo (by decide) (by decide) (by decide) (fun _ h => nomatch h)).tr ?_
    exact hK61 x1 (x3 + 1) _ _ h
set_option maxRecDepth 100000 in
set_option maxHeartbeats 4000000 in
theorem zn_X12_getScript_61     : ∀ (n : Nat) (x1 : Int32) (x3 : Int32)  (s : uS) (r : (uS × Bool)), fn_X12_getScript_61   n x1 x3 s = some r → agf [(1079, 21), (1079, 29)] [1081, 1082, 1083, 1084, 1085, 1086, 1093, 1096] [] [] s r.1 := by
  intro n
  induction n with
  | zero => intro x1 x3  s r h
            cases h
  | succ n ih => intro x1 x3  s r h
                 exact zb_X12_getScript_61  ih  h
set_option maxRecDepth 100000 in
set_option maxHeartbeats 4000000 in
theorem zc_X12_getScript   {x1 : Int32} {s : uS} {r : (uS × Bool)}  (h : fn_X12_getScript  x1 s = some r) : agf [(1079, 21), (1079, 29)] [1081, 1082, 1083, 1084, 1085, 1086, 1093, 1096] [] [] s r.1 := by
  unfold fn_X12_getScript at h
  obtain ⟨v1, e2, h⟩ := uu_ob h
  by_cases c3 : 0 ≤ v1
  · replace h := uu_pos c3 h
    obtain ⟨v4, e5, h⟩ := uu_ob h
    obtain ⟨s6, e7, h⟩ := uu_ob h
    refine ((zc_X12_loadScript  e7).mo (by decide) (by decide) (by decide) (fun _ h => nomatch h)).tr ?_
    obtain ⟨s8, e9, h⟩ := uu_ob h
    refine ((zc_X12_say  e9).mo (by decide) (by decide) (by decide) (fun _ h => nomatch h)).tr ?_
    obtain ⟨s10, e11, h⟩ := uu_ob h
    refine ((zc_X12_sayNumber  e11).mo (by decide) (by decide) (by decide) (fun _ h => nomatch h)).tr ?_
    obtain ⟨s13, e14, h⟩ := uu_ob h
    refine ((zc_X12_line  e14).mo (by decide) (by decide) (by decide) (fun _ h => nomatch h)).tr ?_
    exact zn_X12_getScript_61  _ _ _ _ _ h
  · replace h := uu_neg c3 h
    obtain ⟨s16, e17, h⟩ := uu_ob h
    refine ((zc_X12_no  e17).mo (by decide) (by decide) (by decide) (fun _ h => nomatch h)).tr ?_
    have hr := Option.some.inj h
    subst hr
    exact agf.rf
set_option maxRecDepth 100000 in
set_option maxHeartbeats 4000000 in
theorem zb_X12_listScripts_113  {K2 : Int32 → Int32 → uS → Option (uS × Bool)}  (hK2 : ∀ (x1 : Int32) (x2 : Int32)  (s : uS) (r : (uS × Bool)), K2 x1 x2 s = some r → agf [] [1081, 1082, 1083, 1084, 1085, 1086] [] [] s r.1) {x1 : Int32} {x2 : Int32} {ws0 : List Nat} {xs1 : Int32} {s : uS} {r : (uS × Bool)}  (h : fb_X12_listScripts_113  K2 x1 x2 ws0 xs1 s = some r) : agf [] [1081, 1082, 1083, 1084, 1085, 1086] [] [] s r.1 := by
  unfold fb_X12_listScripts_113 at h
  obtain ⟨s1, e2, h⟩ := uu_ob h
  refine ((zc_X12_line  e2).mo (by decide) (by decide) (by decide) (fun _ h => nomatch h)).tr ?_
  exact hK2 x1 (x2 + 1) _ _ h
set_option maxRecDepth 100000 in
set_option maxHeartbeats 4000000 in
theorem zb_X12_listScripts_79  {K2 : Int32 → Int32 → uS → Option (uS × Bool)} {K33 : Int32 → Int32 → Int32 → Int32 → uS → Option (uS × Bool)}  (hK2 : ∀ (x1 : Int32) (x2 : Int32)  (s : uS) (r : (uS × Bool)), K2 x1 x2 s = some r → agf [] [1081, 1082, 1083, 1084, 1085, 1086] [] [] s r.1) (hK33 : ∀ (x1 : Int32) (x2 : Int32) (x3 : Int32) (x4 : Int32)  (s : uS) (r : (uS × Bool)), K33 x1 x2 x3 x4 s = some r → agf [] [1081, 1082, 1083, 1084, 1085, 1086] [] [] s r.1) {x1 : Int32} {x2 : Int32} {x3 : Int32} {x4 : Int32} {x5 : Int32} {s : uS} {r : (uS × Bool)}  (h : fb_X12_listScripts_79  K2 K33 x1 x2 x3 x4 x5 s = some r) : agf [] [1081, 1082, 1083, 1084, 1085, 1086] [] [] s r.1 := by
  unfold fb_X12_listScripts_79 at h
  obtain ⟨s1, e2, h⟩ := uu_ob h
  refine ((zc_X12_say  e2).mo (by decide) (by decide) (by decide) (fun _ h => nomatch h)).tr ?_
  exact hK33 x1 x2 x3 (x4 + 1) _ _ h
set_option maxRecDepth 100000 in
set_option maxHeartbeats 4000000 in
theorem zb_X12_listScripts_72  {K2 : Int32 → Int32 → uS → Option (uS × Bool)} {K33 : Int32 → Int32 → Int32 → Int32 → uS → Option (uS × Bool)}  (hK2 : ∀ (x1 : Int32) (x2 : Int32)  (s : uS) (r : (uS × Bool)), K2 x1 x2 s = some r → agf [] [1081, 1082, 1083, 1084, 1085, 1086] [] [] s r.1) (hK33 : ∀ (x1 : Int32) (x2 : Int32) (x3 : Int32) (x4 : Int32)  (s : uS) (r : (uS × Bool)), K33 x1 x2 x3 x4 s = some r → agf [] [1081, 1082, 1083, 1084, 1085, 1086] [] [] s r.1) {x1 : Int32} {x2 : Int32} {x3 : Int32} {x4 : Int32} {x5 : Int32} {s : uS} {r : (uS × Bool)}  (h : fb_X12_listScripts_72  K2 K33 x1 x2 x3 x4 x5 s = some r) : agf [] [1081, 1082, 1083, 1084, 1085, 1086] [] [] s r.1 := by
  unfold fb_X12_listScripts_72 at h
  obtain ⟨s1, e2, h⟩ := uu_ob h
  refine ((zc_X12_say  e2).mo (by decide) (by decide) (by decide) (fun _ h => nomatch h)).tr ?_
  exact zb_X12_listScripts_79 hK2 hK33 h
set_option maxRecDepth 100000 in
set_option maxHeartbeats 4000000 in
theorem zb_X12_listScripts_33  {K2 : Int32 → Int32 → uS → Option (uS × Bool)} {K33 : Int32 → Int32 → Int32 → Int32 → uS → Option (uS × Bool)}  (hK2 : ∀ (x1 : Int32) (x2 : Int32)  (s : uS) (r : (uS × Bool)), K2 x1 x2 s = some r → agf [] [1081, 1082, 1083, 1084, 1085, 1086] [] [] s r.1) (hK33 : ∀ (x1 : Int32) (x2 : Int32) (x3 : Int32) (x4 : Int32)  (s : uS) (r : (uS × Bool)), K33 x1 x2 x3 x4 s = some r → agf [] [1081, 1082, 1083, 1084, 1085, 1086] [] [] s r.1) {x1 : Int32} {x2 : Int32} {x3 : Int32} {x4 : Int32} {s : uS} {r : (uS × Bool)}  (h : fb_X12_listScripts_33  K2 K33 x1 x2 x3 x4 s = some r) : agf [] [1081, 1082, 1083, 1084, 1085, 1086] [] [] s r.1 := by
  unfold fb_X12_listScripts_33 at h
  obtain ⟨v1, e2, h⟩ := uu_ob h
  by_cases c3 : v1 ≤ x4
  · replace h := uu_pos c3 h
    obtain ⟨v4, e5, h⟩ := uu_ob h
    by_cases c6 : v4 = x3
    · replace h := uu_pos c6 h
      exact zb_X12_listScripts_113 hK2 h
    · replace h := uu_neg c6 h
      exact zb_X12_listScripts_113 hK2 h
  · replace h := uu_neg c3 h
    obtain ⟨v9, e10, h⟩ := uu_ob h
    by_cases c11 : v9 = 34
    · replace h := uu_pos c11 h
      exact zb_X12_listScripts_72 hK2 hK33 h
    · replace h := uu_neg c11 h
      by_cases c12 : v9 = 92
      · replace h := uu_pos c12 h
        exact zb_X12_listScripts_72 hK2 hK33 h
      · replace h := uu_neg c12 h
        exact zb_X12_listScripts_79 hK2 hK33 h
set_option maxRecDepth 100000 in
set_option maxHeartbeats 4000000 in
theorem zn_X12_listScripts_33  {K2 : Int32 → Int32 → uS → Option (uS × Bool)}  (hK2 : ∀ (x1 : Int32) (x2 : Int32)  (s : uS) (r : (uS × Bool)), K2 x1 x2 s = some r → agf [] [1081, 1082, 1083, 1084, 1085, 1086] [] [] s r.1) : ∀ (n : Nat) (x1 : Int32) (x2 : Int32) (x3 : Int32) (x4 : Int32)  (s : uS) (r : (uS × Bool)), fn_X12_listScripts_33  K2 n x1 x2 x3 x4 s = some r → agf [] [1081, 1082, 1083, 1084, 1085, 1086] [] [] s r.1 := by
  intro n
  induction n with
  | zero => intro x1 x2 x3 x4  s r h
            cases h
  | succ n ih => intro x1 x2 x3 x4  s r h
                 exact zb_X12_listScripts_33  hK2 ih  h
set_option maxRecDepth 100000 in
set_option maxHeartbeats 4000000 in
theorem zb_X12_listScripts_2  {K2 : Int32 → Int32 → uS → Option (uS × Bool)}  (hK2 : ∀ (x1 : Int32) (x2 : Int32)  (s : uS) (r : (uS × Bool)), K2 x1 x2 s = some r → agf [] [1081, 1082, 1083, 1084, 1085, 1086] [] [] s r.1) {x1 : Int32} {x2 : Int32} {s : uS} {r : (uS × Bool)}  (h : fb_X12_listScripts_2  K2 x1 x2 s = some r) : agf [] [1081, 1082, 1083, 1084, 1085, 1086] [] [] s r.1 := by
  unfold fb_X12_listScripts_2 at h
  obtain ⟨v1, e2, h⟩ := uu_ob h
  by_cases c3 : v1 ≤ x2
  · replace h := uu_pos c3 h
    obtain ⟨s5, e6, h⟩ := uu_ob h
    refine ((zc_X12_line  e6).mo (by decide) (by decide) (by decide) (fun _ h => nomatch h)).tr ?_
    have hr := Option.some.inj h
    subst hr
    exact agf.rf
  · replace h := uu_neg c3 h
    obtain ⟨v7, e8, h⟩ := uu_ob h
    obtain ⟨s9, e10, h⟩ := uu_ob h
    refine ((zc_X12_say  e10).mo (by decide) (by decide) (by decide) (fun _ h => nomatch h)).tr ?_
    exact zn_X12_listScripts_33 hK2 _ _ _ _ _ _ _ h
set_option maxRecDepth 100000 in
set_option maxHeartbeats 4000000 in
theorem zn_X12_listScripts_2     : ∀ (n : Nat) (x1 : Int32) (x2 : Int32)  (s : uS) (r : (uS × Bool)), fn_X12_listScripts_2   n x1 x2 s = some r → agf [] [1081, 1082, 1083, 1084, 1085, 1086] [] [] s r.1 := by
  intro n
  induction n with
  | zero => intro x1 x2  s r h
            cases h
  | succ n ih => intro x1 x2  s r h
                 exact zb_X12_listScripts_2  ih  h
set_option maxRecDepth 100000 in
set_option maxHeartbeats 4000000 in
theorem zc_X12_listScripts   {x1 : Int32} {s : uS} {r : (uS × Bool)}  (h : fn_X12_listScripts  x1 s = some r) : agf [] [1081, 1082, 1083, 1084, 1085, 1086] [] [] s r.1 := by
  unfold fn_X12_listScripts at h
  exact zn_X12_listScripts_2  _ _ _ _ _ h
set_option maxRecDepth 100000 in
set_option maxHeartbeats 4000000 in
theorem zb_X12_deleteScript_59     {ws0 : List Nat} {xs1 : Int32} {s : uS} {r : (uS × Bool)}  (h : fb_X12_deleteScript_59   ws0 xs1 s = some r) : agf [(1079, 0), (1079, 2), (1079, 3), (1079, 113)] [1081, 1082, 1083, 1084, 1085, 1086, 1149, 1151, 1156, 1157, 1160, 1166] [] [] s r.1 := by
  unfold fb_X12_deleteScript_59 at h
  obtain ⟨s1, e2, h⟩ := uu_ob h
  refine ((zc_X12_no  e2).mo (by decide) (by decide) (by decide) (fun _ h => nomatch h)).tr ?_
  have hr := Option.some.inj h
  subst hr
  exact agf.rf
set_option maxRecDepth 100000 in
set_option maxHeartbeats 4000000 in
theorem zb_X12_deleteScript_44     {x1 : Int32} {b3 : Bool} {s : uS} {r : (uS × Bool)}  (h : fb_X12_deleteScript_44   x1 b3 s = some r) : agf [(1079, 0), (1079, 2), (1079, 3), (1079, 113)] [1081, 1082, 1083, 1084, 1085, 1086, 1149, 1151, 1156, 1157, 1160, 1166] [] [] s r.1 := by
  unfold fb_X12_deleteScript_44 at h
  by_cases c1 : b3 = true
  · replace h := uu_pos c1 h
    exact zb_X12_deleteScript_59  h
  · replace h := uu_neg c1 h
    exact zb_X12_deleteScript_59  h
set_option maxRecDepth 100000 in
set_option maxHeartbeats 4000000 in
theorem zb_X12_deleteScript_90  {K90 : Int32 → Int32 → uS → Option (uS × Bool)}  (hK90 : ∀ (x1 : Int32) (x4 : Int32)  (s : uS) (r : (uS × Bool)), K90 x1 x4 s = some r → agf [(1079, 0), (1079, 2), (1079, 3), (1079, 113)] [1081, 1082, 1083, 1084, 1085, 1086, 1149, 1151, 1156, 1157, 1160, 1166] [] [] s r.1) {x1 : Int32} {x4 : Int32} {s : uS} {r : (uS × Bool)}  (h : fb_X12_deleteScript_90  K90 x1 x4 s = some r) : agf [(1079, 0), (1079, 2), (1079, 3), (1079, 113)] [1081, 1082, 1083, 1084, 1085, 1086, 1149, 1151, 1156, 1157, 1160, 1166] [] [] s r.1 := by
  unfold fb_X12_deleteScript_90 at h
  obtain ⟨v1, e2, h⟩ := uu_ob h
  by_cases c3 : v1 ≤ x4
  · replace h := uu_pos c3 h
    obtain ⟨s5, e6, h⟩ := uu_ob h
    refine ((zc_X12_line  e6).mo (by decide) (by decide) (by decide) (fun _ h => nomatch h)).tr ?_
    have hr := Option.some.inj h
    subst hr
    exact agf.rf
  · replace h := uu_neg c3 h
    obtain ⟨v7, e8, h⟩ := uu_ob h
    obtain ⟨s9, e10, h⟩ := uu_ob h
    refine (agf_iput e10 (Or.inl (by decide))).tr ?_
    exact hK90 x1 (x4 + 1) _ _ h
set_option maxRecDepth 100000 in
set_option maxHeartbeats 4000000 in
theorem zn_X12_deleteScript_90     : ∀ (n : Nat) (x1 : Int32) (x4 : Int32)  (s : uS) (r : (uS × Bool)), fn_X12_deleteScript_90   n x1 x4 s = some r → agf [(1079, 0), (1079, 2), (1079, 3), (1079, 113)] [1081, 1082, 1083, 1084, 1085, 1086, 1149, 1151, 1156, 1157, 1160, 1166] [] [] s r.1 := by
  intro n
  induction n with
  | zero => intro x1 x4  s r h
            cases h
  | succ n ih => intro x1 x4  s r h
                 exact zb_X12_deleteScript_90  ih  h
set_option maxRecDepth 100000 in
set_option maxHeartbeats 4000000 in
theorem zb_X12_deleteScript_35     {x1 : Int32} {x2 : Int32} {bs0 : Bool} {s : uS} {r : (uS × Bool)}  (h : fb_X12_deleteScript_35   x1 x2 bs0 s = some r) : agf [(1079, 0), (1079, 2), (1079, 3), (1079, 113)] [1081, 1082, 1083, 1084, 1085, 1086, 1149, 1151, 1156, 1157, 1160, 1166] [] [] s r.1 := by
  unfold fb_X12_deleteScript_35 at h
  by_cases c1 : x2 < 0
  · replace h := uu_pos c1 h
    exact zb_X12_deleteScript_44  h
  · replace h := uu_neg c1 h
    by_cases c2 : bs0 = true
    · replace h := uu_pos c2 h
      exact zb_X12_deleteScript_44  h
    · replace h := uu_neg c2 h
      obtain ⟨r3, e4, h⟩ := uu_ob h
      refine ((zc_X12_commit  e4).mo (by decide) (by decide) (by decide) (fun _ h => nomatch h)).tr ?_
      by_cases c5 : r3.2 = true
      · replace h := uu_pos c5 h
        obtain ⟨v6, e7, h⟩ := uu_ob h
        obtain ⟨s8, e9, h⟩ := uu_ob h
        refine (agf_iput e9 (Or.inl (by decide))).tr ?_
        exact zn_X12_deleteScript_90  _ _ _ _ _ h
      · replace h := uu_neg c5 h
        have hr := Option.some.inj h
        subst hr
        exact agf.rf
set_option maxRecDepth 100000 in
set_option maxHeartbeats 4000000 in
theorem zc_X12_deleteScript   {x1 : Int32} {s : uS} {r : (uS × Bool)}  (h : fn_X12_deleteScript  x1 s = some r) : agf [(1079, 0), (1079, 2), (1079, 3), (1079, 113)] [1081, 1082, 1083, 1084, 1085, 1086, 1149, 1151, 1156, 1157, 1160, 1166] [] [] s r.1 := by
  unfold fn_X12_deleteScript at h
  obtain ⟨v1, e2, h⟩ := uu_ob h
  by_cases c3 : v1 < 0
  · replace h := uu_pos c3 h
    exact zb_X12_deleteScript_35  h
  · replace h := uu_neg c3 h
    obtain ⟨v4, e5, h⟩ := uu_ob h
    obtain ⟨v6, e7, h⟩ := uu_ob h
    by_cases c8 : v4 = v6
    · replace h := uu_pos c8 h
      exact zb_X12_deleteScript_35  h
    · replace h := uu_neg c8 h
      exact zb_X12_deleteScript_35  h
set_option maxRecDepth 100000 in
set_option maxHeartbeats 4000000 in
theorem zb_X12_renameScript_37     {ws0 : List Nat} {xs1 : Int32} {s : uS} {r : (uS × Bool)}  (h : fb_X12_renameScript_37   ws0 xs1 s = some r) : agf [(1079, 0), (1079, 2), (1079, 3), (1079, 113)] [1081, 1082, 1083, 1084, 1085, 1086, 1152, 1153, 1156, 1157, 1160, 1166] [] [] s r.1 := by
  unfold fb_X12_renameScript_37 at h
  obtain ⟨s1, e2, h⟩ := uu_ob h
  refine ((zc_X12_no  e2).mo (by decide) (by decide) (by decide) (fun _ h => nomatch h)).tr ?_
  have hr := Option.some.inj h
  subst hr
  exact agf.rf
set_option maxRecDepth 100000 in
set_option maxHeartbeats 4000000 in
theorem zb_X12_renameScript_22     {x1 : Int32} {x2 : Int32} {s : uS} {r : (uS × Bool)}  (h : fb_X12_renameScript_22   x1 x2 s = some r) : agf [(1079, 0), (1079, 2), (1079, 3), (1079, 113)] [1081, 1082, 1083, 1084, 1085, 1086, 1152, 1153, 1156, 1157, 1160, 1166] [] [] s r.1 := by
  unfold fb_X12_renameScript_22 at h
  by_cases c1 : 0 ≤ x2
  · replace h := uu_pos c1 h
    exact zb_X12_renameScript_37  h
  · replace h := uu_neg c1 h
    exact zb_X12_renameScript_37  h
set_option maxRecDepth 100000 in
set_option maxHeartbeats 4000000 in
theorem zc_X12_renameScript   {x1 : Int32} {s : uS} {r : (uS × Bool)}  (h : fn_X12_renameScript  x1 s = some r) : agf [(1079, 0), (1079, 2), (1079, 3), (1079, 113)] [1081, 1082, 1083, 1084, 1085, 1086, 1152, 1153, 1156, 1157, 1160, 1166] [] [] s r.1 := by
  unfold fn_X12_renameScript at h
  obtain ⟨v1, e2, h⟩ := uu_ob h
  obtain ⟨v3, e4, h⟩ := uu_ob h
  by_cases c5 : v1 < 0
  · replace h := uu_pos c5 h
    exact zb_X12_renameScript_22  h
  · replace h := uu_neg c5 h
    by_cases c6 : v3 < 0
    · replace h := uu_pos c6 h
      obtain ⟨r7, e8, h⟩ := uu_ob h
      refine ((zc_X12_commit  e8).mo (by decide) (by decide) (by decide) (fun _ h => nomatch h)).tr ?_
      by_cases c9 : r7.2 = true
      · replace h := uu_pos c9 h
        obtain ⟨v10, e11, h⟩ := uu_ob h
        obtain ⟨s12, e13, h⟩ := uu_ob h
        refine ((zc_X12_nameScript  e13).mo (by decide) (by decide) (by decide) (fun _ h => nomatch h)).tr ?_
        obtain ⟨s15, e16, h⟩ := uu_ob h
        refine ((zc_X12_line  e16).mo (by decide) (by decide) (by decide) (fun _ h => nomatch h)).tr ?_
        have hr := Option.some.inj h
        subst hr
        exact agf.rf
      · replace h := uu_neg c9 h
        have hr := Option.some.inj h
        subst hr
        exact agf.rf
    · replace h := uu_neg c6 h
      exact zb_X12_renameScript_22  h
set_option maxRecDepth 100000 in
set_option maxHeartbeats 4000000 in
theorem zc_X12_tick    {s : uS} {r : (uS × Int32)}  (h : fn_X12_tick   s = some r) : agf [(1079, 0), (1079, 1), (1079, 2), (1079, 3), (1079, 113)] [1156, 1157, 1160, 1166] [] [] s r.1 := by
  unfold fn_X12_tick at h
  by_cases c1 : (s.I 1079 0) = 0
  · replace h := uu_pos c1 h
    have hr := Option.some.inj h
    subst hr
    exact agf.rf
  · replace h := uu_neg c1 h
    obtain ⟨r2, e3, h⟩ := uu_ob h
    refine ((zc_X12_commit  e3).mo (by decide) (by decide) (by decide) (fun _ h => nomatch h)).tr ?_
    by_cases c4 : r2.2 = true
    · replace h := uu_pos c4 h
      refine (agf_wI (a := 1079) (f := 1) (v := (r2.1.I 1079 1) + 1) (Or.inl (by decide))).tr ?_
      have hr := Option.some.inj h
      subst hr
      exact agf.rf
    · replace h := uu_neg c4 h
      have hr := Option.some.inj h
      subst hr
      exact agf.rf
set_option maxRecDepth 100000 in
set_option maxHeartbeats 4000000 in
theorem zc_X12_cut   {x1 : Int32} {s : uS} {r : (uS × Bool)}  (h : fn_X12_cut  x1 s = some r) : agf [(1079, 3)] [] [] [] s r.1 := by
  unfold fn_X12_cut at h
  by_cases c1 : x1 < 0
  · replace h := uu_pos c1 h
    have hr := Option.some.inj h
    subst hr
    exact agf.rf
  · replace h := uu_neg c1 h
    by_cases c2 : x1 ≤ 1000
    · replace h := uu_pos c2 h
      refine (agf_wI (a := 1079) (f := 3) (v := x1) (Or.inl (by decide))).tr ?_
      have hr := Option.some.inj h
      subst hr
      exact agf.rf
    · replace h := uu_neg c2 h
      have hr := Option.some.inj h
      subst hr
      exact agf.rf
set_option maxRecDepth 100000 in
set_option maxHeartbeats 4000000 in
theorem zc_X12_start    {s : uS} {r : (uS × Int32)}  (h : fn_X12_start   s = some r) : agf [(1079, 0)] [] [] [] s r.1 := by
  unfold fn_X12_start at h
  by_cases c1 : (s.I 1079 0) = 0
  · replace h := uu_pos c1 h
    refine (agf_wI (a := 1079) (f := 0) (v := 1) (Or.inl (by decide))).tr ?_
    have hr := Option.some.inj h
    subst hr
    exact agf.rf
  · replace h := uu_neg c1 h
    have hr := Option.some.inj h
    subst hr
    exact agf.rf
set_option maxRecDepth 100000 in
set_option maxHeartbeats 4000000 in
theorem zb_J7_fill_53178_5  {K5 : Nat → Int32 → Int32 → Int32 → uS → Option uS}  (hK5 : ∀ (k0 : Nat) (x1 : Int32) (x2 : Int32) (x3 : Int32)  (s : uS) (r : uS), K5 k0 x1 x2 x3 s = some r → agf [] [] [] [k0] s r) {k0 : Nat} {x1 : Int32} {x2 : Int32} {x3 : Int32} {s : uS} {r : uS}  (h : fb_J7_fill_53178_5  K5 k0 x1 x2 x3 s = some r) : agf [] [] [] [k0] s r := by
  unfold fb_J7_fill_53178_5 at h
  by_cases c1 : x3 ≤ x2
  · replace h := uu_pos c1 h
    have hr := Option.some.inj h
    subst hr
    exact agf.rf
  · replace h := uu_neg c1 h
    obtain ⟨s2, e3, h⟩ := uu_ob h
    refine (agf_iput e3 (Or.inr (Or.inr (List.mem_of_getElem? (i := 0) rfl)))).tr ?_
    exact hK5 k0 x1 (x2 + 1) x3 _ _ h
set_option maxRecDepth 100000 in
set_option maxHeartbeats 4000000 in
theorem zn_J7_fill_53178_5     : ∀ (n : Nat) (k0 : Nat) (x1 : Int32) (x2 : Int32) (x3 : Int32)  (s : uS) (r : uS), fn_J7_fill_53178_5   n k0 x1 x2 x3 s = some r → agf [] [] [] [k0] s r := by
  intro n
  induction n with
  | zero => intro k0 x1 x2 x3  s r h
            cases h
  | succ n ih => intro k0 x1 x2 x3  s r h
                 exact zb_J7_fill_53178_5  ih  h
set_option maxRecDepth 100000 in
set_option maxHeartbeats 4000000 in
theorem zc_J7_fill_53178   {k0 : Nat} {x1 : Int32} {s : uS} {r : uS}  (h : fn_J7_fill_53178  k0 x1 s = some r) : agf [] [] [] [k0] s r := by
  unfold fn_J7_fill_53178 at h
  obtain ⟨v1, e2, h⟩ := uu_ob h
  exact zn_J7_fill_53178_5  _ _ _ _ _ _ _ h
set_option maxRecDepth 100000 in
set_option maxHeartbeats 4000000 in
theorem zc_J7_checkLength_df160   {x0 : Int32} {x1 : Int32} {s : uS} {r : uS}  (h : fn_J7_checkLength_df160  x0 x1 s = some r) : agf [] [] [] [] s r := by
  unfold fn_J7_checkLength_df160 at h
  by_cases c1 : x0 ≤ x1
  · replace h := uu_pos c1 h
    have hr := Option.some.inj h
    subst hr
    exact agf.rf
  · replace h := uu_neg c1 h
    cases h
set_option maxRecDepth 100000 in
set_option maxHeartbeats 4000000 in
theorem zc_X1_init   {k0 : Nat} {k1 : Nat} {k2 : Nat} {s : uS} {r : uS}  (h : fn_X1_init  k0 k1 k2 s = some r) : agf [] [] [12] [] s r := by
  unfold fn_X1_init at h
  obtain ⟨g1, h⟩ := uu_grd h
  refine (agf_wI (a := k0) (f := 2) (v := -1) (Or.inr (Or.inl (by rw [rg_e g1]; decide)))).tr ?_
  obtain ⟨g2, h⟩ := uu_grd h
  refine (agf_wR (a := k0) (f := 0) (v := some k1) (Or.inr (Or.inl (by rw [rg_e g2]; decide)))).tr ?_
  obtain ⟨g3, h⟩ := uu_grd h
  refine (agf_wR (a := k0) (f := 1) (v := (some k2)) (Or.inr (Or.inl (by rw [rg_e g3]; decide)))).tr ?_
  have hr := Option.some.inj h
  subst hr
  exact agf.rf
set_option maxRecDepth 100000 in
set_option maxHeartbeats 4000000 in
theorem zc_X9_putRange   {k0 : Nat} {k1 : Nat} {x2 : Int32} {x3 : Int32} {s : uS} {r : uS} (hk0 : uSo k0 9) (h : fn_X9_putRange  k0 k1 x2 x3 s = some r) : agf [] [] [] [k0 + 1, k0] s r := by
  unfold fn_X9_putRange at h
  obtain ⟨v1, e2, h⟩ := uu_ob h
  obtain ⟨v3, e4, h⟩ := uu_ob h
  by_cases c5 : x2 < 0
  · replace h := uu_pos c5 h
    have hr := Option.some.inj h
    subst hr
    exact agf.rf
  · replace h := uu_neg c5 h
    by_cases c6 : (if (v3 - (s.I k0 5)) < ((if v1 < x3 then v1 else x3) - x2) then (v3 - (s.I k0 5)) else ((if v1 < x3 then v1 else x3) - x2)) ≤ 0
    · replace h := uu_pos c6 h
      have hr := Option.some.inj h
      subst hr
      exact agf.rf
    · replace h := uu_neg c6 h
      obtain ⟨s7, e8, h⟩ := uu_ob h
      refine (agf_acpy e8 (Or.inr (Or.inr (List.mem_of_getElem? (i := 0) rfl)))).tr ?_
      refine (agf_wI (a := k0) (f := 5) (v := (s7.I k0 5) + (if (v3 - (s.I k0 5)) < ((if v1 < x3 then v1 else x3) - x2) then (v3 - (s.I k0 5)) else ((if v1 < x3 then v1 else x3) - x2))) (Or.inr (Or.inr (List.mem_of_getElem? (i := 1) rfl)))).tr ?_
      have hr := Option.some.inj h
      subst hr
      exact agf.rf
set_option maxRecDepth 100000 in
set_option maxHeartbeats 4000000 in
theorem zc_X0_answerRcpt   {x1 : Int32} {s : uS} {r : uS}  (h : fn_X0_answerRcpt  x1 s = some r) : agf [] [] [] [1040, 1041, 1047, 1048, 1050, 1049] s r := by
  unfold fn_X0_answerRcpt at h
  obtain ⟨v2, e3, h⟩ := uu_ob h
  obtain ⟨v4, e5, h⟩ := uu_ob h
  by_cases c6 : v4 = x1
  · replace h := uu_pos c6 h
    by_cases c7 : (s.I 1043 3) = 0
    · replace h := uu_pos c7 h
      obtain ⟨s9, e10, h⟩ := uu_ob h
      refine ((zc_X5_line so_1040 e10).mo (by decide) (by decide) (by decide) (List.forall_mem_cons.mpr ⟨(Or.inr (List.mem_of_getElem? (i := 1) rfl)), List.forall_mem_cons.mpr ⟨(Or.inr (List.mem_of_getElem? (i := 0) rfl)), fun _ h => nomatch h⟩⟩)).tr ?_
      have hr := Option.some.inj h
      subst hr
      exact agf.rf
    · replace h := uu_neg c7 h
      obtain ⟨v12, e13, h⟩ := uu_ob h
      by_cases c14 : 0 ≤ v12
      · replace h := uu_pos c14 h
        by_cases c15 : (s.I 1047 3) = 4
        · replace h := uu_pos c15 h
          obtain ⟨s17, e18, h⟩ := uu_ob h
          refine ((zc_X5_line so_1040 e18).mo (by decide) (by decide) (by decide) (List.forall_mem_cons.mpr ⟨(Or.inr (List.mem_of_getElem? (i := 1) rfl)), List.forall_mem_cons.mpr ⟨(Or.inr (List.mem_of_getElem? (i := 0) rfl)), fun _ h => nomatch h⟩⟩)).tr ?_
          have hr := Option.some.inj h
          subst hr
          exact agf.rf
        · replace h := uu_neg c15 h
          obtain ⟨s19, e20, h⟩ := uu_ob h
          refine ((zc_X9_putRange so_1047 e20).mo (by decide) (by decide) (by decide) (List.forall_mem_cons.mpr ⟨(Or.inr (List.mem_of_getElem? (i := 3) rfl)), List.forall_mem_cons.mpr ⟨(Or.inr (List.mem_of_getElem? (i := 2) rfl)), fun _ h => nomatch h⟩⟩)).tr ?_
          obtain ⟨s21, e22, h⟩ := uu_ob h
          refine ((zc_X9_close so_1047 e22).mo (by decide) (by decide) (by decide) (List.forall_mem_cons.mpr ⟨(Or.inr (List.mem_of_getElem? (i := 2) rfl)), List.forall_mem_cons.mpr ⟨(Or.inr (List.mem_of_getElem? (i := 5) rfl)), List.forall_mem_cons.mpr ⟨(Or.inr (List.mem_of_getElem? (i := 4) rfl)), fun _ h => nomatch h⟩⟩⟩)).tr ?_
          obtain ⟨s24, e25, h⟩ := uu_ob h
          refine ((zc_X5_line so_1040 e25).mo (by decide) (by decide) (by decide) (List.forall_mem_cons.mpr ⟨(Or.inr (List.mem_of_getElem? (i := 1) rfl)), List.forall_mem_cons.mpr ⟨(Or.inr (List.mem_of_getElem? (i := 0) rfl)), fun _ h => nomatch h⟩⟩)).tr ?_
          have hr := Option.some.inj h
          subst hr
          exact agf.rf
      · replace h := uu_neg c14 h
        obtain ⟨s27, e28, h⟩ := uu_ob h
        refine ((zc_X5_line so_1040 e28).mo (by decide) (by decide) (by decide) (List.forall_mem_cons.mpr ⟨(Or.inr (List.mem_of_getElem? (i := 1) rfl)), List.forall_mem_cons.mpr ⟨(Or.inr (List.mem_of_getElem? (i := 0) rfl)), fun _ h => nomatch h⟩⟩)).tr ?_
        have hr := Option.some.inj h
        subst hr
        exact agf.rf
  · replace h := uu_neg c6 h
    obtain ⟨s30, e31, h⟩ := uu_ob h
    refine ((zc_X5_line so_1040 e31).mo (by decide) (by decide) (by decide) (List.forall_mem_cons.mpr ⟨(Or.inr (List.mem_of_getElem? (i := 1) rfl)), List.forall_mem_cons.mpr ⟨(Or.inr (List.mem_of_getElem? (i := 0) rfl)), fun _ h => nomatch h⟩⟩)).tr ?_
    have hr := Option.some.inj h
    subst hr
    exact agf.rf
set_option maxRecDepth 100000 in
set_option maxHeartbeats 4000000 in
theorem zb_X0_answerMail_29      {s : uS} {r : uS}  (h : fb_X0_answerMail_29    s = some r) : agf [(1042, 11)] [] [] [1040, 1041, 1043, 1044, 1046, 1045] s r := by
  unfold fb_X0_answerMail_29 at h
  obtain ⟨s2, e3, h⟩ := uu_ob h
  refine ((zc_X5_line so_1040 e3).mo (by decide) (by decide) (by decide) (List.forall_mem_cons.mpr ⟨(Or.inr (List.mem_of_getElem? (i := 1) rfl)), List.forall_mem_cons.mpr ⟨(Or.inr (List.mem_of_getElem? (i := 0) rfl)), fun _ h => nomatch h⟩⟩)).tr ?_
  have hr := Option.some.inj h
  subst hr
  exact agf.rf
set_option maxRecDepth 100000 in
set_option maxHeartbeats 4000000 in
theorem zc_X0_answerMail   {x1 : Int32} {s : uS} {r : uS}  (h : fn_X0_answerMail  x1 s = some r) : agf [(1042, 11)] [] [] [1040, 1041, 1043, 1044, 1046, 1045] s r := by
  unfold fn_X0_answerMail at h
  obtain ⟨v2, e3, h⟩ := uu_ob h
  obtain ⟨v4, e5, h⟩ := uu_ob h
  by_cases c6 : v4 < 0
  · replace h := uu_pos c6 h
    exact zb_X0_answerMail_29  h
  · replace h := uu_neg c6 h
    obtain ⟨r7, e8, h⟩ := uu_ob h
    refine ((zc_X0_areOptions  e8).mo (by decide) (by decide) (by decide) (fun _ h => nomatch h)).tr ?_
    by_cases c9 : r7.2 = true
    · replace h := uu_pos c9 h
      by_cases c10 : (r7.1.I 1043 3) ≤ 0
      · replace h := uu_pos c10 h
        by_cases c11 : (r7.1.I 1042 11) = 0
        · replace h := uu_pos c11 h
          obtain ⟨s12, e13, h⟩ := uu_ob h
          refine ((zc_X9_putRange so_1043 e13).mo (by decide) (by decide) (by decide) (List.forall_mem_cons.mpr ⟨(Or.inr (List.mem_of_getElem? (i := 3) rfl)), List.forall_mem_cons.mpr ⟨(Or.inr (List.mem_of_getElem? (i := 2) rfl)), fun _ h => nomatch h⟩⟩)).tr ?_
          obtain ⟨s14, e15, h⟩ := uu_ob h
          refine ((zc_X9_close so_1043 e15).mo (by decide) (by decide) (by decide) (List.forall_mem_cons.mpr ⟨(Or.inr (List.mem_of_getElem? (i := 2) rfl)), List.forall_mem_cons.mpr ⟨(Or.inr (List.mem_of_getElem? (i := 5) rfl)), List.forall_mem_cons.mpr ⟨(Or.inr (List.mem_of_getElem? (i := 4) rfl)), fun _ h => nomatch h⟩⟩⟩)).tr ?_
          obtain ⟨s17, e18, h⟩ := uu_ob h
          refine ((zc_X5_line so_1040 e18).mo (by decide) (by decide) (by decide) (List.forall_mem_cons.mpr ⟨(Or.inr (List.mem_of_getElem? (i := 1) rfl)), List.forall_mem_cons.mpr ⟨(Or.inr (List.mem_of_getElem? (i := 0) rfl)), fun _ h => nomatch h⟩⟩)).tr ?_
          have hr := Option.some.inj h
          subst hr
          exact agf.rf
        · replace h := uu_neg c11 h
          obtain ⟨s20, e21, h⟩ := uu_ob h
          refine ((zc_X5_line so_1040 e21).mo (by decide) (by decide) (by decide) (List.forall_mem_cons.mpr ⟨(Or.inr (List.mem_of_getElem? (i := 1) rfl)), List.forall_mem_cons.mpr ⟨(Or.inr (List.mem_of_getElem? (i := 0) rfl)), fun _ h => nomatch h⟩⟩)).tr ?_
          have hr := Option.some.inj h
          subst hr
          exact agf.rf
      · replace h := uu_neg c10 h
        obtain ⟨s23, e24, h⟩ := uu_ob h
        refine ((zc_X5_line so_1040 e24).mo (by decide) (by decide) (by decide) (List.forall_mem_cons.mpr ⟨(Or.inr (List.mem_of_getElem? (i := 1) rfl)), List.forall_mem_cons.mpr ⟨(Or.inr (List.mem_of_getElem? (i := 0) rfl)), fun _ h => nomatch h⟩⟩)).tr ?_
        have hr := Option.some.inj h
        subst hr
        exact agf.rf
    · replace h := uu_neg c9 h
      exact zb_X0_answerMail_29  h
set_option maxRecDepth 100000 in
set_option maxHeartbeats 4000000 in
theorem zc_X0_answerLhlo   {x1 : Int32} {s : uS} {r : uS}  (h : fn_X0_answerLhlo  x1 s = some r) : agf [(1042, 10)] [] [] [1047, 1043, 1040, 1041] s r := by
  unfold fn_X0_answerLhlo at h
  obtain ⟨v1, e2, h⟩ := uu_ob h
  by_cases c3 : v1 = true
  · replace h := uu_pos c3 h
    refine (agf_wI (a := 1042) (f := 10) (v := 1) (Or.inl (by decide))).tr ?_
    obtain ⟨s4, e5, h⟩ := uu_ob h
    refine ((zc_X0_forget  e5).mo (by decide) (by decide) (by decide) (List.forall_mem_cons.mpr ⟨(Or.inr (List.mem_of_getElem? (i := 1) rfl)), List.forall_mem_cons.mpr ⟨(Or.inr (List.mem_of_getElem? (i := 0) rfl)), fun _ h => nomatch h⟩⟩)).tr ?_
    obtain ⟨s7, e8, h⟩ := uu_ob h
    refine ((zc_X5_line so_1040 e8).mo (by decide) (by decide) (by decide) (List.forall_mem_cons.mpr ⟨(Or.inr (List.mem_of_getElem? (i := 3) rfl)), List.forall_mem_cons.mpr ⟨(Or.inr (List.mem_of_getElem? (i := 2) rfl)), fun _ h => nomatch h⟩⟩)).tr ?_
    obtain ⟨s10, e11, h⟩ := uu_ob h
    refine ((zc_X5_line so_1040 e11).mo (by decide) (by decide) (by decide) (List.forall_mem_cons.mpr ⟨(Or.inr (List.mem_of_getElem? (i := 3) rfl)), List.forall_mem_cons.mpr ⟨(Or.inr (List.mem_of_getElem? (i := 2) rfl)), fun _ h => nomatch h⟩⟩)).tr ?_
    obtain ⟨s13, e14, h⟩ := uu_ob h
    refine ((zc_X5_line so_1040 e14).mo (by decide) (by decide) (by decide) (List.forall_mem_cons.mpr ⟨(Or.inr (List.mem_of_getElem? (i := 3) rfl)), List.forall_mem_cons.mpr ⟨(Or.inr (List.mem_of_getElem? (i := 2) rfl)), fun _ h => nomatch h⟩⟩)).tr ?_
    have hr := Option.some.inj h
    subst hr
    exact agf.rf
  · replace h := uu_neg c3 h
    obtain ⟨s16, e17, h⟩ := uu_ob h
    refine ((zc_X5_line so_1040 e17).mo (by decide) (by decide) (by decide) (List.forall_mem_cons.mpr ⟨(Or.inr (List.mem_of_getElem? (i := 3) rfl)), List.forall_mem_cons.mpr ⟨(Or.inr (List.mem_of_getElem? (i := 2) rfl)), fun _ h => nomatch h⟩⟩)).tr ?_
    have hr := Option.some.inj h
    subst hr
    exact agf.rf
set_option maxRecDepth 100000 in
set_option maxHeartbeats 4000000 in
theorem zb_X0_answerLine_106      {s : uS} {r : uS}  (h : fb_X0_answerLine_106    s = some r) : agf [(1042, 3), (1042, 4), (1042, 7), (1042, 8), (1042, 9), (1042, 10), (1042, 11)] [] [] [1040, 1041, 1043, 1047, 1045, 1046, 1044, 1049, 1050, 1048] s r := by
  unfold fb_X0_answerLine_106 at h
  obtain ⟨s2, e3, h⟩ := uu_ob h
  refine ((zc_X5_line so_1040 e3).mo (by decide) (by decide) (by decide) (List.forall_mem_cons.mpr ⟨(Or.inr (List.mem_of_getElem? (i := 1) rfl)), List.forall_mem_cons.mpr ⟨(Or.inr (List.mem_of_getElem? (i := 0) rfl)), fun _ h => nomatch h⟩⟩)).tr ?_
  have hr := Option.some.inj h
  subst hr
  exact agf.rf
set_option maxRecDepth 100000 in
set_option maxHeartbeats 4000000 in
theorem zb_X0_answerLine_118     {x1 : Int32} {x3 : Int32} {x4 : Int32} {s : uS} {r : uS}  (h : fb_X0_answerLine_118   x1 x3 x4 s = some r) : agf [(1042, 3), (1042, 4), (1042, 7), (1042, 8), (1042, 9), (1042, 10), (1042, 11)] [] [] [1040, 1041, 1043, 1047, 1045, 1046, 1044, 1049, 1050, 1048] s r := by
  unfold fb_X0_answerLine_118 at h
  by_cases c1 : x4 = 0
  · replace h := uu_pos c1 h
    obtain ⟨s2, e3, h⟩ := uu_ob h
    refine ((zc_X0_answerLhlo  e3).mo (by decide) (by decide) (by decide) (List.forall_mem_cons.mpr ⟨(Or.inr (List.mem_of_getElem? (i := 3) rfl)), List.forall_mem_cons.mpr ⟨(Or.inr (List.mem_of_getElem? (i := 2) rfl)), List.forall_mem_cons.mpr ⟨(Or.inr (List.mem_of_getElem? (i := 0) rfl)), List.forall_mem_cons.mpr ⟨(Or.inr (List.mem_of_getElem? (i := 1) rfl)), fun _ h => nomatch h⟩⟩⟩⟩)).tr ?_
    have hr := Option.some.inj h
    subst hr
    exact agf.rf
  · replace h := uu_neg c1 h
    by_cases c4 : x4 = 1
    · replace h := uu_pos c4 h
      obtain ⟨s5, e6, h⟩ := uu_ob h
      refine ((zc_X0_answerMail  e6).mo (by decide) (by decide) (by decide) (List.forall_mem_cons.mpr ⟨(Or.inr (List.mem_of_getElem? (i := 0) rfl)), List.forall_mem_cons.mpr ⟨(Or.inr (List.mem_of_getElem? (i := 1) rfl)), List.forall_mem_cons.mpr ⟨(Or.inr (List.mem_of_getElem? (i := 2) rfl)), List.forall_mem_cons.mpr ⟨(Or.inr (List.mem_of_getElem? (i := 6) rfl)), List.forall_mem_cons.mpr ⟨(Or.inr (List.mem_of_getElem? (i := 5) rfl)), List.forall_mem_cons.mpr ⟨(Or.inr (List.mem_of_getElem? (i := 4) rfl)), fun _ h => nomatch h⟩⟩⟩⟩⟩⟩)).tr ?_
      have hr := Option.some.inj h
      subst hr
      exact agf.rf
    · replace h := uu_neg c4 h
      by_cases c7 : x4 = 2
      · replace h := uu_pos c7 h
        obtain ⟨s8, e9, h⟩ := uu_ob h
        refine ((zc_X0_answerRcpt  e9).mo (by decide) (by decide) (by decide) (List.forall_mem_cons.mpr ⟨(Or.inr (List.mem_of_getElem? (i := 0) rfl)), List.forall_mem_cons.mpr ⟨(Or.inr (List.mem_of_getElem? (i := 1) rfl)), List.forall_mem_cons.mpr ⟨(Or.inr (List.mem_of_getElem? (i := 3) rfl)), List.forall_mem_cons.mpr ⟨(Or.inr (List.mem_of_getElem? (i := 9) rfl)), List.forall_mem_cons.mpr ⟨(Or.inr (List.mem_of_getElem? (i := 8) rfl)), List.forall_mem_cons.mpr ⟨(Or.inr (List.mem_of_getElem? (i := 7) rfl)), fun _ h => nomatch h⟩⟩⟩⟩⟩⟩)).tr ?_
        have hr := Option.some.inj h
        subst hr
        exact agf.rf
      · replace h := uu_neg c7 h
        by_cases c10 : x1 ≤ x3
        · replace h := uu_pos c10 h
          obtain ⟨s11, e12, h⟩ := uu_ob h
          refine ((zc_X0_answerBareWord  e12).mo (by decide) (by decide) (by decide) (List.forall_mem_cons.mpr ⟨(Or.inr (List.mem_of_getElem? (i := 1) rfl)), List.forall_mem_cons.mpr ⟨(Or.inr (List.mem_of_getElem? (i := 0) rfl)), List.forall_mem_cons.mpr ⟨(Or.inr (List.mem_of_getElem? (i := 3) rfl)), List.forall_mem_cons.mpr ⟨(Or.inr (List.mem_of_getElem? (i := 2) rfl)), fun _ h => nomatch h⟩⟩⟩⟩)).tr ?_
          have hr := Option.some.inj h
          subst hr
          exact agf.rf
        · replace h := uu_neg c10 h
          obtain ⟨s14, e15, h⟩ := uu_ob h
          refine ((zc_X5_line so_1040 e15).mo (by decide) (by decide) (by decide) (List.forall_mem_cons.mpr ⟨(Or.inr (List.mem_of_getElem? (i := 1) rfl)), List.forall_mem_cons.mpr ⟨(Or.inr (List.mem_of_getElem? (i := 0) rfl)), fun _ h => nomatch h⟩⟩)).tr ?_
          have hr := Option.some.inj h
          subst hr
          exact agf.rf
set_option maxRecDepth 100000 in
set_option maxHeartbeats 4000000 in
theorem zb_X0_answerLine_50     {x1 : Int32} {xs0 : Int32} {s : uS} {r : uS}  (h : fb_X0_answerLine_50   x1 xs0 s = some r) : agf [(1042, 3), (1042, 4), (1042, 7), (1042, 8), (1042, 9), (1042, 10), (1042, 11)] [] [] [1040, 1041, 1043, 1047, 1045, 1046, 1044, 1049, 1050, 1048] s r := by
  unfold fb_X0_answerLine_50 at h
  obtain ⟨v2, e3, h⟩ := uu_ob h
  by_cases c4 : 0 ≤ v2
  · replace h := uu_pos c4 h
    by_cases c5 : (s.I 1042 10) = 0
    · replace h := uu_pos c5 h
      by_cases c6 : v2 = 1
      · replace h := uu_pos c6 h
        exact zb_X0_answerLine_106  h
      · replace h := uu_neg c6 h
        by_cases c7 : v2 = 2
        · replace h := uu_pos c7 h
          exact zb_X0_answerLine_106  h
        · replace h := uu_neg c7 h
          by_cases c8 : v2 = 3
          · replace h := uu_pos c8 h
            exact zb_X0_answerLine_106  h
          · replace h := uu_neg c8 h
            exact zb_X0_answerLine_118  h
    · replace h := uu_neg c5 h
      exact zb_X0_answerLine_118  h
  · replace h := uu_neg c4 h
    obtain ⟨s10, e11, h⟩ := uu_ob h
    refine ((zc_X5_line so_1040 e11).mo (by decide) (by decide) (by decide) (List.forall_mem_cons.mpr ⟨(Or.inr (List.mem_of_getElem? (i := 1) rfl)), List.forall_mem_cons.mpr ⟨(Or.inr (List.mem_of_getElem? (i := 0) rfl)), fun _ h => nomatch h⟩⟩)).tr ?_
    have hr := Option.some.inj h
    subst hr
    exact agf.rf
set_option maxRecDepth 100000 in
set_option maxHeartbeats 4000000 in
theorem zc_X0_answerLine    {s : uS} {r : uS}  (h : fn_X0_answerLine   s = some r) : agf [(1042, 3), (1042, 4), (1042, 7), (1042, 8), (1042, 9), (1042, 10), (1042, 11)] [] [] [1040, 1041, 1043, 1047, 1045, 1046, 1044, 1049, 1050, 1048] s r := by
  unfold fn_X0_answerLine at h
  refine (agf_wI (a := 1042) (f := 7) (v := 0) (Or.inl (by decide))).tr ?_
  by_cases c1 : ((s.I 1042 7) - 1) ≤ 500
  · replace h := uu_pos c1 h
    obtain ⟨v2, e3, h⟩ := uu_ob h
    by_cases c4 : 0 ≤ v2
    · replace h := uu_pos c4 h
      exact zb_X0_answerLine_50  h
    · replace h := uu_neg c4 h
      exact zb_X0_answerLine_50  h
  · replace h := uu_neg c1 h
    obtain ⟨s6, e7, h⟩ := uu_ob h
    refine ((zc_X5_line so_1040 e7).mo (by decide) (by decide) (by decide) (List.forall_mem_cons.mpr ⟨(Or.inr (List.mem_of_getElem? (i := 1) rfl)), List.forall_mem_cons.mpr ⟨(Or.inr (List.mem_of_getElem? (i := 0) rfl)), fun _ h => nomatch h⟩⟩)).tr ?_
    have hr := Option.some.inj h
    subst hr
    exact agf.rf
