/-! may the message be answered by a machine: the reference -/
theorem r_oneN {t : uS} {fs : List (List Nat × List Nat)} {i : Nat} (h : rFl t fs) (ho : fsO fs) (hi : i < fs.length) : ∃ t1 : uS, fn_X12_oneName (nI i) t = some t1 ∧ r1 t1 (fnm fs i) ∧ out onI onF t t1 := by
  obtain ⟨a, a1, a2, a3, a4⟩ := (h.2 i hi).1
  have b2 := (ho.2 i).1
  have b3 := tot_len fs
  have b4 := ho.1
  generalize fnm fs i = y at *
  unfold fn_X12_oneName
  rw [g_1089 (by omega), Option.bind_some, a3]
  have e : fn_X12_oneName_12 uFu (nI i) 0 (wI t 1079 21 (nI y.length)) = some (cpy (wI t 1079 21 (nI y.length)) 1093 0 0 y.length (fun j => nI (y.getD j 0))) := by
    refine cpy0 (F := fun N x s => fn_X12_oneName_12 N (nI i) x s) (fin := fun s => some s) ?_ ?_ (by show _ < 1000000; omega)
    · intro N q hq
      show fb_X12_oneName_12 (fn_X12_oneName_12 N) (nI i) (nI q) _ = _
      unfold fb_X12_oneName_12
      rw [cpy_I, wI_e, if_neg (nI_ge (by omega) (by omega)), g_1088 (by omega), Option.bind_some, cpy_Fo (by decide), wI_F, a2, nI_add, g_1087 (by omega), Option.bind_some, cpy_Fo (by decide), wI_F, a4 q hq, p_1093 (by omega), Option.bind_some, nI_1 q, Nat.zero_add]
    · intro N
      show fb_X12_oneName_12 (fn_X12_oneName_12 N) (nI i) (nI y.length) _ = _
      unfold fb_X12_oneName_12
      rw [cpy_I, wI_e, if_pos (nI_le (Nat.le_refl _) (by omega))]
  refine ⟨_, e, ⟨by rw [cpy_I, wI_e], by omega, b2, fun j hj => ?_⟩, out_t (out_I out_r ⟨rfl, rfl⟩) (out_cpy (fun _ => rfl))⟩
  have := cpy_Fe (s := wI t 1079 21 (nI y.length)) (K := 1093) (off := 0) (i := 0) (L := y.length) (g := fun i => nI (y.getD i 0)) (Nat.zero_le j) hj
  rw [Nat.zero_add] at this
  exact this
theorem rFl.onw {t t1 : uS} {fs : List (List Nat × List Nat)} (h : rFl t fs) (o : out onwI onwF t t1) : rFl t1 fs := h.o o (by unfold onwI; omega) (fun k f _ _ => by unfold onwF; omega)
theorem r_hasF {fs : List (List Nat × List Nat)} {W : List Nat} (ho : fsO fs) (hW : ∀ c ∈ W, c < 128) (hl : W.length ≤ 1000) : ∀ (d N q : Nat) (b : Bool) (t : uS), q + d = fs.length → d + 1 ≤ N → rFl t fs → ∃ t1 : uS, fn_X12_hasField_4 N W b (nI q) t = some (t1, b || anyB (fun f => eqW (fnm fs f) W) d q) ∧ out onwI onwF t t1 := by
  have hle := tot_len fs
  have ht := ho.1
  intro d
  induction d with
  | zero =>
    intro N q b t hq hN h
    obtain ⟨M, rfl⟩ : ∃ M, N = M + 1 := ⟨N - 1, by omega⟩
    refine ⟨t, ?_, out_r⟩
    show fb_X12_hasField_4 (fn_X12_hasField_4 M) W b (nI q) t = _
    unfold fb_X12_hasField_4
    rw [h.1, if_pos (nI_le (by omega) (by omega))]
    show _ = some (t, b || false)
    rw [Bool.or_false]
  | succ d ih =>
    intro N q b t hq hN h
    obtain ⟨M, rfl⟩ : ∃ M, N = M + 1 := ⟨N - 1, by omega⟩
    obtain ⟨t1, a1, a2, a3⟩ := r_oneN h ho (show q < fs.length by omega)
    obtain ⟨t2, b1, b2, b3⟩ := r_oneIs a2 hW hl
    rw [anyB_s]
    show ∃ t1 : uS, fb_X12_hasField_4 (fn_X12_hasField_4 M) W b (nI q) t = _ ∧ _
    unfold fb_X12_hasField_4
    rw [h.1, if_neg (nI_ge (by omega) (by omega)), a1, Option.bind_some, nI_1]
    cases b with
    | true =>
      rw [if_pos rfl]
      obtain ⟨t3, c1, c2⟩ := ih M (q + 1) true t1 (by omega) (by omega) (h.onw (onw1 a3))
      refine ⟨t3, ?_, out_t (onw1 a3) c2⟩
      rw [c1, Bool.true_or, Bool.true_or]
    | false =>
      rw [if_neg (by decide), b1, Option.bind_some]
      obtain ⟨t3, c1, c2⟩ := ih M (q + 1) (eqW (fnm fs q) W) t2 (by omega) (by omega) ((h.onw (onw1 a3)).onw (onw2 b3))
      refine ⟨t3, ?_, out_t (onw1 a3) (out_t (onw2 b3) c2)⟩
      rw [Bool.false_or, ← c1]
      dsimp only
      cases eqW (fnm fs q) W with
      | true => rw [if_pos rfl]
      | false => rw [if_neg (by decide)]
theorem r_hasField {t : uS} {fs : List (List Nat × List Nat)} {W : List Nat} (h : rFl t fs) (ho : fsO fs) (hW : ∀ c ∈ W, c < 128) (hl : W.length ≤ 1000) : ∃ t1 : uS, fn_X12_hasField W t = some (t1, fHas fs W) ∧ out onwI onwF t t1 := by
  have hle := tot_len fs
  have ht := ho.1
  obtain ⟨t1, a1, a2⟩ := r_hasF ho hW hl fs.length uFu 0 false t (by omega) (by show _ ≤ 1000000; omega) h
  exact ⟨t1, a1, a2⟩
theorem r_autL {fs : List (List Nat × List Nat)} (ho : fsO fs) : ∀ (d N q : Nat) (b : Bool) (t : uS), q + d = fs.length → d + 1 ≤ N → rFl t fs → ∃ t1 : uS, fn_X12_isAutomatic_4 N b (nI q) t = some (t1, b || anyB (fun f => eqW (fnm fs f) kW_143 && !eqW (fvl fs f) kW_144) d q) ∧ out onwI onwF t t1 := by
  have hle := tot_len fs
  have ht := ho.1
  intro d
  induction d with
  | zero =>
    intro N q b t hq hN h
    obtain ⟨M, rfl⟩ : ∃ M, N = M + 1 := ⟨N - 1, by omega⟩
    refine ⟨t, ?_, out_r⟩
    show fb_X12_isAutomatic_4 (fn_X12_isAutomatic_4 M) b (nI q) t = _
    unfold fb_X12_isAutomatic_4
    rw [h.1, if_pos (nI_le (by omega) (by omega))]
    show _ = some (t, b || false)
    rw [Bool.or_false]
  | succ d ih =>
    intro N q b t hq hN h
    obtain ⟨M, rfl⟩ : ∃ M, N = M + 1 := ⟨N - 1, by omega⟩
    obtain ⟨t1, a1, a2, a3⟩ := r_oneN h ho (show q < fs.length by omega)
    obtain ⟨t2, b1, b2, b3⟩ := r_oneIs (W := kW_143) a2 (by decide) (by decide)
    have h2 := (h.onw (onw1 a3)).onw (onw2 b3)
    have o2 := out_t (onw1 a3) (onw2 b3)
    rw [anyB_s]
    show ∃ t1 : uS, fb_X12_isAutomatic_4 (fn_X12_isAutomatic_4 M) b (nI q) t = _ ∧ _
    unfold fb_X12_isAutomatic_4
    rw [h.1, if_neg (nI_ge (by omega) (by omega)), a1, Option.bind_some, b1, Option.bind_some, nI_1]
    dsimp only
    cases eqW (fnm fs q) kW_143 with
    | false =>
      rw [if_neg (by decide), Bool.false_and, Bool.false_or]
      obtain ⟨t3, c1, c2⟩ := ih M (q + 1) b t2 (by omega) (by omega) h2
      exact ⟨t3, c1, out_t o2 c2⟩
    | true =>
      rw [if_pos rfl, Bool.true_and]
      obtain ⟨t3, d1, d2, d3⟩ := r_oneV h2 ho (show q < fs.length by omega)
      rw [d1, Option.bind_some]
      have h3 := h2.onw (onw1 d3)
      have o3 := out_t o2 (onw1 d3)
      cases b with
      | true =>
        rw [if_pos rfl]
        obtain ⟨t4, c1, c2⟩ := ih M (q + 1) true t3 (by omega) (by omega) h3
        refine ⟨t4, ?_, out_t o3 c2⟩
        rw [c1, Bool.true_or, Bool.true_or]
      | false =>
        obtain ⟨t4, e1, e2, e3⟩ := r_oneIs (W := kW_144) d2 (by decide) (by decide)
        rw [if_neg (by decide), e1, Option.bind_some]
        dsimp only
        obtain ⟨t5, c1, c2⟩ := ih M (q + 1) (!eqW (fvl fs q) kW_144) t4 (by omega) (by omega) (h3.onw (onw2 e3))
        refine ⟨t5, ?_, out_t o3 (out_t (onw2 e3) c2)⟩
        rw [Bool.false_or, ← c1]
        cases eqW (fvl fs q) kW_144 with
        | true => rw [if_pos rfl]; rfl
        | false => rw [if_neg (by decide)]; rfl
theorem r_auto {t : uS} {fs : List (List Nat × List Nat)} (h : rFl t fs) (ho : fsO fs) : ∃ t1 : uS, fn_X12_isAutomatic t = some (t1, autB fs) ∧ out onwI onwF t t1 := by
  have hle := tot_len fs
  have ht := ho.1
  obtain ⟨t1, a1, a2⟩ := r_autL ho fs.length uFu 0 false t (by omega) (by show _ ≤ 1000000; omega) h
  exact ⟨t1, a1, a2⟩
theorem r_bgs {t : uS} {v W : List Nat} {a : Nat} (h : r1 t v) (ha : a ≤ v.length) (hW : lwc W) (hl : W.length ≤ 1000) : fn_X12_beginsLow W (nI a) t = some (bgB v W a) := by
  obtain ⟨h1, h2, h3, h4⟩ := h
  have key : ∀ B : Bool, (B = true → W.length ≤ a) → fn_X12_beginsLow_17 uFu W B 0 t = some (B && decide (∀ j : Nat, j < W.length → (decide (lo (v.getD j 0) = W.getD j 0)) = true)) := by
    intro B hB
    cases B with
    | false =>
      show fb_X12_beginsLow_17 (fn_X12_beginsLow_17 999999) W false (nI 0) t = _
      unfold fb_X12_beginsLow_17
      by_cases c : W.length ≤ 0
      · rw [if_pos (nI_le c (by decide)), Bool.false_and]
      · rw [if_neg (nI_ge (by omega) (by omega)), if_neg (by decide), Bool.false_and]
    | true =>
      have hwa := hB rfl
      refine cmp0 (F := fun n b x => fn_X12_beginsLow_17 n W b x t) (fin := fun b => some b) (L := W.length) (p := fun j => decide (lo (v.getD j 0) = W.getD j 0)) (fun n b i hi => ?_) (by show _ < 1000000; omega) true
      show fb_X12_beginsLow_17 (fn_X12_beginsLow_17 n) W b (nI i) t = _
      unfold fb_X12_beginsLow_17
      by_cases c : W.length ≤ i
      · rw [if_pos (nI_le c (by omega)), if_pos c]
      · rw [if_neg (nI_ge (by omega) (by omega)), if_neg c]
        cases b with
        | false => rw [if_neg (by decide), if_neg (by decide)]
        | true =>
          have hv := h3 i
          have hw := hW.at (show i < W.length by omega)
          rw [if_pos rfl, if_pos rfl, g_1093 (by omega), Option.bind_some, h4 i (by omega), r_lowN (by omega), Option.bind_some, stget_n (by omega) hl, Option.bind_some, nI_1]
          have e := nI_eq (a := lo (v.getD i 0)) (b := W.getD i 0) (by have := lo_lt hv; omega) (by omega)
          by_cases z : lo (v.getD i 0) = W.getD i 0
          · rw [if_pos (e.mpr z), decide_eq_true z]
          · rw [if_neg (fun y => z (e.mp y)), decide_eq_false z]
  unfold fn_X12_beginsLow bgB
  by_cases c : W.length ≤ a
  · rw [if_neg (nI_nlt c (by omega)), key true (fun _ => c), decide_eq_true c]
    simp only [decide_eq_true_eq]
  · rw [if_pos (nI_lt (by omega) (by omega)), key false (fun z => by cases z), decide_eq_false c, Bool.false_and, Bool.false_and]
theorem r_ens {t : uS} {v W : List Nat} {a : Nat} (h : r1 t v) (ha : a ≤ v.length) (hW : lwc W) (hl : W.length ≤ 1000) : fn_X12_endsLow W (nI a) t = some (enB v W a) := by
  obtain ⟨h1, h2, h3, h4⟩ := h
  unfold fn_X12_endsLow enB
  by_cases c : W.length ≤ a
  · rw [nI_sub c, if_neg (nI_pos (by omega)), decide_eq_true c, Bool.true_and]
    have hc := cmp0 (F := fun n b x => fn_X12_endsLow_21 n W (nI (a - W.length)) b x t) (fin := fun b => some b) (L := W.length) (p := fun j => decide (lo (v.getD (a - W.length + j) 0) = W.getD j 0)) (fun n b i hi => ?_) (by show _ < 1000000; omega) true
    · rw [Bool.true_and] at hc
      simp only [decide_eq_true_eq] at hc
      exact hc
    · show fb_X12_endsLow_21 (fn_X12_endsLow_21 n) W (nI (a - W.length)) b (nI i) t = _
      unfold fb_X12_endsLow_21
      by_cases c2 : W.length ≤ i
      · rw [if_pos (nI_le c2 (by omega)), if_pos c2]
      · rw [if_neg (nI_ge (by omega) (by omega)), if_neg c2]
        cases b with
        | false => rw [if_neg (by decide), if_neg (by decide)]
        | true =>
          have hv := h3 (a - W.length + i)
          have hw := hW.at (show i < W.length by omega)
          rw [if_pos rfl, if_pos rfl, nI_add, g_1093 (by omega), Option.bind_some, h4 _ (by omega), r_lowN (by omega), Option.bind_some, stget_n (by omega) hl, Option.bind_some, nI_1]
          have e := nI_eq (a := lo (v.getD (a - W.length + i) 0)) (b := W.getD i 0) (by have := lo_lt hv; omega) (by omega)
          by_cases z : lo (v.getD (a - W.length + i) 0) = W.getD i 0
          · rw [if_pos (e.mpr z), decide_eq_true z]
          · rw [if_neg (fun y => z (e.mp y)), decide_eq_false z]
  · rw [if_pos (nI_dlt (by omega) (by omega) (by omega)), decide_eq_false c, Bool.false_and]
    show fb_X12_endsLow_21 (fn_X12_endsLow_21 999999) W _ false (nI 0) t = _
    unfold fb_X12_endsLow_21
    rw [if_neg (nI_ge (by omega) (by omega)), if_neg (by decide)]
theorem r_nob {t : uS} {snd : List Nat} (h : rTe t 93 1137 snd) (ha : (adr snd).isSome = true) : ∃ t1 : uS, fn_X12_isNobody t = some (t1, nobB snd) ∧ out onwI onwF t t1 := by
  obtain ⟨t1, a1, a2, a3⟩ := r_oneF h
  obtain ⟨at_, hat⟩ := Option.isSome_iff_exists.mp ha
  obtain ⟨k1, k2⟩ := adr_at hat
  obtain ⟨l1, l2, l3, l4, l5⟩ := lwc_k
  have hl := h.2.1
  have hat' : fn_X12_atOf t1 = some (nI at_) := by
    have := r_atOf (w := snd) (t := t1) a2
    rw [hat] at this
    exact this
  refine ⟨t1, ?_, onw1 a3⟩
  have e65 : ∀ B : Bool, fb_X12_isNobody_65 (nI at_) B t1 = some (t1, B || bgB snd kW_148 at_ || enB snd kW_149 at_) := by
    intro B
    unfold fb_X12_isNobody_65
    rw [r_bgs a2 (by omega) l4 (by decide), Option.bind_some, r_ens a2 (by omega) l5 (by decide), Option.bind_some]
    cases B <;> cases bgB snd kW_148 at_ <;> cases enB snd kW_149 at_ <;> rfl
  have e9 : nI at_ = 9 ↔ at_ = 9 := nI_eq (b := 9) (by omega) (by decide)
  have e8 : nI at_ = 8 ↔ at_ = 8 := nI_eq (b := 8) (by omega) (by decide)
  have e13 : nI at_ = 13 ↔ at_ = 13 := nI_eq (b := 13) (by omega) (by decide)
  have e43 : fb_X12_isNobody_43 (nI at_) t1 = some (t1, (bgB snd kW_147 at_ && decide (at_ = 9)) || bgB snd kW_148 at_ || enB snd kW_149 at_) := by
    unfold fb_X12_isNobody_43
    rw [r_bgs a2 (by omega) l3 (by decide), Option.bind_some, e65, e65]
    cases bgB snd kW_147 at_ with
    | false => rw [if_neg (by decide), Bool.false_and]
    | true =>
      rw [if_pos rfl, Bool.true_and]
      by_cases c : at_ = 9
      · rw [if_pos (e9.mpr c), decide_eq_true c]
      · rw [if_neg (fun z => c (e9.mp z)), decide_eq_false c]
  have e26 : fb_X12_isNobody_26 (nI at_) t1 = some (t1, (bgB snd kW_146 at_ && decide (at_ = 8)) || (bgB snd kW_147 at_ && decide (at_ = 9)) || bgB snd kW_148 at_ || enB snd kW_149 at_) := by
    unfold fb_X12_isNobody_26
    rw [r_bgs a2 (by omega) l2 (by decide), Option.bind_some, e65, e43]
    cases bgB snd kW_146 at_ with
    | false => rw [if_neg (by decide), Bool.false_and, Bool.false_or]
    | true =>
      rw [if_pos rfl, Bool.true_and]
      by_cases c : at_ = 8
      · rw [if_pos (e8.mpr c), decide_eq_true c, Bool.true_or, Bool.true_or, Bool.true_or, Bool.true_or, Bool.true_or]
      · rw [if_neg (fun z => c (e8.mp z)), decide_eq_false c, Bool.false_or]
  unfold fn_X12_isNobody nobB
  rw [a1, Option.bind_some, hat', Option.bind_some, r_bgs a2 (by omega) l1 (by decide), Option.bind_some, e65, e26, hat]
  dsimp only
  cases bgB snd kW_145 at_ with
  | false => rw [if_neg (by decide), Bool.false_and, Bool.false_or]
  | true =>
    rw [if_pos rfl, Bool.true_and]
    by_cases c : at_ = 13
    · rw [if_pos (e13.mpr c), decide_eq_true c]
      simp only [Bool.true_or]
    · rw [if_neg (fun z => c (e13.mp z)), decide_eq_false c, Bool.false_or]
/-- who sends and what the header tells -/
theorem r_pers {t : uS} {fs : List (List Nat × List Nat)} {snd : List Nat} (K : uS → Option (uS × Bool)) (h : rFl t fs) (ho : fsO fs) (hs : rTe t 93 1137 snd) (ha : adO snd) : ∃ t1 : uS, (if (t.I 1079 93) ≤ 0 then (some (t, false)) else ((fn_X12_isNobody t).bind fun r3 => if r3.2 = true then (some (r3.1, false)) else ((fn_X12_hasField kW_152 r3.1).bind fun r7 => if r7.2 = true then (some (r7.1, false)) else ((fn_X12_hasField kW_153 r7.1).bind fun r11 => if r11.2 = true then (some (r11.1, false)) else ((fn_X12_hasField kW_154 r11.1).bind fun r15 => if r15.2 = true then (some (r15.1, false)) else ((fn_X12_isAutomatic r15.1).bind fun r18 => if r18.2 = true then (some (r18.1, false)) else K r18.1)))))) = (if prsB fs snd = true then K t1 else some (t1, false)) ∧ out onwI onwF t t1 := by
  unfold prsB
  rw [hs.1]
  by_cases c0 : snd.length = 0
  · rw [if_pos (show nI snd.length ≤ 0 by rw [c0]; decide), decide_eq_false (show ¬ 0 < snd.length by omega)]
    exact ⟨t, by simp, out_r⟩
  rw [if_neg (nI_nle (by omega) (by have := hs.2.1; omega)), decide_eq_true (show 0 < snd.length by omega), Bool.true_and]
  have ha' : (adr snd).isSome = true := by
    rcases ha with z | z
    · rw [z] at c0; exact absurd rfl c0
    · exact z
  obtain ⟨t1, a1, o1⟩ := r_nob hs ha'
  have h1 := h.onw o1
  obtain ⟨t2, a2, o2⟩ := r_hasField (W := kW_152) h1 ho (by decide) (by decide)
  have h2 := h1.onw o2
  obtain ⟨t3, a3, o3⟩ := r_hasField (W := kW_153) h2 ho (by decide) (by decide)
  have h3 := h2.onw o3
  obtain ⟨t4, a4, o4⟩ := r_hasField (W := kW_154) h3 ho (by decide) (by decide)
  have h4 := h3.onw o4
  obtain ⟨t5, a5, o5⟩ := r_auto h4 ho
  have q2 := out_t o1 o2
  have q3 := out_t q2 o3
  have q4 := out_t q3 o4
  have q5 := out_t q4 o5
  rw [a1, Option.bind_some]
  dsimp only
  rw [a2, Option.bind_some]
  dsimp only
  rw [a3, Option.bind_some]
  dsimp only
  rw [a4, Option.bind_some]
  dsimp only
  rw [a5, Option.bind_some]
  dsimp only
  cases nobB snd with
  | true => exact ⟨t1, by simp, o1⟩
  | false =>
    cases fHas fs kW_152 with
    | true => exact ⟨t2, by simp, q2⟩
    | false =>
      cases fHas fs kW_153 with
      | true => exact ⟨t3, by simp, q3⟩
      | false =>
        cases fHas fs kW_154 with
        | true => exact ⟨t4, by simp, q4⟩
        | false =>
          cases autB fs with
          | true => exact ⟨t5, by simp, q5⟩
          | false => exact ⟨t5, by simp, q5⟩
