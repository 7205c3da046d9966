/-! plans: mailboxes in the reference; whether a script has failed -/
def bxO (bx : List (List Nat)) : Prop := 0 < bx.length ∧ bx.length ≤ 6 ∧ bx.getD 0 [] = kW_59 ∧ ∀ b : Nat, bys (bx.getD b []) ∧ (bx.getD b []).length ≤ 20
def rBx (t : uS) (u : Nat) (bx : List (List Nat)) : Prop := t.F 1126 u = nI bx.length ∧ ∀ b : Nat, b < bx.length → t.F 1128 (6 * u + b) = nI (bx.getD b []).length ∧ ∀ j : Nat, j < (bx.getD b []).length → t.F 1127 (20 * (6 * u + b) + j) = nI ((bx.getD b []).getD j 0)
theorem rBx.fr {t t1 : uS} {u : Nat} {bx : List (List Nat)} (h : rBx t u bx) (f : ∀ k j : Nat, 1126 ≤ k → k ≤ 1128 → t1.F k j = t.F k j) : rBx t1 u bx :=
  ⟨(f _ _ (by omega) (by omega)).trans h.1, fun b hb => ⟨(f _ _ (by omega) (by omega)).trans (h.2 b hb).1, fun j hj => (f _ _ (by omega) (by omega)).trans ((h.2 b hb).2 j hj)⟩⟩
theorem rBx.onw {t t1 : uS} {u : Nat} {bx : List (List Nat)} (h : rBx t u bx) (o : out onwI onwF t t1) : rBx t1 u bx := h.fr (fun k j _ _ => o.2.2 _ _ (by unfold onwF; omega))
theorem r_box71 {K : Int32 → Int32 → uS → Option (uS × Int32)} {t : uS} {u b j : Nat} {bx ts : List (List Nat)} (hu : u < 4) (hb : rBx t u bx) (ho : bxO bx) (hs : rSt t ts) (hj : j < ts.length) (hlt : b < bx.length) : fn_X12_boxOf_71 K uFu (nI j) (nI b) (nI (20 * (6 * u + b))) (decide ((bx.getD b []).length = (ts.getD j []).length)) 0 t = fb_X12_boxOf_126 K (nI j) (nI b) (decide (bx.getD b [] = ts.getD j [])) t := by
  obtain ⟨bg, s1, s2, s3, s4⟩ := hs
  obtain ⟨a, a1, a2, a3, al, a4⟩ := s1 j hj
  obtain ⟨-, h6, -, ho4⟩ := ho
  obtain ⟨o1, o2⟩ := ho4 b
  obtain ⟨b1, b2⟩ := hb.2 b hlt
  have c1 := s4 j
  rw [← eqT_f]
  generalize ts.getD j [] = y at *
  generalize bx.getD b [] = x at *
  unfold eqT
  by_cases c : x.length = y.length
  · rw [decide_eq_true c, Bool.true_and]
    have hc := cmp0 (F := fun n B x1 => fn_X12_boxOf_71 K n (nI j) (nI b) (nI (20 * (6 * u + b))) B x1 t) (p := fun k => eqB false (x.getD k 0) (y.getD k 0)) (fin := fun B => fb_X12_boxOf_126 K (nI j) (nI b) B t) (L := y.length) (fun n B k hk => ?_) (by show _ < 1000000; omega) true
    · rw [Bool.true_and] at hc
      exact hc
    · show fb_X12_boxOf_71 K (fn_X12_boxOf_71 K n) (nI j) (nI b) (nI (20 * (6 * u + b))) B (nI k) t = _
      unfold fb_X12_boxOf_71
      rw [g_1117 (by omega), Option.bind_some, a3]
      by_cases d : y.length ≤ k
      · rw [if_pos (nI_le (by omega) (by omega)), if_pos d]
      · rw [if_neg (nI_ge (by omega) (by omega)), if_neg d]
        cases B with
        | false => rfl
        | true =>
          rw [if_pos rfl, if_pos rfl, nI_add, g_1127 (by omega), Option.bind_some, b2 k (by omega), g_1116 (by omega), Option.bind_some, a2, nI_add, g_1097 (by omega), Option.bind_some, a4 k (by omega), nI_1]
          unfold eqB
          rw [if_neg (show ¬ (false = true) by decide)]
          have e := nI_eq (a := x.getD k 0) (b := y.getD k 0) (by have := o1 k; omega) (by have := c1 k; omega)
          by_cases w : x.getD k 0 = y.getD k 0
          · rw [if_pos (e.mpr w), decide_eq_true w]
          · rw [if_neg (fun z => w (e.mp z)), decide_eq_false w]
  · rw [decide_eq_false c, Bool.false_and]
    show fb_X12_boxOf_71 K (fn_X12_boxOf_71 K 999999) (nI j) (nI b) (nI (20 * (6 * u + b))) false (nI 0) t = _
    unfold fb_X12_boxOf_71
    rw [g_1117 (by omega), Option.bind_some, a3]
    by_cases d : y.length ≤ 0
    · rw [if_pos (nI_le (by omega) (by omega))]
    · rw [if_neg (nI_ge (by omega) (by omega)), if_neg (by decide)]
theorem r_box12 {t : uS} {u j : Nat} {bx ts : List (List Nat)} (hu : u < 4) (hb : rBx t u bx) (ho : bxO bx) (hs : rSt t ts) (hj : j < ts.length) (h89 : t.I 1079 89 = nI u) : ∀ (d N q : Nat), q + d = bx.length → d + 1 ≤ N → fn_X12_boxOf_12 N (nI j) (nI q) t = some (t, oI (fndI (bx.drop q) (ts.getD j []) q)) := by
  have hs' := hs
  obtain ⟨bg, s1, s2, s3, s4⟩ := hs'
  obtain ⟨a, a1, a2, a3, al, a4⟩ := s1 j hj
  have h6 := ho.2.1
  intro d
  induction d with
  | zero =>
    intro N q hq hN
    obtain ⟨M, rfl⟩ : ∃ M, N = M + 1 := ⟨N - 1, by omega⟩
    have hd : bx.drop q = [] := List.drop_eq_nil_of_le (by omega)
    rw [hd]
    show fb_X12_boxOf_12 (fn_X12_boxOf_12 M) (nI j) (nI q) t = some (t, -1)
    unfold fb_X12_boxOf_12
    rw [h89, g_1126 hu, Option.bind_some, hb.1, if_pos (nI_le (by omega) (by omega))]
  | succ d ih =>
    intro N q hq hN
    obtain ⟨M, rfl⟩ : ∃ M, N = M + 1 := ⟨N - 1, by omega⟩
    have hlt : q < bx.length := by omega
    rw [dropL hlt]
    show fb_X12_boxOf_12 (fn_X12_boxOf_12 M) (nI j) (nI q) t = some (t, oI (if bx.getD q [] = ts.getD j [] then some q else fndI (bx.drop (q + 1)) (ts.getD j []) (q + 1)))
    have hk := r_box71 (K := fn_X12_boxOf_12 M) hu hb ho hs hj hlt
    unfold fb_X12_boxOf_12
    rw [h89, g_1126 hu, Option.bind_some, hb.1, if_neg (nI_ge hlt (by omega))]
    rw [show (6 : Int32) = nI 6 from rfl, show (20 : Int32) = nI 20 from rfl, nI_mul, nI_add, nI_mul, g_1128 (by omega), Option.bind_some, (hb.2 q hlt).1, g_1117 (by omega), Option.bind_some, a3]
    have e := nI_eq (a := (bx.getD q []).length) (b := (ts.getD j []).length) (by have := (ho.2.2.2 q).2; omega) (by omega)
    have hk2 : (if nI (bx.getD q []).length = nI (ts.getD j []).length then fn_X12_boxOf_71 (fn_X12_boxOf_12 M) uFu (nI j) (nI q) (nI (20 * (6 * u + q))) true 0 t else fn_X12_boxOf_71 (fn_X12_boxOf_12 M) uFu (nI j) (nI q) (nI (20 * (6 * u + q))) false 0 t) = fb_X12_boxOf_126 (fn_X12_boxOf_12 M) (nI j) (nI q) (decide (bx.getD q [] = ts.getD j [])) t := by
      rw [← hk]
      by_cases w : (bx.getD q []).length = (ts.getD j []).length
      · rw [if_pos (e.mpr w), decide_eq_true w]
      · rw [if_neg (fun z => w (e.mp z)), decide_eq_false w]
    rw [hk2]
    unfold fb_X12_boxOf_126
    by_cases c : bx.getD q [] = ts.getD j []
    · rw [if_pos (decide_eq_true c), if_pos c]
      rfl
    · rw [if_neg (by rw [decide_eq_true_eq]; exact c), if_neg c, nI_1]
      exact ih M (q + 1) (by omega) (by omega)
theorem r_boxOf {t : uS} {u : Nat} {bx ts : List (List Nat)} {x : Option Nat} (hu : u < 4) (hb : rBx t u bx) (ho : bxO bx) (hs : rSt t ts) (hx : xOk ts x) (h89 : t.I 1079 89 = nI u) : ∃ t1 : uS, fn_X12_boxOf (oI x) t = some (t1, oI (bxN bx (fky ts x))) ∧ out onwI onwF t t1 := by
  obtain ⟨t1, a1, a2⟩ := r_isIn hs hx
  unfold fn_X12_boxOf
  rw [a1, Option.bind_some]
  dsimp only
  refine ⟨t1, ?_, a2⟩
  cases h : fky ts x with
  | none => rfl
  | some w =>
    show fn_X12_boxOf_12 uFu (oI x) (nI 1) t1 = some (t1, oI (fndI bx w 0))
    cases x with
    | none =>
      have h' : (none : Option (List Nat)) = some w := h
      cases h'
    | some j =>
      have e := fky_s h
      have hk := r_box12 hu (hb.onw a2) ho (onwT hs a2) (hx j rfl) (by rw [a2.2.1 _ _ (by unfold onwI; omega)]; exact h89) (bx.length - 1) uFu 1 (by have := ho.1; omega) (by have := ho.2.1; show _ ≤ 1000000; omega)
      rw [← e] at hk
      have e2 : fndI bx w 0 = fndI (bx.drop 1) w 1 := by
        have hd := dropL (l := bx) (i := 0) ho.1
        rw [List.drop_zero] at hd
        rw [hd]
        show (if bx.getD 0 [] = w then some 0 else fndI (bx.drop 1) w 1) = _
        rw [if_neg, List.drop_succ_cons, List.drop_zero]
        intro z
        rw [ho.2.2.1] at z
        have k1 := fky_ok ts (some j) w h
        rw [← z, inb_W] at k1
        cases k1
      rw [e2]
      exact hk
theorem dropF {l : List (Option Nat × Nat)} {i : Nat} (h : i < l.length) : l.drop i = l.getD i (none, 0) :: l.drop (i + 1) := by
  rw [List.drop_eq_getElem_cons h, List.getD_eq_getElem?_getD, List.getElem?_eq_getElem h]
  rfl
theorem r_newB {u : Nat} {bx ts : List (List Nat)} {F : List (Option Nat × Nat)} (hu : u < 4) (ho : bxO bx) (hl : F.length ≤ 102) : ∀ (d N q c : Nat) (t : uS), q + d = F.length → d + 1 ≤ N → rBx t u bx → rSt t ts → rFi t ts F → t.I 1079 89 = nI u → ∃ t1 : uS, fn_X12_newBoxes_4 N (nI c) (nI q) t = some (t1, nI (c + (nbsF bx ts (F.drop q)).length)) ∧ out onwI onwF t t1 := by
  intro d
  induction d with
  | zero =>
    intro N q c t hq hN hb hs hF h89
    obtain ⟨M, rfl⟩ : ∃ M, N = M + 1 := ⟨N - 1, by omega⟩
    have hd : F.drop q = [] := List.drop_eq_nil_of_le (by omega)
    rw [hd]
    refine ⟨t, ?_, out_r⟩
    show fb_X12_newBoxes_4 (fn_X12_newBoxes_4 M) (nI c) (nI q) t = some (t, nI (c + 0))
    unfold fb_X12_newBoxes_4
    rw [hF.1, if_pos (nI_le (by omega) (by omega))]
    rfl
  | succ d ih =>
    intro N q c t hq hN hb hs hF h89
    obtain ⟨M, rfl⟩ : ∃ M, N = M + 1 := ⟨N - 1, by omega⟩
    have hlt : q < F.length := by omega
    obtain ⟨f1, f2, f3⟩ := hF.2 q hlt
    obtain ⟨t1, a1, a2⟩ := r_boxOf hu hb ho hs f3 h89
    have hd := dropF hlt
    have step : fn_X12_newBoxes_4 (M + 1) (nI c) (nI q) t = if 0 ≤ oI (bxN bx (fky ts (F.getD q (none, 0)).1)) then fn_X12_newBoxes_4 M (nI c) (nI (q + 1)) t1 else fn_X12_newBoxes_4 M (nI (c + 1)) (nI (q + 1)) t1 := by
      show fb_X12_newBoxes_4 (fn_X12_newBoxes_4 M) (nI c) (nI q) t = _
      unfold fb_X12_newBoxes_4
      rw [hF.1, if_neg (nI_ge hlt (by omega)), g_1138 (by omega), Option.bind_some, f1, a1, Option.bind_some, nI_1, nI_1]
    rw [step, hd]
    have hb1 := hb.onw a2
    have hs1 := onwT hs a2
    have hF1 : rFi t1 ts F := hF.o a2 (by unfold onwI; omega) (fun k f z => by unfold onwF; omega)
    have h891 : t1.I 1079 89 = nI u := by rw [a2.2.1 _ _ (by unfold onwI; omega)]; exact h89
    cases h : bxN bx (fky ts (F.getD q (none, 0)).1) with
    | some b =>
      have hb6 := bxN_lt ho.1 h
      have hn : nbf bx ts (F.getD q (none, 0)) = none := by unfold nbf; rw [h]
      rw [show oI (some b) = nI b from rfl, if_pos (nI_pos' (by have := ho.2.1; omega))]
      obtain ⟨t2, b1, b2⟩ := ih M (q + 1) c t1 (by omega) (by omega) hb1 hs1 hF1 h891
      refine ⟨t2, ?_, out_t a2 b2⟩
      rw [b1]
      congr 3
      unfold nbsF
      rw [List.filterMap_cons, hn]
    | none =>
      obtain ⟨j, e1, e2⟩ := fky_n h
      have hn : nbf bx ts (F.getD q (none, 0)) = some j := by unfold nbf; rw [h]; exact e1
      rw [show oI (none : Option Nat) = -1 from rfl, if_neg (by decide)]
      obtain ⟨t2, b1, b2⟩ := ih M (q + 1) (c + 1) t1 (by omega) (by omega) hb1 hs1 hF1 h891
      refine ⟨t2, ?_, out_t a2 b2⟩
      rw [b1]
      congr 3
      unfold nbsF
      rw [List.filterMap_cons, hn, List.length_cons]
      omega
/-- whether the reference says that a script has failed -/
def fcB (nD rj vc nB : Nat) (ac : Bool) : Bool := decide (4 < nD ∨ decide ((0 < rj ∧ (ac = true ∨ 0 < vc)) ∨ 1 < rj) = true ∨ 1 < vc ∨ 6 < nB)
theorem r_fails {t : uS} {u nD rj vc : Nat} {ac : Bool} {bx ts : List (List Nat)} {F : List (Option Nat × Nat)} (hu : u < 4) (ho : bxO bx) (hl : F.length ≤ 102) (hb : rBx t u bx) (hs : rSt t ts) (hF : rFi t ts F) (h89 : t.I 1079 89 = nI u) (hD : t.I 1079 100 = nI nD) (h102 : t.I 1079 102 = nI rj) (h104 : t.I 1079 104 = nI vc) (h106 : t.I 1079 106 = bI ac) (b1 : nD < 2 ^ 31) (b2 : rj < 2 ^ 31) (b3 : vc < 2 ^ 31) : ∃ t1 : uS, fn_X12_fails t = some (t1, fcB nD rj vc (bx.length + (nbsF bx ts F).length) ac) ∧ out onwI onwF t t1 := by
  obtain ⟨t1, a1, a2⟩ := r_newB hu ho hl F.length uFu 0 0 t (by omega) (by show _ ≤ 1000000; omega) hb hs hF h89
  rw [List.drop_zero, Nat.zero_add] at a1
  have a1' : fn_X12_newBoxes t = some (t1, nI (nbsF bx ts F).length) := a1
  have hn : (nbsF bx ts F).length ≤ F.length := List.length_filterMap_le _ _
  have h6 := ho.2.1
  have key : ∀ B : Bool, ∃ t1 : uS, fb_X12_fails_34 B t = some (t1, decide (4 < nD ∨ B = true ∨ 1 < vc ∨ 6 < bx.length + (nbsF bx ts F).length)) ∧ out onwI onwF t t1 := by
    intro B
    unfold fb_X12_fails_34
    rw [hD, h104]
    by_cases c1 : 4 < nD
    · exact ⟨t, by rw [if_pos (show (4 : Int32) < nI nD from nI_lt (a := 4) c1 b1), decide_eq_true (Or.inl c1)], out_r⟩
    · rw [if_neg (show ¬ (4 : Int32) < nI nD from nI_nlt (a := 4) (by omega) (by decide))]
      cases B with
      | true => exact ⟨t, by rw [if_pos rfl, decide_eq_true (Or.inr (Or.inl rfl))], out_r⟩
      | false =>
        rw [if_neg (by decide)]
        by_cases c2 : 1 < vc
        · exact ⟨t, by rw [if_pos (show (1 : Int32) < nI vc from nI_lt (a := 1) c2 b3), decide_eq_true (Or.inr (Or.inr (Or.inl c2)))], out_r⟩
        · rw [if_neg (show ¬ (1 : Int32) < nI vc from nI_nlt (a := 1) (by omega) (by decide)), h89, g_1126 hu, Option.bind_some, hb.1, a1', Option.bind_some]
          refine ⟨t1, ?_, a2⟩
          dsimp only
          rw [nI_add]
          by_cases c3 : bx.length + (nbsF bx ts F).length ≤ 6
          · rw [if_pos (show nI _ ≤ 6 from nI_le (b := 6) c3 (by decide)), decide_eq_false]
            intro z
            rcases z with z | z | z | z
            · exact c1 z
            · cases z
            · exact c2 z
            · omega
          · rw [if_neg (show ¬ nI _ ≤ 6 from nI_ge (a := 6) (by omega) (by omega)), decide_eq_true (Or.inr (Or.inr (Or.inr (by omega))))]
  have e : fn_X12_fails t = fb_X12_fails_34 (decide ((0 < rj ∧ (ac = true ∨ 0 < vc)) ∨ 1 < rj)) t := by
    have e21 : fb_X12_fails_21 t = fb_X12_fails_34 (decide (1 < rj)) t := by
      unfold fb_X12_fails_21
      rw [h102]
      by_cases c : 1 < rj
      · rw [if_neg (show ¬ nI rj ≤ 1 from nI_ge (a := 1) c b2), decide_eq_true c]
      · rw [if_pos (show nI rj ≤ 1 from nI_le (b := 1) (by omega) (by decide)), decide_eq_false c]
    unfold fn_X12_fails
    rw [h102, h106, h104, e21]
    by_cases c : rj = 0
    · rw [if_pos (show nI rj ≤ 0 from nI_le (b := 0) (by omega) (by decide))]
      congr 1
      exact decide_eq_decide.mpr ⟨fun z => Or.inr z, fun z => by omega⟩
    · rw [if_neg (nI_nle (by omega) b2)]
      cases ac with
      | true => rw [if_neg (show ¬ bI true = 0 by decide), decide_eq_true (Or.inl ⟨by omega, Or.inl rfl⟩)]
      | false =>
        rw [if_pos (show bI false = 0 from rfl)]
        by_cases d : 0 < vc
        · rw [if_pos (show (0 : Int32) < nI vc from nI_lt (a := 0) d b3), decide_eq_true (Or.inl ⟨by omega, Or.inr d⟩)]
        · rw [if_neg (show ¬ (0 : Int32) < nI vc from nI_nlt (a := 0) (by omega) (by decide))]
          congr 1
          refine decide_eq_decide.mpr ⟨fun z => Or.inr z, fun z => ?_⟩
          rcases z with ⟨-, z | z⟩ | z
          · cases z
          · exact absurd z d
          · exact z
  rw [e]
  exact key _
