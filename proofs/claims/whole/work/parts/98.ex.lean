/-! plans: the reference's side -/
/-- the mailbox that a string names, without its place; none is the inbox -/
def fky (ts : List (List Nat)) : Option Nat → Option (List Nat)
  | none => none
  | some j => if eqW (ts.getD j []) kW_142 = true then none else some (ts.getD j [])
abbrev xOk (ts : List (List Nat)) (x : Option Nat) : Prop := ∀ j : Nat, x = some j → j < ts.length
theorem fky_s {ts : List (List Nat)} {j : Nat} {v : List Nat} (h : fky ts (some j) = some v) : v = ts.getD j [] := by
  have h2 : (if eqW (ts.getD j []) kW_142 = true then none else some (ts.getD j [])) = some v := h
  split at h2
  · cases h2
  · exact (Option.some.inj h2).symm
theorem onwT {t t1 : uS} {ts : List (List Nat)} (h : rSt t ts) (o : out onwI onwF t t1) : rSt t1 ts := h.fr (fun k j _ => o.2.2 _ _ (by unfold onwF; omega))
theorem r_isIn {t : uS} {ts : List (List Nat)} {x : Option Nat} (h : rSt t ts) (hx : xOk ts x) : ∃ t1 : uS, fn_X12_isInbox (oI x) t = some (t1, (fky ts x).isNone) ∧ out onwI onwF t t1 := by
  unfold fn_X12_isInbox
  cases x with
  | none => exact ⟨t, by rw [if_pos (show oI (none : Option Nat) = -1 from rfl)]; rfl, out_r⟩
  | some j =>
    have hj := hx j rfl
    have hl := h
    obtain ⟨bg, -, -, l3, -⟩ := hl
    rw [show oI (some j) = nI j from rfl, if_neg (show ¬ nI j = -1 by intro z; exact nI_pos (show j < 2 ^ 31 by omega) (by rw [z]; decide))]
    obtain ⟨t1, a1, a2, a3⟩ := r_oneS h hj
    obtain ⟨t2, b1, b2, b3⟩ := r_oneIs (W := kW_142) a2 (by decide) (by decide)
    rw [a1, Option.bind_some, b1, Option.bind_some]
    refine ⟨t2, ?_, out_t (onw1 a3) (onw2 b3)⟩
    show some (t2, eqW (ts.getD j []) kW_142) = some (t2, (if eqW (ts.getD j []) kW_142 = true then (none : Option (List Nat)) else some (ts.getD j [])).isNone)
    generalize eqW (ts.getD j []) kW_142 = b
    cases b <;> rfl
theorem r_sameS {t : uS} {ts : List (List Nat)} {i j : Nat} (h : rSt t ts) (hi : i < ts.length) (hj : j < ts.length) : fn_X12_sameStrings (nI i) (nI j) t = some (decide (ts.getD i [] = ts.getD j [])) := by
  obtain ⟨bg, s1, s2, s3, s4⟩ := h
  obtain ⟨a, a1, a2, a3, al, a4⟩ := s1 i hi
  obtain ⟨p, p1, p2, p3, pl, p4⟩ := s1 j hj
  have b1 := s4 j
  have b2 := s4 i
  rw [← eqT_f]
  generalize ts.getD j [] = y at *
  generalize ts.getD i [] = x at *
  unfold fn_X12_sameStrings eqT
  rw [g_1117 (by omega), Option.bind_some, a3, g_1117 (by omega), Option.bind_some, p3]
  by_cases c : x.length = y.length
  · rw [if_pos (by rw [c]), decide_eq_true c, Bool.true_and, cmp0 (F := fun n b x1 => fn_X12_sameStrings_24 n (nI i) (nI j) b x1 t) (p := fun k => eqB false (x.getD k 0) (y.getD k 0)) (fin := fun b => some b) (L := y.length) (fun n b k hk => ?_) (by show _ < 1000000; omega) true, Bool.true_and]
    show fb_X12_sameStrings_24 (fn_X12_sameStrings_24 n) (nI i) (nI j) b (nI k) t = _
    unfold fb_X12_sameStrings_24
    rw [g_1117 (by omega), Option.bind_some, a3]
    by_cases d : y.length ≤ k
    · rw [if_pos (nI_le (by omega) (by omega)), if_pos d]
    · rw [if_neg (nI_ge (by omega) (by omega)), if_neg d]
      cases b with
      | false => rfl
      | true =>
        rw [if_pos rfl, if_pos rfl, g_1116 (by omega), Option.bind_some, a2, nI_add, g_1097 (by omega), Option.bind_some, a4 k (by omega), g_1116 (by omega), Option.bind_some, p2, nI_add, g_1097 (by omega), Option.bind_some, p4 k (by omega), nI_1]
        unfold eqB
        rw [if_neg (show ¬ (false = true) by decide)]
        have e := nI_eq (a := x.getD k 0) (b := y.getD k 0) (by have := b2 k; omega) (by have := b1 k; omega)
        by_cases w : x.getD k 0 = y.getD k 0
        · rw [if_pos (e.mpr w), decide_eq_true w]
        · rw [if_neg (fun z => w (e.mp z)), decide_eq_false w]
  · rw [if_neg (by rw [nI_eq (by omega) (by omega)]; exact c), decide_eq_false c, Bool.false_and]
    show fb_X12_sameStrings_24 (fn_X12_sameStrings_24 999999) (nI i) (nI j) false (nI 0) t = _
    unfold fb_X12_sameStrings_24
    rw [g_1117 (by omega), Option.bind_some, if_neg (show ¬ (false = true) by decide)]
    split <;> rfl
theorem r_sameL {t : uS} {ts : List (List Nat)} {i j : Nat} (h : rSt t ts) (hi : i < ts.length) (hj : j < ts.length) : fn_X12_sameLow (nI i) (nI j) t = some (eqT true (ts.getD i []) (ts.getD j [])) := by
  obtain ⟨bg, s1, s2, s3, s4⟩ := h
  obtain ⟨a, a1, a2, a3, al, a4⟩ := s1 i hi
  obtain ⟨p, p1, p2, p3, pl, p4⟩ := s1 j hj
  have b1 := s4 j
  have b2 := s4 i
  generalize ts.getD j [] = y at *
  generalize ts.getD i [] = x at *
  unfold fn_X12_sameLow eqT
  rw [g_1117 (by omega), Option.bind_some, a3, g_1117 (by omega), Option.bind_some, p3]
  by_cases c : x.length = y.length
  · rw [if_pos (by rw [c]), decide_eq_true c, Bool.true_and, cmp0 (F := fun n b x1 => fn_X12_sameLow_24 n (nI i) (nI j) b x1 t) (p := fun k => eqB true (x.getD k 0) (y.getD k 0)) (fin := fun b => some b) (L := y.length) (fun n b k hk => ?_) (by show _ < 1000000; omega) true, Bool.true_and]
    show fb_X12_sameLow_24 (fn_X12_sameLow_24 n) (nI i) (nI j) b (nI k) t = _
    unfold fb_X12_sameLow_24
    rw [g_1117 (by omega), Option.bind_some, a3]
    by_cases d : y.length ≤ k
    · rw [if_pos (nI_le (by omega) (by omega)), if_pos d]
    · rw [if_neg (nI_ge (by omega) (by omega)), if_neg d]
      cases b with
      | false => rfl
      | true =>
        rw [if_pos rfl, if_pos rfl, g_1116 (by omega), Option.bind_some, a2, nI_add, g_1097 (by omega), Option.bind_some, a4 k (by omega), r_lowN (by have := b2 k; omega), Option.bind_some, g_1116 (by omega), Option.bind_some, p2, nI_add, g_1097 (by omega), Option.bind_some, p4 k (by omega), r_lowN (by have := b1 k; omega), Option.bind_some, nI_1]
        unfold eqB
        rw [if_pos rfl]
        have e := nI_eq (a := lo (x.getD k 0)) (b := lo (y.getD k 0)) (by have := lo_lt (b2 k); omega) (by have := lo_lt (b1 k); omega)
        by_cases w : lo (x.getD k 0) = lo (y.getD k 0)
        · rw [if_pos (e.mpr w), decide_eq_true w]
        · rw [if_neg (fun z => w (e.mp z)), decide_eq_false w]
  · rw [if_neg (by rw [nI_eq (by omega) (by omega)]; exact c), decide_eq_false c, Bool.false_and]
    show fb_X12_sameLow_24 (fn_X12_sameLow_24 999999) (nI i) (nI j) false (nI 0) t = _
    unfold fb_X12_sameLow_24
    rw [g_1117 (by omega), Option.bind_some, if_neg (show ¬ (false = true) by decide)]
    split <;> rfl
theorem r_sameB {t : uS} {ts : List (List Nat)} {x y : Option Nat} (h : rSt t ts) (hx : xOk ts x) (hy : xOk ts y) : ∃ t1 : uS, fn_X12_sameBox (oI x) (oI y) t = some (t1, decide (fky ts x = fky ts y)) ∧ out onwI onwF t t1 := by
  obtain ⟨t1, a1, a2⟩ := r_isIn h hx
  have h1 := onwT h a2
  obtain ⟨t2, b1, b2⟩ := r_isIn h1 hy
  have h2 := onwT h1 b2
  unfold fn_X12_sameBox
  rw [a1, Option.bind_some, b1, Option.bind_some]
  dsimp only
  refine ⟨t2, ?_, out_t a2 b2⟩
  unfold fb_X12_sameBox_22
  cases ex : fky ts x with
  | none =>
    rw [if_pos (show (none : Option (List Nat)).isNone = true from rfl), if_pos (show (none : Option (List Nat)).isNone = true from rfl)]
    cases ey : fky ts y with
    | none => rfl
    | some w => rfl
  | some w =>
    rw [if_neg (show ¬ (some w).isNone = true by simp)]
    cases ey : fky ts y with
    | none => rfl
    | some v =>
      rw [if_neg (show ¬ (some v).isNone = true by simp)]
      cases x with
      | none => cases ex
      | some i =>
        cases y with
        | none => cases ey
        | some j =>
          rw [show oI (some i) = nI i from rfl, show oI (some j) = nI j from rfl, r_sameS h2 (hx i rfl) (hy j rfl), Option.bind_some]
          rw [fky_s ex, fky_s ey]
          congr 2
          exact decide_eq_decide.mpr ⟨fun z => by rw [z], fun z => Option.some.inj z⟩
/-- filed, as the reference holds it -/
def rFi (t : uS) (ts : List (List Nat)) (F : List (Option Nat × Nat)) : Prop := t.I 1079 97 = nI F.length ∧ ∀ k : Nat, k < F.length → t.F 1138 k = oI (F.getD k (none, 0)).1 ∧ t.F 1139 k = nI (F.getD k (none, 0)).2 ∧ xOk ts (F.getD k (none, 0)).1
def rDi (t : uS) (ts : List (List Nat)) (D : List Nat) : Prop := t.I 1079 100 = nI D.length ∧ ∀ k : Nat, k < D.length → t.F 1140 k = nI (D.getD k 0) ∧ D.getD k 0 < ts.length
def hasF (ts : List (List Nat)) (F : List (Option Nat × Nat)) (x : Option Nat) : Bool := anyB (fun k => decide (fky ts x = fky ts (F.getD k (none, 0)).1)) F.length 0
def addF (ts : List (List Nat)) (F : List (Option Nat × Nat)) (x : Option Nat) (b : Nat) : List (Option Nat × Nat) := if hasF ts F x = true then F else F ++ [(x, b)]
theorem getDp_app {F : List (Option Nat × Nat)} {f : Option Nat × Nat} {i : Nat} (h : i < F.length) : (F ++ [f]).getD i (none, 0) = F.getD i (none, 0) := by
  rw [List.getD_eq_getElem?_getD, List.getD_eq_getElem?_getD, List.getElem?_append_left h]
theorem getDp_end {F : List (Option Nat × Nat)} {f : Option Nat × Nat} : (F ++ [f]).getD F.length (none, 0) = f := by
  rw [List.getD_eq_getElem?_getD, List.getElem?_append_right (Nat.le_refl _), Nat.sub_self]; rfl
def fiI (k f : Nat) : Prop := onwI k f ∨ (k = 1079 ∧ f = 97)
def fiF (k f : Nat) : Prop := onwF k f ∨ k = 1138 ∨ k = 1139
theorem rFi.o {t t1 : uS} {ts : List (List Nat)} {F : List (Option Nat × Nat)} {PI PF : Nat → Nat → Prop} (h : rFi t ts F) (o : out PI PF t t1) (hI : ¬ PI 1079 97) (hF : ∀ k f : Nat, k = 1138 ∨ k = 1139 → ¬ PF k f) : rFi t1 ts F :=
  ⟨(o.2.1 _ _ hI).trans h.1, fun k hk => ⟨(o.2.2 _ _ (hF _ _ (by omega))).trans (h.2 k hk).1, (o.2.2 _ _ (hF _ _ (by omega))).trans (h.2 k hk).2.1, (h.2 k hk).2.2⟩⟩
theorem rDi.o {t t1 : uS} {ts : List (List Nat)} {D : List Nat} {PI PF : Nat → Nat → Prop} (h : rDi t ts D) (o : out PI PF t t1) (hI : ¬ PI 1079 100) (hF : ∀ f : Nat, ¬ PF 1140 f) : rDi t1 ts D :=
  ⟨(o.2.1 _ _ hI).trans h.1, fun k hk => ⟨(o.2.2 _ _ (hF _)).trans (h.2 k hk).1, (h.2 k hk).2⟩⟩
theorem r_file {ts : List (List Nat)} {F : List (Option Nat × Nat)} {x : Option Nat} {b : Nat} (hx : xOk ts x) (hl : F.length ≤ 101) : ∀ (d N q : Nat) (B : Bool) (t : uS), q + d = F.length → d + 1 ≤ N → rSt t ts → rFi t ts F → ∃ t1 : uS, fn_X12_file1_5 N (oI x) (nI b) B (nI q) t = some t1 ∧ rFi t1 ts (if (B || anyB (fun k => decide (fky ts x = fky ts (F.getD k (none, 0)).1)) d q) = true then F else F ++ [(x, b)]) ∧ out fiI fiF t t1 := by
  intro d
  induction d with
  | zero =>
    intro N q B t hq hN hs hF
    obtain ⟨n1, rfl⟩ : ∃ n1, N = n1 + 1 := ⟨N - 1, by omega⟩
    show ∃ t1 : uS, fb_X12_file1_5 (fn_X12_file1_5 n1) (oI x) (nI b) B (nI q) t = some t1 ∧ _
    unfold fb_X12_file1_5
    rw [hF.1, if_pos (nI_le (by omega) (by omega)), show anyB (fun k => decide (fky ts x = fky ts (F.getD k (none, 0)).1)) 0 q = false from rfl, Bool.or_false]
    cases B with
    | true => exact ⟨t, rfl, by rw [if_pos rfl]; exact hF, out_r⟩
    | false =>
      rw [if_neg (by decide), if_neg (by decide), p_1138 (by omega), Option.bind_some, wF_I, hF.1, p_1139 (by omega), Option.bind_some, wF_I, wF_I, hF.1, nI_1]
      refine ⟨_, rfl, ⟨by rw [wI_e, List.length_append]; rfl, fun k hk => ?_⟩, out_I (out_F (out_F out_r (Or.inr (Or.inl rfl))) (Or.inr (Or.inr rfl))) (Or.inr ⟨rfl, rfl⟩)⟩
      rw [List.length_append] at hk
      simp at hk
      rw [wI_F]
      by_cases e : k = F.length
      · rw [e, getDp_end, wF_o (by omega), wF_e, wF_e]
        exact ⟨rfl, rfl, hx⟩
      · rw [getDp_app (by omega), wF_o (by omega), wF_o (by omega), wF_o (by omega), wF_o (by omega)]
        exact hF.2 k (by omega)
  | succ d ih =>
    intro N q B t hq hN hs hF
    obtain ⟨n1, rfl⟩ : ∃ n1, N = n1 + 1 := ⟨N - 1, by omega⟩
    show ∃ t1 : uS, fb_X12_file1_5 (fn_X12_file1_5 n1) (oI x) (nI b) B (nI q) t = some t1 ∧ _
    unfold fb_X12_file1_5
    rw [hF.1, if_neg (nI_ge (by omega) (by omega)), nI_1, anyB_s, ← Bool.or_assoc]
    cases B with
    | true =>
      rw [if_pos rfl]
      exact ih n1 (q + 1) true t (by omega) (by omega) hs hF
    | false =>
      rw [if_neg (by decide), g_1138 (by omega), Option.bind_some, (hF.2 q (by omega)).1, Bool.false_or]
      obtain ⟨t1, a1, a2⟩ := r_sameB hs hx (hF.2 q (by omega)).2.2
      rw [a1, Option.bind_some]
      obtain ⟨t2, b1, b2, b3⟩ := ih n1 (q + 1) (decide (fky ts x = fky ts (F.getD q (none, 0)).1)) t1 (by omega) (by omega) (onwT hs a2) (hF.o a2 (by unfold onwI; omega) (fun k f _ => by unfold onwF; omega))
      refine ⟨t2, ?_, b2, out_t (out_w a2 (fun _ _ z => Or.inl z) (fun _ _ z => Or.inl z)) b3⟩
      rw [← b1]
      dsimp only
      cases decide (fky ts x = fky ts (F.getD q (none, 0)).1) <;> rfl
theorem r_file1 {ts : List (List Nat)} {F : List (Option Nat × Nat)} {x : Option Nat} {b : Nat} {t : uS} (hx : xOk ts x) (hl : F.length ≤ 101) (hs : rSt t ts) (hF : rFi t ts F) : ∃ t1 : uS, fn_X12_file1 (oI x) (nI b) t = some t1 ∧ rFi t1 ts (addF ts F x b) ∧ out fiI fiF t t1 := by
  obtain ⟨t1, a1, a2, a3⟩ := r_file (b := b) hx hl F.length 1000000 0 false t (by omega) (by omega) hs hF
  rw [Bool.false_or] at a2
  exact ⟨t1, a1, a2, a3⟩
def hasD (ts : List (List Nat)) (D : List Nat) (j : Nat) : Bool := anyB (fun k => eqT true (ts.getD j []) (ts.getD (D.getD k 0) [])) D.length 0
def addD (ts : List (List Nat)) (D : List Nat) (j : Nat) : List Nat := if hasD ts D j = true then D else D ++ [j]
theorem r_redir1 {ts : List (List Nat)} {D : List Nat} {j : Nat} {t : uS} (hj : j < ts.length) (hl : D.length ≤ 101) (hs : rSt t ts) (hD : rDi t ts D) : ∃ t1 : uS, fn_X12_redirect1 (nI j) t = some t1 ∧ rDi t1 ts (addD ts D j) ∧ out (fun k f => k = 1079 ∧ f = 100) (fun k _ => k = 1140) t t1 := by
  unfold fn_X12_redirect1
  rw [or0 (F := fun n b x => fn_X12_redirect1_4 n (nI j) b x t) (p := fun k => eqT true (ts.getD j []) (ts.getD (D.getD k 0) [])) (fin := fun b => if b = true then (some t) else ((iput 20 t 1140 (t.I 1079 100) (nI j)).bind fun s3 => some (wI s3 1079 100 ((s3.I 1079 100) + 1)))) (L := D.length) (fun n b q hq => ?_) (by show _ < 1000000; omega) false, Bool.false_or]
  · unfold addD hasD
    by_cases c : anyB (fun k => eqT true (ts.getD j []) (ts.getD (D.getD k 0) [])) D.length 0 = true
    · rw [if_pos c, if_pos c]; exact ⟨t, rfl, hD, out_r⟩
    · rw [if_neg c, if_neg c, hD.1, p_1140 (by omega), Option.bind_some, wF_I, hD.1, nI_1]
      refine ⟨_, rfl, ⟨by rw [wI_e, List.length_append]; rfl, fun k hk => ?_⟩, out_I (out_F out_r rfl) ⟨rfl, rfl⟩⟩
      rw [List.length_append] at hk
      simp at hk
      rw [wI_F]
      by_cases e : k = D.length
      · rw [e, getDn_end, wF_e]; exact ⟨rfl, hj⟩
      · rw [getDn_app (by omega), wF_o (by omega)]; exact hD.2 k (by omega)
  · show fb_X12_redirect1_4 (fn_X12_redirect1_4 n) (nI j) b (nI q) t = _
    unfold fb_X12_redirect1_4
    rw [hD.1]
    by_cases c : D.length ≤ q
    · rw [if_pos (nI_le c (by omega)), if_pos c]
    · rw [if_neg (nI_ge (by omega) (by omega)), if_neg c, nI_1]
      cases b with
      | true => rfl
      | false => rw [if_neg (by decide), g_1140 (by omega), Option.bind_some, (hD.2 q (by omega)).1, r_sameL hs hj (hD.2 q (by omega)).2, Option.bind_some, Bool.false_or, b_if (x := fun b => fn_X12_redirect1_4 n (nI j) b (nI (q + 1)) t)]
theorem wix_loL {w : List Nat} : ∀ (L : List (List Nat)) (i : Nat), wix w (L.map (fun v => v.map lo)) i = wix w L i
  | [], _ => rfl
  | v :: L, i => by
    show (if eqW w (v.map lo) = true then some i else wix w (L.map (fun v => v.map lo)) (i + 1)) = (if eqW w v = true then some i else wix w L (i + 1))
    rw [eqW_lo, wix_loL L (i + 1)]
def flwL : List (List Nat) := ((spl kW_44).1 :: (spl kW_44).2).map (fun v => v.map lo)
/-- flags out of strings -/
theorem r_flagOf {t : uS} {w : List Nat} (h : r1 t w) : ∃ t1 : uS, fn_X12_flagOf t = some (t1, nI (flB w)) ∧ flB w < 32 ∧ out twI twF t t1 := by
  obtain ⟨v, h1, h2, h3⟩ := wds flwL w
  unfold flwL at h2
  rw [wix_loL] at h2
  have hv : v ≤ 5 := h1
  have hB : flB w = if v = 5 then 0 else 2 ^ v := by
    unfold flB
    cases e : wix w ((spl kW_44).1 :: (spl kW_44).2) 0 with
    | none =>
      rw [e] at h2
      by_cases c : v = 5
      · rw [if_pos c]
      · rw [if_neg (show ¬ v = (((spl kW_44).1 :: (spl kW_44).2).map (fun v => v.map lo)).length from c)] at h2
        exact absurd h2.symm (nI_nm (by omega))
    | some j =>
      rw [e] at h2
      obtain ⟨-, -, j3⟩ := wix_some e
      have j4 : j < 5 := by have : j < 0 + 5 := j3; omega
      by_cases c : v = 5
      · rw [if_pos (show v = (((spl kW_44).1 :: (spl kW_44).2).map (fun v => v.map lo)).length from c)] at h2
        exact absurd h2 (nI_nm (by omega))
      · rw [if_neg (show ¬ v = (((spl kW_44).1 :: (spl kW_44).2).map (fun v => v.map lo)).length from c)] at h2
        rw [if_neg c, (nI_eq (by omega) (by omega)).mp h2]
  have hlt : flB w < 32 := by
    rw [hB]
    have : v = 0 ∨ v = 1 ∨ v = 2 ∨ v = 3 ∨ v = 4 ∨ v = 5 := by omega
    rcases this with e | e | e | e | e | e <;> subst e <;> decide
  have w0 : eqW w kW_130 = decide (v = 0) := h3 kW_130 0 (by unfold wdAt; decide)
  have w1 : eqW w kW_131 = decide (v = 1) := h3 kW_131 1 (by unfold wdAt; decide)
  have w2 : eqW w kW_132 = decide (v = 2) := h3 kW_132 2 (by unfold wdAt; decide)
  have w3 : eqW w kW_133 = decide (v = 3) := h3 kW_133 3 (by unfold wdAt; decide)
  have w4 : eqW w kW_134 = decide (v = 4) := h3 kW_134 4 (by unfold wdAt; decide)
  unfold fn_X12_flagOf
  obtain ⟨t1, a1, a2, a3⟩ := r_oneIs (W := kW_130) h (by decide) (by decide)
  obtain ⟨t2, b1, b2, b3⟩ := r_oneIs (W := kW_131) a2 (by decide) (by decide)
  obtain ⟨t3, c1, c2, c3⟩ := r_oneIs (W := kW_132) b2 (by decide) (by decide)
  obtain ⟨t4, d1, d2, d3⟩ := r_oneIs (W := kW_133) c2 (by decide) (by decide)
  obtain ⟨t5, e1, e2, e3⟩ := r_oneIs (W := kW_134) d2 (by decide) (by decide)
  rw [a1, Option.bind_some, w0]
  dsimp only
  by_cases v0 : v = 0
  · rw [if_pos (decide_eq_true v0)]
    exact ⟨t1, by rw [hB, v0]; rfl, hlt, a3⟩
  rw [if_neg (by rw [decide_eq_true_eq]; exact v0), b1, Option.bind_some, w1]
  dsimp only
  by_cases v1 : v = 1
  · rw [if_pos (decide_eq_true v1)]
    exact ⟨t2, by rw [hB, v1]; rfl, hlt, out_t a3 b3⟩
  rw [if_neg (by rw [decide_eq_true_eq]; exact v1), c1, Option.bind_some, w2]
  dsimp only
  by_cases v2 : v = 2
  · rw [if_pos (decide_eq_true v2)]
    exact ⟨t3, by rw [hB, v2]; rfl, hlt, out_t (out_t a3 b3) c3⟩
  rw [if_neg (by rw [decide_eq_true_eq]; exact v2), d1, Option.bind_some, w3]
  dsimp only
  by_cases v3 : v = 3
  · rw [if_pos (decide_eq_true v3)]
    exact ⟨t4, by rw [hB, v3]; rfl, hlt, out_t (out_t (out_t a3 b3) c3) d3⟩
  rw [if_neg (by rw [decide_eq_true_eq]; exact v3), e1, Option.bind_some, w4]
  dsimp only
  by_cases v4 : v = 4
  · rw [if_pos (decide_eq_true v4)]
    exact ⟨t5, by rw [hB, v4]; rfl, hlt, out_t (out_t (out_t (out_t a3 b3) c3) d3) e3⟩
  · rw [if_neg (by rw [decide_eq_true_eq]; exact v4)]
    exact ⟨t5, by rw [hB, if_pos (by omega)]; rfl, hlt, out_t (out_t (out_t (out_t a3 b3) c3) d3) e3⟩
theorem or_n {a b : Nat} (ha : a < 32) (hb : b < 32) : nI a ||| nI b = nI (a ||| b) ∧ a ||| b < 32 := by
  have : ∀ a b : Fin 32, nI a.1 ||| nI b.1 = nI (a.1 ||| b.1) ∧ a.1 ||| b.1 < 32 := by decide +kernel
  exact this ⟨a, ha⟩ ⟨b, hb⟩
theorem txs_s {ts : List (List Nat)} {f m : Nat} (h : f + (m + 1) ≤ ts.length) : txs ts f (m + 1) = ts.getD f [] :: txs ts (f + 1) m := by
  unfold txs
  rw [List.drop_eq_getElem_cons (show f < ts.length by omega), List.take_succ_cons, List.getD_eq_getElem?_getD, List.getElem?_eq_getElem (by omega)]; rfl
theorem r_flsL {ts : List (List Nat)} {f m : Nat} (hf : f + m ≤ ts.length) : ∀ (d N q g : Nat) (t : uS), q + d = m → d + 1 ≤ N → g < 32 → rSt t ts → ∃ t1 : uS, fn_X12_flagsOf_5 N (nI f) (nI m) (nI g) (nI q) t = some (t1, nI ((txs ts (f + q) d).foldl (fun a w => a ||| flB w) g)) ∧ (txs ts (f + q) d).foldl (fun a w => a ||| flB w) g < 32 ∧ out onwI onwF t t1 := by
  intro d
  induction d with
  | zero =>
    intro N q g t hq hN hg hs
    obtain ⟨n1, rfl⟩ : ∃ n1, N = n1 + 1 := ⟨N - 1, by omega⟩
    have hl := hs
    obtain ⟨bg, -, -, l3, -⟩ := hl
    refine ⟨t, ?_, hg, out_r⟩
    show fb_X12_flagsOf_5 _ _ _ _ _ _ = _
    unfold fb_X12_flagsOf_5
    rw [if_pos (nI_le (by omega) (by omega))]
    rfl
  | succ d ih =>
    intro N q g t hq hN hg hs
    obtain ⟨n1, rfl⟩ : ∃ n1, N = n1 + 1 := ⟨N - 1, by omega⟩
    have hl := hs
    obtain ⟨bg, -, -, l3, -⟩ := hl
    obtain ⟨t1, a1, a2, a3⟩ := r_oneS hs (j := f + q) (by omega)
    obtain ⟨t2, b1, b2, b3⟩ := r_flagOf a2
    obtain ⟨o1, o2⟩ := or_n hg b2
    have o3 := out_t (onw1 a3) (onw2 b3)
    obtain ⟨t3, c1, c2, c3⟩ := ih n1 (q + 1) (g ||| flB (ts.getD (f + q) [])) t2 (by omega) (by omega) o2 (onwT hs o3)
    refine ⟨t3, ?_, ?_, out_t o3 c3⟩
    · show fb_X12_flagsOf_5 (fn_X12_flagsOf_5 n1) _ _ _ _ _ = _
      unfold fb_X12_flagsOf_5
      rw [if_neg (nI_ge (by omega) (by omega)), nI_add, a1, Option.bind_some, b1, Option.bind_some, nI_1, o1, c1, txs_s (by omega)]
      rfl
    · rw [txs_s (by omega)]; exact c2
theorem r_flagsOf {ts : List (List Nat)} {f m : Nat} {t : uS} (hf : f + m ≤ ts.length) (hs : rSt t ts) : ∃ t1 : uS, fn_X12_flagsOf (nI f) (nI m) t = some (t1, nI (flL 2 0 (txs ts f m))) ∧ flL 2 0 (txs ts f m) < 32 ∧ out onwI onwF t t1 := by
  have hl := hs
  obtain ⟨bg, -, -, l3, -⟩ := hl
  obtain ⟨t1, a1, a2, a3⟩ := r_flsL hf m 1000000 0 0 t (by omega) (by omega) (by omega) hs
  exact ⟨t1, a1, a2, a3⟩
