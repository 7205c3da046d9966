/-! the reference: a test that is no compound -/
noncomputable def vM (m r : Nat) (nm fo : Bool) (ks : List (List Nat)) (f L : Nat) (v : List Nat) : Bool := decide (m ≠ 3) && anyB (fun k => mB m r nm (fl fo v) (fl fo (ks.getD (f + k) []))) L 0
def leI (k f : Nat) : Prop := k = 1079 ∧ (f = 21 ∨ f = 23 ∨ f = 24 ∨ f = 25 ∨ f = 27 ∨ f = 109 ∨ f = 110)
def leF (k _f : Nat) : Prop := k = 1093 ∨ k = 1094 ∨ k = 1095 ∨ k = 1141 ∨ k = 1142
def kwI (k f : Nat) : Prop := k = 1079 ∧ f = 27
def kwF (k _f : Nat) : Prop := k = 1095
theorem leO1 {t t1 : uS} (h : out vlI mkF t t1) : out leI leF t t1 := out_w h (fun k f z => by unfold vlI at z; unfold leI; omega) (fun k f z => by unfold mkF at z; unfold leF; omega)
theorem leO2 {t t1 : uS} (h : out onI onF t t1) : out leI leF t t1 := out_w h (fun k f z => by unfold onI at z; unfold leI; omega) (fun k f z => by unfold onF at z; unfold leF; omega)
theorem leO3 {t t1 : uS} (h : out kwI kwF t t1) : out leI leF t t1 := out_w h (fun k f z => by unfold kwI at z; unfold leI; omega) (fun k f z => by unfold kwF at z; unfold leF; omega)
/-- a test's keys and ways, as the reference holds them -/
def rCx (t : uS) (n m r c p f L : Nat) (ts : List (List Nat)) : Prop := rHw t n m r c ∧ rSt t ts ∧ t.F 1104 n = nI f ∧ t.F 1105 n = nI L ∧ f + L ≤ ts.length ∧ L ≤ 10 ∧ t.F 1112 n = nI p ∧ p < 3
theorem rCx.o {t t1 : uS} {n m r c p f L : Nat} {ts : List (List Nat)} (h : rCx t n m r c p f L ts) (o : out leI leF t t1) : rCx t1 n m r c p f L ts := by
  obtain ⟨h1, h2, h3, h4, h5, h6, h7, h8⟩ := h
  have F : ∀ k j : Nat, ¬ leF k j → t1.F k j = t.F k j := fun k j hk => o.2.2 k j hk
  exact ⟨h1.fr (fun k _ _ => F _ _ (by unfold leF; omega)), h2.fr (fun k j _ => F _ _ (by unfold leF; omega)), (F _ _ (by unfold leF; omega)).trans h3, (F _ _ (by unfold leF; omega)).trans h4, h5, h6, (F _ _ (by unfold leF; omega)).trans h7, h8⟩
theorem rFl.o {t t1 : uS} {fs : List (List Nat × List Nat)} {PI PF : Nat → Nat → Prop} (h : rFl t fs) (o : out PI PF t t1) (hI : ¬ PI 1079 14) (hF : ∀ k f : Nat, 1087 ≤ k → k ≤ 1092 → ¬ PF k f) : rFl t1 fs := by
  refine ⟨(o.2.1 _ _ hI).trans h.1, fun f hf => ?_⟩
  obtain ⟨⟨a, a1, a2, a3, a4⟩, ⟨b, b1, b2, b3, b4⟩⟩ := h.2 f hf
  exact ⟨⟨a, a1, (o.2.2 _ _ (hF _ _ (by omega) (by omega))).trans a2, (o.2.2 _ _ (hF _ _ (by omega) (by omega))).trans a3, fun j hj => (o.2.2 _ _ (hF _ _ (by omega) (by omega))).trans (a4 j hj)⟩, ⟨b, b1, (o.2.2 _ _ (hF _ _ (by omega) (by omega))).trans b2, (o.2.2 _ _ (hF _ _ (by omega) (by omega))).trans b3, fun j hj => (o.2.2 _ _ (hF _ _ (by omega) (by omega))).trans (b4 j hj)⟩⟩
def rAc (t : uS) (x : Nat) (b : Bool) : Prop := t.I 1079 109 = nI x ∧ t.I 1079 110 = bI b
theorem r_val1 {n m r c p f L x : Nat} {ts : List (List Nat)} {a : List Nat} {t : uS} {b : Bool} (h : rCx t n m r c p f L ts) (h1 : r1 t a) (hx : rAc t x b) : ∃ t1 : uS, fn_X12_value (nI n) t = some t1 ∧ rAc t1 (x + 1) (b || vM m r (decide (c = 2)) (decide (c = 1)) ts f L a) ∧ out vlI mkF t t1 := by
  obtain ⟨g1, g2, g3, g4, g5, g6, g7, g8⟩ := h
  obtain ⟨t1, b1, w1, w2, w3, w4, w5⟩ := r_value g5 g6 g1 h1 g2 g3 g4 hx.1 hx.2
  refine ⟨t1, w1, ⟨w2, ?_⟩, w5⟩
  rw [w3]
  congr 1
  rw [Bool.eq_iff_iff, w4, Bool.or_eq_true]
  unfold vM
  rw [Bool.and_eq_true, decide_eq_true_eq, anyB_iff]
  exact ⟨fun z => z.imp id (fun ⟨y, j, j1, j2⟩ => ⟨y, j, Nat.zero_le _, by omega, mB_iff.mpr j2⟩), fun z => z.imp id (fun ⟨y, j, _, j1, j2⟩ => ⟨y, j, by omega, mB_iff.mp j2⟩)⟩
theorem r_oneV {t : uS} {fs : List (List Nat × List Nat)} {i : Nat} (h : rFl t fs) (ho : fsO fs) (hi : i < fs.length) : ∃ t1 : uS, fn_X12_oneValue (nI i) t = some t1 ∧ r1 t1 (fvl fs i) ∧ out onI onF t t1 := by
  obtain ⟨a, a1, a2, a3, a4⟩ := (h.2 i hi).2
  have b2 := (ho.2 i).2.1
  have b3 := tot_len fs
  have b4 := ho.1
  generalize fvl fs i = y at *
  unfold fn_X12_oneValue
  rw [g_1091 (by omega), Option.bind_some, a3]
  have e : fn_X12_oneValue_12 uFu (nI i) 0 (wI t 1079 21 (nI y.length)) = some (cpy (wI t 1079 21 (nI y.length)) 1093 0 0 y.length (fun j => nI (y.getD j 0))) := by
    refine cpy0 (F := fun N x s => fn_X12_oneValue_12 N (nI i) x s) (fin := fun s => some s) ?_ ?_ (by show _ < 1000000; omega)
    · intro N q hq
      show fb_X12_oneValue_12 (fn_X12_oneValue_12 N) (nI i) (nI q) _ = _
      unfold fb_X12_oneValue_12
      rw [cpy_I, wI_e, if_neg (nI_ge (by omega) (by omega)), g_1090 (by omega), Option.bind_some, cpy_Fo (by decide), wI_F, a2, nI_add, g_1092 (by omega), Option.bind_some, cpy_Fo (by decide), wI_F, a4 q hq, p_1093 (by omega), Option.bind_some, nI_1 q, Nat.zero_add]
    · intro N
      show fb_X12_oneValue_12 (fn_X12_oneValue_12 N) (nI i) (nI y.length) _ = _
      unfold fb_X12_oneValue_12
      rw [cpy_I, wI_e, if_pos (nI_le (Nat.le_refl _) (by omega))]
  refine ⟨_, e, ⟨by rw [cpy_I, wI_e], by omega, b2, fun j hj => ?_⟩, out_t (out_I out_r ⟨rfl, rfl⟩) (out_cpy (fun _ => rfl))⟩
  have := cpy_Fe (s := wI t 1079 21 (nI y.length)) (K := 1093) (off := 0) (i := 0) (L := y.length) (g := fun i => nI (y.getD i 0)) (Nat.zero_le j) hj
  rw [Nat.zero_add] at this
  exact this
theorem r_keepW {t : uS} {w : List Nat} (h : r1 t w) (hw : w.length ≤ 4000) : ∃ t1 : uS, fn_X12_keepWhole t = some t1 ∧ rWh t1 w ∧ out kwI kwF t t1 := by
  obtain ⟨h1, h2, h3, h4⟩ := h
  unfold fn_X12_keepWhole
  rw [h1]
  have e : fn_X12_keepWhole_10 uFu 0 (wI t 1079 27 (nI w.length)) = some (cpy (wI t 1079 27 (nI w.length)) 1095 0 0 w.length (fun j => nI (w.getD j 0))) := by
    refine cpy0 (F := fun N x s => fn_X12_keepWhole_10 N x s) (fin := fun s => some s) ?_ ?_ (by show _ < 1000000; omega)
    · intro N q hq
      show fb_X12_keepWhole_10 (fn_X12_keepWhole_10 N) (nI q) _ = _
      unfold fb_X12_keepWhole_10
      rw [cpy_I, wI_o (by omega), h1, if_neg (nI_ge (by omega) (by omega)), g_1093 (by omega), Option.bind_some, cpy_Fo (by decide), wI_F, h4 q hq, p_1095 (by omega), Option.bind_some, nI_1 q, Nat.zero_add]
    · intro N
      show fb_X12_keepWhole_10 (fn_X12_keepWhole_10 N) (nI w.length) _ = _
      unfold fb_X12_keepWhole_10
      rw [cpy_I, wI_o (by omega), h1, if_pos (nI_le (Nat.le_refl _) (by omega))]
  refine ⟨_, e, ⟨by rw [cpy_I, wI_e], hw, h3, fun j hj => ?_⟩, out_t (out_I out_r ⟨rfl, rfl⟩) (out_cpy (fun _ => rfl))⟩
  have := cpy_Fe (s := wI t 1079 27 (nI w.length)) (K := 1095) (off := 0) (i := 0) (L := w.length) (g := fun i => nI (w.getD i 0)) (Nat.zero_le j) hj
  rw [Nat.zero_add] at this
  exact this
/-- the part of an address, in the reference -/
theorem r_part {t : uS} {n p : Nat} {v : List Nat} (hn : n < 520) (hp : t.F 1112 n = nI p) (hp3 : p < 3) (h1 : r1 t v) (hv : v = [] ∨ (adr v).isSome = true) : ∃ t1 : uS, fn_X12_part (nI n) (oI (adr v)) t = some t1 ∧ r1 t1 (ptV p v) ∧ out onI onF t t1 := by
  unfold fn_X12_part ptV
  rw [g_1112 hn, Option.bind_some, hp]
  by_cases p0 : p = 0
  · rw [if_pos (show nI p = 0 by rw [p0]; rfl), if_pos p0]
    exact ⟨t, rfl, h1, out_r⟩
  rw [if_neg (show ¬ nI p = 0 from nI_ne (b := 0) (by omega) (by decide) p0), if_neg p0, Option.bind_some]
  obtain ⟨a1, a2, a3, a4⟩ := h1
  have cut : ∀ j : Nat, j ≤ v.length → r1 (wI t 1079 21 (nI j)) (sub v 0 j) := by
    intro j hj
    have sl : (sub v 0 j).length = j := sub_len hj (Nat.zero_le _)
    exact ⟨by rw [wI_e, sl], by omega, sub_by a3, fun q hq => by rw [wI_F, sub_get (by omega), Nat.zero_add]; exact a4 q (by omega)⟩
  have sh : ∀ j : Nat, j < v.length → fn_X12_part_54 uFu (nI j) (nI (v.length - (j + 1))) 0 t = some (wI (cpy t 1093 0 0 (v.length - (j + 1)) (fun q => nI (v.getD (j + 1 + q) 0))) 1079 21 (nI (v.length - (j + 1)))) := by
    intro j hj
    refine cpy0 (F := fun N x s => fn_X12_part_54 N (nI j) (nI (v.length - (j + 1))) x s) (fin := fun s => some (wI s 1079 21 (nI (v.length - (j + 1))))) ?_ ?_ (by show _ < 1000000; omega)
    · intro N q hq
      show fb_X12_part_54 (fn_X12_part_54 N) (nI j) (nI (v.length - (j + 1))) (nI q) _ = _
      unfold fb_X12_part_54
      rw [if_neg (nI_ge (by omega) (by omega)), nI_1, nI_add, g_1093 (by omega), Option.bind_some]
      have e : (cpy t 1093 0 0 q (fun q => nI (v.getD (j + 1 + q) 0))).F 1093 (j + 1 + q) = nI (v.getD (j + 1 + q) 0) := by
        rw [cpy_F, if_neg (by omega)]; exact a4 (j + 1 + q) (by omega)
      rw [e, p_1093 (by omega), Option.bind_some, nI_1 q, Nat.zero_add]
    · intro N
      show fb_X12_part_54 (fn_X12_part_54 N) (nI j) (nI (v.length - (j + 1))) (nI (v.length - (j + 1))) _ = _
      unfold fb_X12_part_54
      rw [if_pos (nI_le (Nat.le_refl _) (by omega))]
  cases e : adr v with
  | none =>
    have hv0 : v = [] := hv.elim id (fun z => by rw [e] at z; cases z)
    subst hv0
    have c0 : r1 (wI t 1079 21 0) [] := ⟨wI_e _ _ _ _, by simp, bys_nil, fun j hj => absurd hj (by simp)⟩
    rw [show oI (none : Option Nat) = -1 from rfl]
    by_cases p1 : p = 1
    · rw [if_pos (show nI p = 1 by rw [p1]; rfl), if_neg (by decide)]
      exact ⟨_, rfl, c0, out_I out_r ⟨rfl, rfl⟩⟩
    · rw [if_neg (show ¬ nI p = 1 from nI_ne (b := 1) (by omega) (by decide) p1), if_neg (by decide)]
      refine ⟨wI t 1079 21 0, ?_, c0, out_I out_r ⟨rfl, rfl⟩⟩
      show fb_X12_part_54 _ _ _ _ _ = _
      unfold fb_X12_part_54
      rw [if_pos (by decide)]
  | some j =>
    have hf : fnb v 64 0 v.length = some j := by
      unfold adr at e
      split at e
      · cases e
      · rename_i q hq
        split at e
        · cases e; exact hq
        · cases e
    have hj := fnb_lt _ _ _ hf
    rw [show oI (some j) = nI j from rfl, hf]
    dsimp only
    by_cases p1 : p = 1
    · rw [if_pos (show nI p = 1 by rw [p1]; rfl), if_pos (show (0 : Int32) ≤ nI j from nI_le (a := 0) (Nat.zero_le _) (by omega)), if_pos p1]
      exact ⟨_, rfl, cut j (by omega), out_I out_r ⟨rfl, rfl⟩⟩
    · rw [if_neg (show ¬ nI p = 1 from nI_ne (b := 1) (by omega) (by decide) p1), if_pos (show (0 : Int32) ≤ nI j from nI_le (a := 0) (Nat.zero_le _) (by omega)), if_neg p1, a1, nI_sub (by omega), show nI (v.length - j) - 1 = nI (v.length - j - 1) from nI_sub (b := 1) (by omega), show v.length - j - 1 = v.length - (j + 1) by omega, sh j (by omega)]
      have sl : (sub v (j + 1) v.length).length = v.length - (j + 1) := sub_len (Nat.le_refl _) (by omega)
      refine ⟨_, rfl, ⟨by rw [wI_e, sl], by omega, sub_by a3, fun q hq => ?_⟩, out_I (out_t out_r (out_cpy (fun _ => rfl))) ⟨rfl, rfl⟩⟩
      rw [wI_F, sub_get (by omega)]
      have := cpy_Fe (s := t) (K := 1093) (off := 0) (i := 0) (L := v.length - (j + 1)) (g := fun q => nI (v.getD (j + 1 + q) 0)) (Nat.zero_le q) (by omega)
      rw [Nat.zero_add] at this
      exact this
