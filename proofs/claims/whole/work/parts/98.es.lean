/-! the reference: words, envelope, flags, counts -/
def twI (k f : Nat) : Prop := k = 1079 ∧ f = 23
def twF (k _f : Nat) : Prop := k = 1094
theorem leO4 {t t1 : uS} (h : out twI twF t t1) : out leI leF t t1 := out_w h (fun k f z => by unfold twI at z; unfold leI; omega) (fun k f z => by unfold twF at z; unfold leF; omega)
theorem stget_n {W : List Nat} {i : Nat} (hi : i < W.length) (hl : W.length ≤ 1000) : stget W (nI i) = some (nI (W.getD i 0)) := stget_c hi (by omega)
theorem r_twoW {W : List Nat} {t : uS} (hW : ∀ c ∈ W, c < 128) (hl : W.length ≤ 1000) : ∃ t1 : uS, fn_X12_twoWord W t = some t1 ∧ r2 t1 W ∧ out twI twF t t1 := by
  have hby : bys W := by
    intro j
    by_cases c : j < W.length
    · have := hW _ (getD_mem c); omega
    · rw [getDn_out (by omega)]; decide
  unfold fn_X12_twoWord
  have e : fn_X12_twoWord_10 uFu W 0 (wI t 1079 23 (nI W.length)) = some (cpy (wI t 1079 23 (nI W.length)) 1094 0 0 W.length (fun j => nI (W.getD j 0))) := by
    refine cpy0 (F := fun N x s => fn_X12_twoWord_10 N W x s) (fin := fun s => some s) ?_ ?_ (by show _ < 1000000; omega)
    · intro N q hq
      show fb_X12_twoWord_10 (fn_X12_twoWord_10 N) W (nI q) _ = _
      unfold fb_X12_twoWord_10
      rw [cpy_I, wI_e, if_neg (nI_ge (by omega) (by omega)), stget_n hq hl, Option.bind_some, p_1094 (by omega), Option.bind_some, nI_1 q, Nat.zero_add]
    · intro N
      show fb_X12_twoWord_10 (fn_X12_twoWord_10 N) W (nI W.length) _ = _
      unfold fb_X12_twoWord_10
      rw [cpy_I, wI_e, if_pos (nI_le (Nat.le_refl _) (by omega))]
  refine ⟨_, e, ⟨by rw [cpy_I, wI_e], hl, hby, fun j hj => ?_⟩, out_t (out_I out_r ⟨rfl, rfl⟩) (out_cpy (fun _ => rfl))⟩
  have := cpy_Fe (s := wI t 1079 23 (nI W.length)) (K := 1094) (off := 0) (i := 0) (L := W.length) (g := fun i => nI (W.getD i 0)) (Nat.zero_le j) hj
  rw [Nat.zero_add] at this
  exact this
/-- one and two, without case -/
theorem r_like {t : uS} {a b : List Nat} (h1 : r1 t a) (h2 : r2 t b) : fn_X12_likeLow t = some (eqT true a b) := by
  obtain ⟨a1, a2, a3, a4⟩ := h1
  obtain ⟨b1, b2, b3, b4⟩ := h2
  unfold fn_X12_likeLow eqT
  rw [a1, b1]
  by_cases c : a.length = b.length
  · rw [if_pos (by rw [c]), decide_eq_true c, Bool.true_and, cmp0 (F := fun n b1 x1 => fn_X12_likeLow_19 n b1 x1 t) (p := fun k => eqB true (a.getD k 0) (b.getD k 0)) (fin := fun b => some b) (L := b.length) (fun n b0 k hk => ?_) (by show _ < 1000000; omega) true, Bool.true_and]
    show fb_X12_likeLow_19 (fn_X12_likeLow_19 n) b0 (nI k) t = _
    unfold fb_X12_likeLow_19
    rw [a1]
    by_cases d : b.length ≤ k
    · rw [if_pos (nI_le (by omega) (by omega)), if_pos d]
    · rw [if_neg (nI_ge (by omega) (by omega)), if_neg d]
      cases b0 with
      | false => rfl
      | true =>
        rw [if_pos rfl, if_pos rfl, g_1093 (by omega), Option.bind_some, a4 k (by omega), r_lowN (by have := a3 k; omega), Option.bind_some, g_1094 (by omega), Option.bind_some, b4 k (by omega), r_lowN (by have := b3 k; omega), Option.bind_some, nI_1]
        unfold eqB
        rw [if_pos rfl]
        have e := nI_eq (a := lo (a.getD k 0)) (b := lo (b.getD k 0)) (by have := lo_lt (a3 k); omega) (by have := lo_lt (b3 k); omega)
        by_cases w : lo (a.getD k 0) = lo (b.getD k 0)
        · rw [if_pos (e.mpr w), decide_eq_true w]
        · rw [if_neg (fun z => w (e.mp z)), decide_eq_false w]
  · rw [if_neg (by rw [nI_eq (by omega) (by omega)]; exact c), decide_eq_false c, Bool.false_and]
    show fb_X12_likeLow_19 (fn_X12_likeLow_19 999999) false (nI 0) t = _
    unfold fb_X12_likeLow_19
    rw [if_neg (show ¬ (false = true) by decide)]
    split <;> rfl
theorem eqT_W (a W : List Nat) : eqT true a W = eqW a W := by
  unfold eqT eqW eqF eqB
  rw [← Bool.decide_and]
  apply decide_eq_decide.mpr
  simp only [Nat.zero_add, if_true, decide_eq_true_eq]
theorem r_oneIs {t : uS} {a W : List Nat} (h1 : r1 t a) (hW : ∀ c ∈ W, c < 128) (hl : W.length ≤ 1000) : ∃ t1 : uS, fn_X12_oneIs W t = some (t1, eqW a W) ∧ r1 t1 a ∧ out twI twF t t1 := by
  obtain ⟨t1, a1, a2, a3⟩ := r_twoW (t := t) hW hl
  have h1' : r1 t1 a := h1.mk (a3.2.1 _ _ (by unfold twI; omega)) (fun j => a3.2.2 _ _ (by unfold twF; omega))
  refine ⟨t1, ?_, h1', a3⟩
  unfold fn_X12_oneIs
  rw [a1, Option.bind_some, r_like h1' a2, Option.bind_some, eqT_W]
theorem r_oneS {t : uS} {ts : List (List Nat)} {j : Nat} (h : rSt t ts) (hj : j < ts.length) : ∃ t1 : uS, fn_X12_oneString (nI j) t = some t1 ∧ r1 t1 (ts.getD j []) ∧ out onI onF t t1 := by
  obtain ⟨bg, s1, s2, s3, s4⟩ := h
  obtain ⟨p, p1, p2, p3, pl, p4⟩ := s1 j hj
  refine ⟨_, r_one s1 hj (by omega) s2, rOne_cpy (s4 j) (by omega), out_t (out_I out_r ⟨rfl, rfl⟩) (out_cpy (fun _ => rfl))⟩
/-- a text in a row of the reference's own -/
def rTe (t : uS) (kf kr : Nat) (x : List Nat) : Prop := t.I 1079 kf = nI x.length ∧ x.length ≤ 101 ∧ bys x ∧ ∀ j : Nat, j < x.length → t.F kr j = nI (x.getD j 0)
theorem rTe.o {t t1 : uS} {kf kr : Nat} {x : List Nat} {PI PF : Nat → Nat → Prop} (h : rTe t kf kr x) (o : out PI PF t t1) (hI : ¬ PI 1079 kf) (hF : ∀ f : Nat, ¬ PF kr f) : rTe t1 kf kr x := by
  obtain ⟨h1, h2, h3, h4⟩ := h
  exact ⟨(o.2.1 _ _ hI).trans h1, h2, h3, fun j hj => (o.2.2 _ _ (hF j)).trans (h4 j hj)⟩
theorem r1_cpy {t : uS} {x : List Nat} (hl : x.length ≤ 4100) (hb : bys x) : r1 (cpy (wI t 1079 21 (nI x.length)) 1093 0 0 x.length (fun j => nI (x.getD j 0))) x := rOne_cpy hb hl
theorem r_oneF {t : uS} {x : List Nat} (h : rTe t 93 1137 x) : ∃ t1 : uS, fn_X12_oneFrom t = some t1 ∧ r1 t1 x ∧ out onI onF t t1 := by
  obtain ⟨h1, h2, h3, h4⟩ := h
  unfold fn_X12_oneFrom
  rw [h1]
  refine ⟨cpy (wI t 1079 21 (nI x.length)) 1093 0 0 x.length (fun j => nI (x.getD j 0)), ?_, r1_cpy (by omega) h3, out_t (out_I out_r ⟨rfl, rfl⟩) (out_cpy (fun _ => rfl))⟩
  refine cpy0 (F := fun N x s => fn_X12_oneFrom_10 N x s) (fin := fun s => some s) ?_ ?_ (by show _ < 1000000; omega)
  · intro N q hq
    show fb_X12_oneFrom_10 (fn_X12_oneFrom_10 N) (nI q) _ = _
    unfold fb_X12_oneFrom_10
    rw [cpy_I, wI_o (by omega), h1, if_neg (nI_ge (by omega) (by omega)), g_1137 (by omega), Option.bind_some, cpy_Fo (by decide), wI_F, h4 q hq, p_1093 (by omega), Option.bind_some, nI_1 q, Nat.zero_add]
  · intro N
    show fb_X12_oneFrom_10 (fn_X12_oneFrom_10 N) (nI x.length) _ = _
    unfold fb_X12_oneFrom_10
    rw [cpy_I, wI_o (by omega), h1, if_pos (nI_le (Nat.le_refl _) (by omega))]
theorem r_oneT {t : uS} {x : List Nat} (h : rTe t 91 1136 x) : ∃ t1 : uS, fn_X12_oneTo t = some t1 ∧ r1 t1 x ∧ out onI onF t t1 := by
  obtain ⟨h1, h2, h3, h4⟩ := h
  unfold fn_X12_oneTo
  rw [h1]
  refine ⟨cpy (wI t 1079 21 (nI x.length)) 1093 0 0 x.length (fun j => nI (x.getD j 0)), ?_, r1_cpy (by omega) h3, out_t (out_I out_r ⟨rfl, rfl⟩) (out_cpy (fun _ => rfl))⟩
  refine cpy0 (F := fun N x s => fn_X12_oneTo_10 N x s) (fin := fun s => some s) ?_ ?_ (by show _ < 1000000; omega)
  · intro N q hq
    show fb_X12_oneTo_10 (fn_X12_oneTo_10 N) (nI q) _ = _
    unfold fb_X12_oneTo_10
    rw [cpy_I, wI_o (by omega), h1, if_neg (nI_ge (by omega) (by omega)), g_1136 (by omega), Option.bind_some, cpy_Fo (by decide), wI_F, h4 q hq, p_1093 (by omega), Option.bind_some, nI_1 q, Nat.zero_add]
  · intro N
    show fb_X12_oneTo_10 (fn_X12_oneTo_10 N) (nI x.length) _ = _
    unfold fb_X12_oneTo_10
    rw [cpy_I, wI_o (by omega), h1, if_pos (nI_le (Nat.le_refl _) (by omega))]
/-- an address of the envelope: its part, as a value -/
theorem r_addV {n m r c p f L x : Nat} {ts : List (List Nat)} {t t1 : uS} {v : List Nat} {b : Bool} (h : rCx t n m r c p f L ts) (o : out onI onF t t1) (h1 : r1 t1 v) (hv : v = [] ∨ (adr v).isSome = true) (ha : rAc t x b) : ∃ t2 : uS, ((fn_X12_atOf t1).bind fun v4 => (fn_X12_part (nI n) v4 t1).bind fun s6 => fn_X12_value (nI n) s6) = some t2 ∧ rAc t2 (x + 1) (b || vM m r (decide (c = 2)) (decide (c = 1)) ts f L (ptV p v)) ∧ out leI leF t t2 := by
  have hc1 := h.o (leO2 o)
  rw [r_atOf (w := v) (t := t1) h1, Option.bind_some]
  obtain ⟨t2, p1, p2, p3⟩ := r_part (p := p) h.1.1 hc1.2.2.2.2.2.2.1 hc1.2.2.2.2.2.2.2 h1 hv
  rw [p1, Option.bind_some]
  have o2 := out_t (leO2 o) (leO2 p3)
  obtain ⟨t3, q1, q2, q3⟩ := r_val1 (h.o o2) p2 (x := x) (b := b) ⟨by rw [p3.2.1 _ _ (by unfold onI; omega), o.2.1 _ _ (by unfold onI; omega)]; exact ha.1, by rw [p3.2.1 _ _ (by unfold onI; omega), o.2.1 _ _ (by unfold onI; omega)]; exact ha.2⟩
  exact ⟨t3, q1, q2, out_t o2 (leO1 q3)⟩
def onwI (k f : Nat) : Prop := k = 1079 ∧ (f = 21 ∨ f = 23)
def onwF (k _f : Nat) : Prop := k = 1093 ∨ k = 1094
theorem leO5 {t t1 : uS} (h : out onwI onwF t t1) : out leI leF t t1 := out_w h (fun k f z => by unfold onwI at z; unfold leI; omega) (fun k f z => by unfold onwF at z; unfold leF; omega)
theorem onw1 {t t1 : uS} (h : out onI onF t t1) : out onwI onwF t t1 := out_w h (fun k f z => ⟨z.1, Or.inl z.2⟩) (fun k f z => Or.inl z)
theorem onw2 {t t1 : uS} (h : out twI twF t t1) : out onwI onwF t t1 := out_w h (fun k f z => ⟨z.1, Or.inr z.2⟩) (fun k f z => Or.inr z)
def evR (x1 : Int32) (b2 b3 : Bool) (s : uS) : Option uS := if b2 = true then ((fn_X12_oneFrom s).bind fun s5 => (fn_X12_atOf s5).bind fun v7 => (fn_X12_part x1 v7 s5).bind fun s9 => (fn_X12_value x1 s9).bind fun s11 => fb_X12_envelope_99 x1 b3 s11) else (fb_X12_envelope_99 x1 b3 s)
theorem r_env0 {n f a : Nat} {ts : List (List Nat)} (hn : n < 520) (hf : f + a ≤ ts.length) : ∀ (d N q : Nat) (b2 b3 : Bool) (t : uS), q + d = a → d + 1 ≤ N → rSt t ts → t.F 1102 n = nI f → t.F 1103 n = nI a → ∃ t1 : uS, fn_X12_envelope_7 N (nI n) b2 b3 (nI q) t = evR (nI n) (b2 || anyB (fun k => eqW (ts.getD (f + k) []) kW_135) d q) (b3 || anyB (fun k => eqW (ts.getD (f + k) []) kW_136) d q) t1 ∧ out onwI onwF t t1 := by
  intro d
  induction d with
  | zero =>
    intro N q b2 b3 t hq hN hs h1 h2
    obtain ⟨n1, rfl⟩ : ∃ n1, N = n1 + 1 := ⟨N - 1, by omega⟩
    have hl := hs
    obtain ⟨bg, -, -, l3, -⟩ := hl
    refine ⟨t, ?_, out_r⟩
    show fb_X12_envelope_7 _ _ _ _ _ _ = _
    unfold fb_X12_envelope_7 anyB evR
    rw [g_1103 hn, Option.bind_some, h2, if_pos (nI_le (by omega) (by omega)), Bool.or_false, Bool.or_false]
  | succ d ih =>
    intro N q b2 b3 t hq hN hs h1 h2
    obtain ⟨n1, rfl⟩ : ∃ n1, N = n1 + 1 := ⟨N - 1, by omega⟩
    have hl := hs
    obtain ⟨bg, -, -, l3, -⟩ := hl
    obtain ⟨t1, a1, a2, a3⟩ := r_oneS hs (j := f + q) (by omega)
    show ∃ t1 : uS, fb_X12_envelope_7 (fn_X12_envelope_7 n1) _ _ _ _ _ = _ ∧ _
    unfold fb_X12_envelope_7
    rw [g_1103 hn, Option.bind_some, h2, if_neg (nI_ge (by omega) (by omega)), g_1102 hn, Option.bind_some, h1, nI_add, a1, Option.bind_some, anyB_s, anyB_s, ← Bool.or_assoc, ← Bool.or_assoc]
    have go : ∀ (t2 : uS), out onwI onwF t t2 → ∃ t3 : uS, fn_X12_envelope_7 n1 (nI n) (b2 || eqW (ts.getD (f + q) []) kW_135) (b3 || eqW (ts.getD (f + q) []) kW_136) (nI (q + 1)) t2 = evR (nI n) (b2 || eqW (ts.getD (f + q) []) kW_135 || anyB (fun k => eqW (ts.getD (f + k) []) kW_135) d (q + 1)) (b3 || eqW (ts.getD (f + q) []) kW_136 || anyB (fun k => eqW (ts.getD (f + k) []) kW_136) d (q + 1)) t3 ∧ out onwI onwF t t3 := by
      intro t2 o
      obtain ⟨t3, q1, q2⟩ := ih n1 (q + 1) (b2 || eqW (ts.getD (f + q) []) kW_135) (b3 || eqW (ts.getD (f + q) []) kW_136) t2 (by omega) (by omega) (hs.fr (fun k j _ => o.2.2 _ _ (by unfold onwF; omega))) ((o.2.2 _ _ (by unfold onwF; omega)).trans h1) ((o.2.2 _ _ (by unfold onwF; omega)).trans h2)
      exact ⟨t3, q1, out_t o q2⟩
    have e50 : ∀ (B : Bool) (t2 : uS), r1 t2 (ts.getD (f + q) []) → ∃ t3 : uS, fb_X12_envelope_50 (fn_X12_envelope_7 n1) (nI n) b3 (nI q) B t2 = fn_X12_envelope_7 n1 (nI n) B (b3 || eqW (ts.getD (f + q) []) kW_136) (nI (q + 1)) t3 ∧ out onwI onwF t2 t3 := by
      intro B t2 g
      unfold fb_X12_envelope_50
      rw [nI_1]
      cases b3 with
      | true => exact ⟨t2, rfl, out_r⟩
      | false =>
        obtain ⟨t3, c1, c2, c3⟩ := r_oneIs (W := kW_136) g (by decide) (by decide)
        rw [if_neg (by decide), c1, Option.bind_some, Bool.false_or]
        exact ⟨t3, by cases eqW (ts.getD (f + q) []) kW_136 <;> rfl, onw2 c3⟩
    cases b2 with
    | true =>
      rw [if_pos rfl]
      obtain ⟨t2, c1, c2⟩ := e50 true t1 a2
      rw [c1]
      exact go t2 (out_t (onw1 a3) c2)
    | false =>
      obtain ⟨t2, c1, c2, c3⟩ := r_oneIs (W := kW_135) a2 (by decide) (by decide)
      rw [if_neg (by decide), c1, Option.bind_some]
      obtain ⟨t3, d1, d2⟩ := e50 (eqW (ts.getD (f + q) []) kW_135) t2 c2
      have : (if (t2, eqW (ts.getD (f + q) []) kW_135).2 = true then fb_X12_envelope_50 (fn_X12_envelope_7 n1) (nI n) b3 (nI q) true (t2, eqW (ts.getD (f + q) []) kW_135).1 else fb_X12_envelope_50 (fn_X12_envelope_7 n1) (nI n) b3 (nI q) false (t2, eqW (ts.getD (f + q) []) kW_135).1) = fb_X12_envelope_50 (fn_X12_envelope_7 n1) (nI n) b3 (nI q) (eqW (ts.getD (f + q) []) kW_135) t2 := by cases eqW (ts.getD (f + q) []) kW_135 <;> rfl
      rw [this, d1]
      exact go t3 (out_t (onw1 a3) (out_t (onw2 c3) d2))
