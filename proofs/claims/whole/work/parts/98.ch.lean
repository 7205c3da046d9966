/-! the reference's parser once a fault is noted: every function comes to its end and keeps the fault -/
def fO (p : Nat) (t : uS) : Prop := p ≤ 2000 ∧ t.I 1079 40 = nI p ∧ (∃ m : Nat, m ≤ 520 ∧ t.I 1079 41 = nI m) ∧ lsO t
def FU (p : Nat) (t : uS) (A : Option uS) : Prop := ∃ t1 : uS, A = some t1 ∧ fO p t1 ∧ ol rdI rdF rNo t t1
def FV (p : Nat) (t : uS) (A : Option (uS × Int32)) : Prop := ∃ (t1 : uS) (v : Nat), A = some (t1, nI v) ∧ v < 520 ∧ fO p t1 ∧ ol rdI rdF rNo t t1
theorem FU.uu {p : Nat} {t : uS} {A : Option uS} {g : uS → Option uS} (h : FU p t A) (k : ∀ t1 : uS, fO p t1 → FU p t1 (g t1)) : FU p t (A.bind g) := by
  obtain ⟨t1, a, b, c⟩ := h
  obtain ⟨t2, d, e, f⟩ := k t1 b
  exact ⟨t2, by rw [a, Option.bind_some]; exact d, e, ol_t c f⟩
theorem FU.uv {p : Nat} {t : uS} {A : Option uS} {g : uS → Option (uS × Int32)} (h : FU p t A) (k : ∀ t1 : uS, fO p t1 → FV p t1 (g t1)) : FV p t (A.bind g) := by
  obtain ⟨t1, a, b, c⟩ := h
  obtain ⟨t2, v, d, d', e, f⟩ := k t1 b
  exact ⟨t2, v, by rw [a, Option.bind_some]; exact d, d', e, ol_t c f⟩
theorem FV.vu {p : Nat} {t : uS} {A : Option (uS × Int32)} {g : uS × Int32 → Option uS} (h : FV p t A) (k : ∀ (t1 : uS) (v : Nat), v < 520 → fO p t1 → FU p t1 (g (t1, nI v))) : FU p t (A.bind g) := by
  obtain ⟨t1, v, a, a', b, c⟩ := h
  obtain ⟨t2, d, e, f⟩ := k t1 v a' b
  exact ⟨t2, by rw [a, Option.bind_some]; exact d, e, ol_t c f⟩
theorem FV.vv {p : Nat} {t : uS} {A : Option (uS × Int32)} {g : uS × Int32 → Option (uS × Int32)} (h : FV p t A) (k : ∀ (t1 : uS) (v : Nat), v < 520 → fO p t1 → FV p t1 (g (t1, nI v))) : FV p t (A.bind g) := by
  obtain ⟨t1, v, a, a', b, c⟩ := h
  obtain ⟨t2, w, d, d', e, f⟩ := k t1 v a' b
  exact ⟨t2, w, by rw [a, Option.bind_some]; exact d, d', e, ol_t c f⟩
theorem FU.w {p : Nat} {t t0 : uS} {A : Option uS} (o : ol rdI rdF rNo t0 t) (h : FU p t A) : FU p t0 A := by
  obtain ⟨t1, a, b, c⟩ := h
  exact ⟨t1, a, b, ol_t o c⟩
theorem FV.w {p : Nat} {t t0 : uS} {A : Option (uS × Int32)} (o : ol rdI rdF rNo t0 t) (h : FV p t A) : FV p t0 A := by
  obtain ⟨t1, v, a, a', b, c⟩ := h
  exact ⟨t1, v, a, a', b, ol_t o c⟩
theorem fO.I {p f : Nat} {v : Int32} {t : uS} (h : fO p t) (a : f ≠ 40) (b : f ≠ 41) : fO p (wI t 1079 f v) := by
  obtain ⟨h1, h2, h3, h4⟩ := h
  exact ⟨h1, (wI_o (by omega)).trans h2, by rw [wI_o (by omega)]; exact h3, h4⟩
theorem fO.F {p k n : Nat} {v : Int32} {t : uS} (h : fO p t) (a : k ≠ 1099) (b : k ≠ 1100) : fO p (wF t k n v) := by
  obtain ⟨h1, h2, h3, h4⟩ := h
  refine ⟨h1, h2, h3, fun i hi => ?_⟩
  rw [wF_r (Ne.symm a), wF_r (Ne.symm b)]
  exact h4 i hi
theorem fO.lt {p : Nat} {t : uS} (h : fO p t) : 0 ≤ t.I 1079 40 := by rw [h.2.1]; exact nI_le (a := 0) (Nat.zero_le _) (by have := h.1; omega)
theorem fO.nl {p : Nat} {t : uS} (h : fO p t) : ¬ t.I 1079 40 < 0 := by rw [h.2.1]; exact nI_nlt (b := 0) (Nat.zero_le _) (by have := h.1; omega)
theorem fO.U {p : Nat} {t : uS} (h : fO p t) : FU p t (some t) := ⟨t, rfl, h, ol_r⟩
theorem fO.V {p v : Nat} {t : uS} (h : fO p t) (hv : v < 520) : FV p t (some (t, nI v)) := ⟨t, v, rfl, hv, h, ol_r⟩
theorem fO.is {p : Nat} {t : uS} (h : fO p t) (c : Int32) : fn_X12_is c t = some false := by unfold fn_X12_is; rw [if_pos h.lt]
theorem fO.sg {p : Nat} {t : uS} (h : fO p t) (c : Int32) : fn_X12_isSign c t = some false := by unfold fn_X12_isSign; rw [h.is, Option.bind_some]
theorem fO.wd {p : Nat} {t : uS} (h : fO p t) (w : List Nat) : fn_X12_isWord w t = some false := by
  unfold fn_X12_isWord; rw [h.is, Option.bind_some, if_neg (show ¬ false = true by decide)]
theorem fO.nx {p : Nat} {t : uS} (h : fO p t) : fn_X12_next t = some t := by unfold fn_X12_next; rw [if_neg h.nl]
theorem fO.nU {p : Nat} {t : uS} (h : fO p t) : FU p t (fn_X12_next t) := by rw [h.nx]; exact h.U
theorem fO.fU {p : Nat} {t : uS} (h : fO p t) (w : Int32) : FU p t (fn_X12_fail w t) := by
  unfold fn_X12_fail fb_X12_fail_12
  rw [if_pos h.lt]
  exact ⟨_, rfl, (h.I (by decide) (by decide)).I (by decide) (by decide), ol_I (ol_I ol_r ⟨rfl, by omega⟩) ⟨rfl, by omega⟩⟩
theorem fO.tk {p : Nat} {t : uS} (h : fO p t) (c : Int32) : FU p t (fn_X12_take c t) := by
  unfold fn_X12_take
  rw [h.sg, Option.bind_some, if_neg (show ¬ false = true by decide)]
  exact (h.fU _).uu fun t1 h1 => h1.U
theorem fO.st {p : Nat} {t : uS} (h : fO p t) : FV p t (fn_X12_string t) := by
  unfold fn_X12_string
  rw [h.is, Option.bind_some, if_neg (show ¬ false = true by decide)]
  exact (h.fU _).uv fun t1 h1 => h1.V (by decide)
theorem fO.tn {p : Nat} {t : uS} (h : fO p t) : FV p t (fn_X12_taken t) := by
  unfold fn_X12_taken
  exact h.st.vv fun t1 v hv h1 => h1.nU.uv fun t2 h2 => h2.V hv
theorem fO.li {p : Nat} {t : uS} (h : fO p t) : FV p t (fn_X12_list t) := by
  unfold fn_X12_list
  rw [h.sg, Option.bind_some, if_neg (show ¬ false = true by decide)]
  exact h.tn.vv fun t1 v hv h1 => h1.V (v := 1) (by decide)
/-- the loop of a list, once a fault is noted -/
theorem fO.lL {p n : Nat} {x : Nat} (hx : x < 520) {b : Bool} {t : uS} (h : fO p t) : FV p t (fn_X12_list_24 (n + 1) (nI x) b t) := by
  show FV p t (fb_X12_list_24 (fn_X12_list_24 n) (nI x) b t)
  have e : FV p t (fb_X12_list_84 (nI x) t) := by
    unfold fb_X12_list_84
    exact (h.tk _).uv fun t1 h1 => h1.V hx
  unfold fb_X12_list_24
  rw [if_pos h.lt, ite_self]
  exact e
theorem fO.nd {p : Nat} {t : uS} (h : fO p t) (c : Int32) : FV p t (fn_X12_node c t) := by
  obtain ⟨m, m1, m2⟩ := h.2.2.1
  have main : ∀ i : Nat, i < 520 → FV p t (fb_X12_node_20 c (nI i) t) := by
    intro i hi
    unfold fb_X12_node_20
    simp only [p_1098 hi, p_1099 hi, p_1100 hi, p_1101 hi, p_1103 hi, p_1105 hi, p_1106 hi, p_1108 hi, p_1109 hi, p_1110 hi, p_1111 hi, p_1112 hi, p_1113 hi, p_1114 hi, p_1115 hi, Option.bind_some]
    refine ⟨_, i, rfl, hi, ?_, ?_⟩
    · refine (((((((((fO.F · (by decide) (by decide)) ∘ (fO.F · (by decide) (by decide))) ∘ (fO.F · (by decide) (by decide))) ∘ (fO.F · (by decide) (by decide))) ∘ (fO.F · (by decide) (by decide))) ∘ (fO.F · (by decide) (by decide))) ∘ (fO.F · (by decide) (by decide))) ∘ (fO.F · (by decide) (by decide))) ∘ (fO.F · (by decide) (by decide))) ?_
      refine ((fO.F · (by decide) (by decide)) ∘ (fO.F · (by decide) (by decide)) ∘ (fO.F · (by decide) (by decide))) ?_
      refine ⟨h.1, ?_, ⟨i + 1, by omega, ?_⟩, fun n hn => ?_⟩
      · rw [wF_I, wF_I, wF_I, wI_o (by omega)]; exact h.2.1
      · rw [wF_I, wF_I, wF_I, wI_e]; exact nI_1 _
      · by_cases q : n = i
        · left; rw [q, wF_o (by omega), wF_e]
        · rw [wF_o (by omega), wF_o (by omega), wF_o (by omega), wF_o (by omega), wF_o (by omega), wF_o (by omega)]
          exact h.2.2.2 n hn
    · iterate 15 refine ol_F ?_ (by unfold rdF; omega)
      exact ol_I ol_r ⟨rfl, by omega⟩
  unfold fn_X12_node
  by_cases q : (519 : Int32) ≤ t.I 1079 41
  · rw [if_pos q]; exact main 519 (by decide)
  · rw [if_neg q]
    have : m < 519 := by
      rw [m2] at q
      exact Nat.lt_of_not_le fun z => q (nI_le (a := 519) z (by omega))
    rw [m2]; exact main m (by omega)
theorem fO.ct {p : Nat} {t : uS} (h : fO p t) (c : Int32) : FV p t (fn_X12_counting c t) := by
  have m : ∀ t : uS, fO p t → FV p t (fb_X12_counting_17 c t) := by
    intro t h
    unfold fb_X12_counting_17
    refine FV.w (t := wI t 1079 42 (t.I 1079 42 + 1)) (ol_I ol_r (show rdI 1079 42 from ⟨rfl, by omega⟩)) ?_
    exact ((h.I (by decide) (by decide)).nd c).vv fun t1 v hv h1 => h1.V hv
  unfold fn_X12_counting
  split
  · exact (h.fU _).uv fun t1 h1 => m t1 h1
  · exact m t h
theorem fO.pt {p a b : Nat} {t : uS} (h : fO p t) (ha : a < 520) (hb : b < 520) : FU p t (fn_X12_put (nI a) (nI b) t) := by
  have w2 : ∀ T : uS, fO p T → FU p T ((iput 20 T 1100 (nI a) (nI b)).bind fun s => some s) := by
    intro T hT
    rw [p_1100 ha, Option.bind_some]
    refine ⟨_, rfl, ⟨hT.1, hT.2.1, hT.2.2.1, fun n hn => ?_⟩, ol_F ol_r (by unfold rdF; omega)⟩
    by_cases q : n = a
    · right; exact ⟨b, hb, by rw [q, wF_e]⟩
    · rw [wF_o (by omega), wF_o (by omega)]; exact hT.2.2.2 n hn
  unfold fn_X12_put
  rw [g_1099 ha, Option.bind_some]
  by_cases q : t.F 1099 a = -1
  · rw [if_pos q, p_1099 ha, Option.bind_some, p_1100 ha, Option.bind_some]
    refine ⟨_, rfl, ⟨h.1, h.2.1, h.2.2.1, fun n hn => ?_⟩, ol_F (ol_F ol_r (by unfold rdF; omega)) (by unfold rdF; omega)⟩
    by_cases q : n = a
    · right; exact ⟨b, hb, by rw [q, wF_e]⟩
    · rw [wF_o (by omega), wF_o (by omega), wF_o (by omega), wF_o (by omega)]; exact h.2.2.2 n hn
  · obtain ⟨m, m1, m2⟩ := (h.2.2.2 a ha).resolve_left q
    rw [if_neg q, g_1100 ha, Option.bind_some, m2, p_1101 m1, Option.bind_some]
    exact FU.w (ol_F ol_r (show rdF 1101 m by unfold rdF; omega)) (w2 _ (h.F (by decide) (by decide)))
theorem fO.ns {p : Nat} {t : uS} (h : fO p t) (c : Int32) : FU p t (fn_X12_needs c t) := by
  unfold fn_X12_needs
  split
  · exact (h.fU _).uu fun t1 h1 => h1.U
  · exact h.U
theorem fO.p1102 {p n : Nat} {v : Int32} {t : uS} (h : fO p t) (hn : n < 520) : FU p t (iput 20 t 1102 (nI n) v) := ⟨_, p_1102 hn, h.F (by decide) (by decide), ol_F ol_r (by unfold rdF; omega)⟩
theorem fO.p1103 {p n : Nat} {v : Int32} {t : uS} (h : fO p t) (hn : n < 520) : FU p t (iput 20 t 1103 (nI n) v) := ⟨_, p_1103 hn, h.F (by decide) (by decide), ol_F ol_r (by unfold rdF; omega)⟩
theorem fO.p1104 {p n : Nat} {v : Int32} {t : uS} (h : fO p t) (hn : n < 520) : FU p t (iput 20 t 1104 (nI n) v) := ⟨_, p_1104 hn, h.F (by decide) (by decide), ol_F ol_r (by unfold rdF; omega)⟩
theorem fO.p1105 {p n : Nat} {v : Int32} {t : uS} (h : fO p t) (hn : n < 520) : FU p t (iput 20 t 1105 (nI n) v) := ⟨_, p_1105 hn, h.F (by decide) (by decide), ol_F ol_r (by unfold rdF; omega)⟩
theorem fO.p1106 {p n : Nat} {v : Int32} {t : uS} (h : fO p t) (hn : n < 520) : FU p t (iput 20 t 1106 (nI n) v) := ⟨_, p_1106 hn, h.F (by decide) (by decide), ol_F ol_r (by unfold rdF; omega)⟩
theorem fO.p1107 {p n : Nat} {v : Int32} {t : uS} (h : fO p t) (hn : n < 520) : FU p t (iput 20 t 1107 (nI n) v) := ⟨_, p_1107 hn, h.F (by decide) (by decide), ol_F ol_r (by unfold rdF; omega)⟩
theorem fO.p1109 {p n : Nat} {v : Int32} {t : uS} (h : fO p t) (hn : n < 520) : FU p t (iput 20 t 1109 (nI n) v) := ⟨_, p_1109 hn, h.F (by decide) (by decide), ol_F ol_r (by unfold rdF; omega)⟩
theorem fO.p1110 {p n : Nat} {v : Int32} {t : uS} (h : fO p t) (hn : n < 520) : FU p t (iput 20 t 1110 (nI n) v) := ⟨_, p_1110 hn, h.F (by decide) (by decide), ol_F ol_r (by unfold rdF; omega)⟩
theorem fO.p1111 {p n : Nat} {v : Int32} {t : uS} (h : fO p t) (hn : n < 520) : FU p t (iput 20 t 1111 (nI n) v) := ⟨_, p_1111 hn, h.F (by decide) (by decide), ol_F ol_r (by unfold rdF; omega)⟩
theorem fO.p1112 {p n : Nat} {v : Int32} {t : uS} (h : fO p t) (hn : n < 520) : FU p t (iput 20 t 1112 (nI n) v) := ⟨_, p_1112 hn, h.F (by decide) (by decide), ol_F ol_r (by unfold rdF; omega)⟩
theorem fO.p1113 {p n : Nat} {v : Int32} {t : uS} (h : fO p t) (hn : n < 520) : FU p t (iput 20 t 1113 (nI n) v) := ⟨_, p_1113 hn, h.F (by decide) (by decide), ol_F ol_r (by unfold rdF; omega)⟩
theorem fO.p1114 {p n : Nat} {v : Int32} {t : uS} (h : fO p t) (hn : n < 520) : FU p t (iput 20 t 1114 (nI n) v) := ⟨_, p_1114 hn, h.F (by decide) (by decide), ol_F ol_r (by unfold rdF; omega)⟩
theorem fO.p1115 {p n : Nat} {v : Int32} {t : uS} (h : fO p t) (hn : n < 520) : FU p t (iput 20 t 1115 (nI n) v) := ⟨_, p_1115 hn, h.F (by decide) (by decide), ol_F ol_r (by unfold rdF; omega)⟩
theorem fO.p1108 {p n : Nat} {v : Int32} {t : uS} (h : fO p t) (hn : n < 520) : FU p t (iput 22 t 1108 (nI n) v) := ⟨_, p_1108 hn, h.F (by decide) (by decide), ol_F ol_r (by unfold rdF; omega)⟩
theorem fO.tg {p n a : Nat} {t : uS} (h : fO p t) : FU p t (fn_X12_tags_0 (n + 1) (nI a) t) := by
  show FU p t (fb_X12_tags_0 (fn_X12_tags_0 n) (nI a) t)
  unfold fb_X12_tags_0
  rw [h.is, Option.bind_some, if_neg (show ¬ false = true by decide)]
  exact h.U
theorem fO.tgs {p a : Nat} {t : uS} (h : fO p t) : FU p t (fn_X12_tags (nI a) t) := h.tg (n := 999999)
theorem fO.tg134 {p n a : Nat} {t : uS} {b2 : Bool} (ha : a < 520) (h : fO p t) : FU p t (fb_X12_tags_134 (fn_X12_tags_0 (n + 1)) (nI a) b2 t) := by
  unfold fb_X12_tags_134
  split
  · exact (h.p1106 ha).uu fun t1 h1 => h1.li.vu fun t2 v hv h2 => (h2.p1107 ha).uu fun t3 h3 => h3.tg
  · exact h.tg
theorem fO.tg116 {p n a : Nat} {t : uS} {b2 b3 : Bool} {c : Int32} (ha : a < 520) (h : fO p t) : FU p t (fb_X12_tags_116 (fn_X12_tags_0 (n + 1)) (nI a) b2 b3 c t) := by
  unfold fb_X12_tags_116
  refine (h.ns _).uu fun t1 h1 => h1.nU.uu fun t2 h2 => ?_
  split
  · exact (h2.p1108 ha).uu fun t3 h3 => h3.tg134 ha
  · exact h2.tg134 ha
theorem fO.tg104 {p n a : Nat} {t : uS} {b2 b3 : Bool} (ha : a < 520) (h : fO p t) : FU p t (fb_X12_tags_104 (fn_X12_tags_0 (n + 1)) (nI a) b2 b3 t) := by
  unfold fb_X12_tags_104
  split
  · exact h.tg116 ha
  · exact h.tg116 ha
theorem fO.f124 {p a b : Nat} {t : uS} (ha : a < 520) (h : fO p t) : FU p t (fb_X12_file_124 (nI a) (nI b) t) := by
  unfold fb_X12_file_124
  exact (h.p1102 ha).uu fun t1 h1 => h1.nU.uu fun t2 h2 => h2.U
theorem fO.f112 {p a b : Nat} {t : uS} {b3 : Bool} (ha : a < 520) (h : fO p t) : FU p t (fb_X12_file_112 (nI a) (nI b) b3 t) := by
  unfold fb_X12_file_112
  split
  · exact h.f124 ha
  · exact (h.fU _).uu fun t1 h1 => h1.f124 ha
theorem fO.f41 {p a b n : Nat} {t : uS} {b3 : Bool} {i : Int32} (ha : a < 520) (h : fO p t) : FU p t (fn_X12_file_41 (n + 1) (nI a) (nI b) b3 i t) := by
  show FU p t (fb_X12_file_41 (fn_X12_file_41 n) (nI a) (nI b) b3 i t)
  unfold fb_X12_file_41
  rw [if_pos h.lt]
  exact h.f112 ha
theorem fO.fi {p a : Nat} {t : uS} (ha : a < 520) (h : fO p t) : FU p t (fn_X12_file (nI a) t) := by
  unfold fn_X12_file
  refine h.st.vu fun t1 v hv h1 => ?_
  rw [if_pos h1.lt]
  exact h1.f41 (n := 999999) ha
theorem fO.re39 {p a b : Nat} {t : uS} (ha : a < 520) (h : fO p t) : FU p t (fb_X12_redirect_39 (nI a) (nI b) t) := by
  unfold fb_X12_redirect_39
  exact (h.p1102 ha).uu fun t1 h1 => h1.nU.uu fun t2 h2 => h2.U
theorem fO.re {p a : Nat} {t : uS} (ha : a < 520) (h : fO p t) : FU p t (fn_X12_redirect (nI a) t) := by
  unfold fn_X12_redirect
  refine h.st.vu fun t1 v hv h1 => ?_
  rw [if_pos h1.lt]
  unfold fb_X12_redirect_17
  rw [if_pos h1.lt]
  exact h1.re39 ha
theorem fO.ab {p a n : Nat} {t : uS} (ha : a < 520) (h : fO p t) : FU p t (fn_X12_absence_14 (n + 1) (nI a) t) := by
  show FU p t (fb_X12_absence_14 (fn_X12_absence_14 n) (nI a) t)
  unfold fb_X12_absence_14
  rw [h.is, Option.bind_some, if_neg (show ¬ false = true by decide)]
  exact h.tn.vu fun t1 v hv h1 => (h1.p1102 ha).uu fun t2 h2 => h2.U
theorem fO.ab0 {p a : Nat} {t : uS} (ha : a < 520) (h : fO p t) : FU p t (fn_X12_absence (nI a) t) := by
  unfold fn_X12_absence
  exact (h.p1113 ha).uu fun t1 h1 => (h1.p1104 ha).uu fun t2 h2 => h2.ab (n := 999999) ha
theorem fO.ab176 {p a n : Nat} {t : uS} (ha : a < 520) (h : fO p t) : FU p t (fb_X12_absence_176 (fn_X12_absence_14 (n + 1)) (nI a) t) := by
  unfold fb_X12_absence_176
  exact (h.p1113 ha).uu fun t1 h1 => h1.nU.uu fun t2 h2 => h2.ab ha
theorem fO.ab152 {p a n : Nat} {t : uS} {b2 b3 b5 : Bool} (ha : a < 520) (h : fO p t) : FU p t (fb_X12_absence_152 (fn_X12_absence_14 (n + 1)) (nI a) b2 b3 b5 t) := by
  unfold fb_X12_absence_152
  refine h.nU.uu fun t1 h1 => ?_
  split
  · rw [h1.is, Option.bind_some, if_neg (show ¬ false = true by decide)]
    exact (h1.fU _).uu fun t2 h2 => h2.ab176 ha
  · split
    · exact h1.tn.vu fun t2 v hv h2 => (h2.p1114 ha).uu fun t3 h3 => h3.ab ha
    · split
      · exact h1.tn.vu fun t2 v hv h2 => (h2.p1115 ha).uu fun t3 h3 => h3.ab ha
      · exact (h1.p1104 ha).uu fun t2 h2 => h2.li.vu fun t3 v hv h3 => (h3.p1105 ha).uu fun t4 h4 => h4.ab ha
theorem fO.hw337 {p a : Nat} {t : uS} {v : Int32} (ha : a < 520) (h : fO p t) : FU p t (fb_X12_how_337 (nI a) v (nI a) t) := by
  unfold fb_X12_how_337
  refine (h.p1111 ha).uu fun t1 h1 => ?_
  rw [g_1112 ha, Option.bind_some]
  split
  · exact (h1.p1112 ha).uu fun t2 h2 => h2.U
  · exact (h1.p1112 ha).uu fun t2 h2 => h2.U
theorem fO.hw312 {p a : Nat} {t : uS} {v : Int32} (ha : a < 520) (h : fO p t) : FU p t (fb_X12_how_312 (nI a) v (nI a) t) := by
  unfold fb_X12_how_312
  refine (h.p1109 ha).uu fun t1 h1 => ?_
  rw [g_1111 ha, Option.bind_some]
  split
  · exact h1.hw337 ha
  · exact h1.hw337 ha
theorem fO.hw {p a n : Nat} {t : uS} (ha : a < 520) (h : fO p t) : FU p t (fn_X12_how_0 (n + 1) (nI a) t) := by
  show FU p t (fb_X12_how_0 (fn_X12_how_0 n) (nI a) t)
  unfold fb_X12_how_0
  rw [h.is, Option.bind_some, if_neg (show ¬ false = true by decide), g_1109 ha, Option.bind_some]
  split
  · exact h.hw312 ha
  · exact h.hw312 ha
theorem fO.hws {p a : Nat} {t : uS} (ha : a < 520) (h : fO p t) : FU p t (fn_X12_how (nI a) t) := h.hw (n := 999999) ha
theorem fO.rel {p : Nat} {a : Int32} {t : uS} (h : fO p t) : FU p t (fn_X12_relation a t) := by
  unfold fn_X12_relation
  refine h.st.vu fun t1 v hv h1 => ?_
  rw [if_neg h1.nl]
  exact h1.U
theorem fO.cmp {p : Nat} {a : Int32} {t : uS} (h : fO p t) : FU p t (fn_X12_compared a t) := by
  unfold fn_X12_compared
  refine h.st.vu fun t1 v hv h1 => ?_
  rw [if_neg h1.nl]
  exact h1.U
theorem fO.hw275 {p a n : Nat} {t : uS} {b : Bool} (ha : a < 520) (h : fO p t) : FU p t (fb_X12_how_275 (fn_X12_how_0 (n + 1)) (nI a) b t) := by
  unfold fb_X12_how_275
  split
  · exact h.cmp.uu fun t1 h1 => h1.hw ha
  · exact h.hw ha
theorem fO.hw265 {p a n : Nat} {t : uS} {b : Bool} {v : Int32} (ha : a < 520) (h : fO p t) : FU p t (fb_X12_how_265 (fn_X12_how_0 (n + 1)) (nI a) v b t) := by
  unfold fb_X12_how_265
  split
  · exact h.hw275 ha
  · exact h.rel.uu fun t1 h1 => h1.hw275 ha
theorem fO.hw254 {p a n : Nat} {t : uS} {b : Bool} {v w : Int32} (ha : a < 520) (h : fO p t) : FU p t (fb_X12_how_254 (fn_X12_how_0 (n + 1)) (nI a) v w b t) := by
  unfold fb_X12_how_254
  split
  · exact h.hw265 ha
  · exact (h.p1112 ha).uu fun t1 h1 => h1.hw265 ha
theorem fO.hw239 {p a n : Nat} {t : uS} {b : Bool} {v w : Int32} (ha : a < 520) (h : fO p t) : FU p t (fb_X12_how_239 (fn_X12_how_0 (n + 1)) (nI a) v w b t) := by
  unfold fb_X12_how_239
  refine h.nU.uu fun t1 h1 => ?_
  split
  · exact h1.hw254 ha
  · exact (h1.p1109 ha).uu fun t2 h2 => h2.hw254 ha
theorem fO.hw228 {p a n : Nat} {t : uS} {b : Bool} {v w : Int32} (ha : a < 520) (h : fO p t) : FU p t (fb_X12_how_228 (fn_X12_how_0 (n + 1)) (nI a) v w b t) := by
  unfold fb_X12_how_228
  split
  · exact h.hw239 ha
  · exact (h.ns _).uu fun t1 h1 => h1.hw239 ha
theorem fO.sz89 {p a : Nat} {t : uS} (ha : a < 520) (h : fO p t) : FU p t (fb_X12_size_89 (nI a) t) := by
  unfold fb_X12_size_89
  exact (h.p1113 ha).uu fun t1 h1 => h1.nU.uu fun t2 h2 => h2.U
theorem fO.sz68 {p a : Nat} {t : uS} {b : Bool} (ha : a < 520) (h : fO p t) : FU p t (fb_X12_size_68 (nI a) b (nI a) t) := by
  unfold fb_X12_size_68
  refine (h.p1109 ha).uu fun t1 h1 => h1.nU.uu fun t2 h2 => ?_
  rw [h2.is, Option.bind_some, if_neg (show ¬ false = true by decide)]
  exact (h2.fU _).uu fun t3 h3 => h3.sz89 ha
theorem fO.sz54 {p a : Nat} {t : uS} {b : Bool} (ha : a < 520) (h : fO p t) : FU p t (fb_X12_size_54 (nI a) b t) := by
  unfold fb_X12_size_54
  split
  · exact h.sz68 ha
  · exact h.sz68 ha
theorem fO.szs {p a : Nat} {t : uS} (ha : a < 520) (h : fO p t) : FU p t (fn_X12_size (nI a) t) := by
  unfold fn_X12_size fb_X12_size_23 fb_X12_size_46
  simp only [h.is, Option.bind_some, Bool.false_eq_true, if_false]
  exact (h.fU _).uu fun t1 h1 => h1.sz54 ha
theorem fO.te {p n : Nat} {t : uS} (h : fO p t) : FV p t ((fg_0 (n + 1)).1 t) := by
  show FV p t (fn_X12_test _ _ t)
  unfold fn_X12_test fb_X12_test_166
  simp only [h.wd, Option.bind_some, Bool.false_eq_true, if_false, if_true]
  exact (h.fU _).uv fun t1 h1 => h1.V (by decide)
theorem fO.sv8 {p n : Nat} {a : Int32} {b : Bool} {R : uS → Option (uS × Int32)} {t : uS} (h : fO p t) : FU p t (fn_X12_several_8 R (n + 1) a b t) := by
  show FU p t (fb_X12_several_8 R (fn_X12_several_8 R n) a b t)
  unfold fb_X12_several_8 fb_X12_several_46
  rw [if_pos h.lt, ite_self]
  exact (h.tk _).uu fun t1 h1 => h1.U
theorem fO.sv {p n : Nat} {a : Int32} {t : uS} (h : fO p t) : FU p t ((fg_0 (n + 1)).2.1 a t) := by
  show FU p t (fn_X12_several _ a t)
  unfold fn_X12_several
  exact (h.tk _).uu fun t1 h1 => h1.sv8 (n := 999999)
theorem fO.cm0 {p n : Nat} {a : Int32} {R : uS → Option (uS × Int32)} {t : uS} (h : fO p t) : FU p t (fn_X12_commands_0 R (n + 1) a t) := by
  show FU p t (fb_X12_commands_0 R (fn_X12_commands_0 R n) a t)
  unfold fb_X12_commands_0
  rw [h.is, Option.bind_some, if_neg (show ¬ false = true by decide)]
  exact h.U
theorem fO.cms {p n : Nat} {a : Int32} {t : uS} (h : fO p t) : FU p t ((fg_0 (n + 1)).2.2.1 a t) := h.cm0 (n := 999999)
theorem fO.bk42 {p n a : Nat} {t : uS} (ha : a < 520) (h : fO p t) : FV p t (fb_X12_block_42 ((fg_0 (n + 1)).2.2.1) (nI a) t) := by
  unfold fb_X12_block_42
  refine (h.tk _).uv fun t1 h1 => h1.cms.uv fun t2 h2 => (h2.tk _).uv fun t3 h3 => ?_
  exact FV.w (t := wI t3 1079 65 (t3.I 1079 65 - 1)) (ol_I ol_r (show rdI 1079 65 from ⟨rfl, by omega⟩)) ((h3.I (by decide) (by decide)).V ha)
theorem fO.bk {p n : Nat} {t : uS} (h : fO p t) : FV p t ((fg_0 (n + 2)).2.2.2.1 t) := by
  show FV p t (fn_X12_block ((fg_0 (n + 1)).2.2.1) t)
  unfold fn_X12_block
  refine (h.nd _).vv fun t1 v hv h1 => ?_
  have h2 : fO p (wI t1 1079 65 (t1.I 1079 65 + 1)) := h1.I (by decide) (by decide)
  refine FV.w (t := wI t1 1079 65 (t1.I 1079 65 + 1)) (ol_I ol_r (show rdI 1079 65 from ⟨rfl, by omega⟩)) ?_
  simp only [h2.sg, Option.bind_some, Bool.false_eq_true, if_false]
  exact h2.bk42 hv
theorem fO.c389 {p a : Nat} {R : uS → Option (uS × Int32)} {t : uS} (ha : a < 520) (h : fO p t) : FV p t (fb_X12_command_389 R (nI a) t) := by
  unfold fb_X12_command_389
  exact (h.tk _).uv fun t1 h1 => h1.V ha
theorem fO.c76 {p a : Nat} {R Q : uS → Option (uS × Int32)} {t : uS} (ha : a < 520) (h : fO p t) : FV p t (fb_X12_choice_76 R Q (nI a) t) := by
  unfold fb_X12_choice_76
  rw [h.wd, Option.bind_some, if_neg (show ¬ false = true by decide)]
  exact h.V ha
theorem fO.c8 {p a n : Nat} {R Q : uS → Option (uS × Int32)} {b : Bool} {t : uS} (ha : a < 520) (h : fO p t) : FV p t (fn_X12_choice_8 R Q (n + 1) (nI a) b t) := by
  show FV p t (fb_X12_choice_8 R Q (fn_X12_choice_8 R Q n) (nI a) b t)
  unfold fb_X12_choice_8
  rw [if_pos h.lt, ite_self]
  exact h.c76 ha
theorem fO.t238 {p a n : Nat} {t : uS} {k : Int32} (ha : a < 520) (h : fO p t) : FV p t (fb_X12_test_238 ((fg_0 (n + 1)).2.1) ((fg_0 (n + 1)).1) k (nI a) t) := by
  have e : ∀ t : uS, fO p t → FV p t (fb_X12_test_419 ((fg_0 (n + 1)).2.1) ((fg_0 (n + 1)).1) (nI a) t) := by
    intro t h
    unfold fb_X12_test_419
    exact FV.w (t := wI t 1079 66 (t.I 1079 66 - 1)) (ol_I ol_r (show rdI 1079 66 from ⟨rfl, by omega⟩)) ((h.I (by decide) (by decide)).V ha)
  have l1 : ∀ t : uS, fO p t → FV p t ((iput 20 t 1104 (nI a) (t.I 1079 61)).bind fun s11 => (fn_X12_list s11).bind fun r13 => (iput 20 r13.1 1105 (nI a) r13.2).bind fun s15 => fb_X12_test_419 ((fg_0 (n + 1)).2.1) ((fg_0 (n + 1)).1) (nI a) s15) :=
    fun t h => (h.p1104 ha).uv fun t1 h1 => h1.li.vv fun t2 v hv h2 => (h2.p1105 ha).uv fun t3 h3 => e t3 h3
  have l2 : ∀ t : uS, fO p t → FV p t ((fn_X12_how (nI a) t).bind fun s3 => (iput 20 s3 1102 (nI a) (s3.I 1079 61)).bind fun s5 => (fn_X12_list s5).bind fun r7 => (iput 20 r7.1 1103 (nI a) r7.2).bind fun s9 => (iput 20 s9 1104 (nI a) (s9.I 1079 61)).bind fun s11 => (fn_X12_list s11).bind fun r13 => (iput 20 r13.1 1105 (nI a) r13.2).bind fun s15 => fb_X12_test_419 ((fg_0 (n + 1)).2.1) ((fg_0 (n + 1)).1) (nI a) s15) :=
    fun t h => (h.hws ha).uv fun t1 h1 => (h1.p1102 ha).uv fun t2 h2 => h2.li.vv fun t3 v hv h3 => (h3.p1103 ha).uv fun t4 h4 => l1 t4 h4
  unfold fb_X12_test_238
  refine h.nU.uv fun t1 h1 => ?_
  split
  · exact l2 t1 h1
  split
  · exact l2 t1 h1
  split
  · exact l2 t1 h1
  split
  · exact (h1.hws ha).uv fun t2 h2 => l1 t2 h2
  split
  · exact (h1.p1102 ha).uv fun t2 h2 => h2.li.vv fun t3 v hv h3 => (h3.p1103 ha).uv fun t4 h4 => e t4 h4
  split
  · exact (h1.szs ha).uv fun t2 h2 => e t2 h2
  split
  · exact h1.sv.uv fun t2 h2 => e t2 h2
  split
  · exact h1.sv.uv fun t2 h2 => e t2 h2
  split
  · exact h1.te.vv fun t2 v hv h2 => (h2.pt ha hv).uv fun t3 h3 => e t3 h3
  · exact e t1 h1
theorem fO.t226 {p a n : Nat} {t : uS} {k : Int32} (ha : a < 520) (h : fO p t) : FV p t (fb_X12_test_226 ((fg_0 (n + 1)).2.1) ((fg_0 (n + 1)).1) k (nI a) t) := by
  unfold fb_X12_test_226
  split
  · exact (h.ns _).uv fun t1 h1 => h1.t238 ha
  · exact h.t238 ha
theorem fO.t209 {p n : Nat} {t : uS} {k : Int32} (h : fO p t) : FV p t (fb_X12_test_209 ((fg_0 (n + 1)).2.1) ((fg_0 (n + 1)).1) k t) := by
  unfold fb_X12_test_209
  refine (h.ct _).vv fun t1 v hv h1 => ?_
  dsimp only
  split
  · exact (h1.ns _).uv fun t2 h2 => h2.t226 hv
  · exact h1.t226 hv
theorem FV.ite {p : Nat} {t : uS} {c : Prop} [Decidable c] {A B : Option (uS × Int32)} (a : FV p t A) (b : FV p t B) : FV p t (if c then A else B) := by
  by_cases h : c
  · rw [if_pos h]; exact a
  · rw [if_neg h]; exact b
theorem fO.c163 {p : Nat} {R : uS → Option (uS × Int32)} {t : uS} {k : Int32} (h : fO p t) : FV p t (fb_X12_command_163 R k t) := by
  unfold fb_X12_command_163
  refine (h.ct _).vv fun t1 a ha h1 => ?_
  have l1 : ∀ t : uS, fO p t → FV p t ((fn_X12_needs 16 t).bind fun s35 => (fn_X12_next s35).bind fun s37 => (iput 20 s37 1102 (nI a) (s37.I 1079 61)).bind fun s39 => (fn_X12_list s39).bind fun r41 => (iput 20 r41.1 1103 (nI a) r41.2).bind fun s43 => fb_X12_command_389 R (nI a) s43) :=
    fun t h => (h.ns _).uv fun t1 h1 => h1.nU.uv fun t2 h2 => (h2.p1102 ha).uv fun t3 h3 => h3.li.vv fun t4 v hv h4 => (h4.p1103 ha).uv fun t5 h5 => h5.c389 ha
  show FV p t1 ((iget 20 t1 1098 (nI a)).bind _)
  rw [g_1098 ha, Option.bind_some]
  refine FV.ite ?_ ?_
  · exact h1.nU.uv fun t2 h2 => h2.c389 ha
  refine FV.ite ?_ ?_
  · exact h1.nU.uv fun t2 h2 => h2.c389 ha
  refine FV.ite ?_ ?_
  · exact h1.nU.uv fun t2 h2 => h2.tgs.uv fun t3 h3 => h3.c389 ha
  refine FV.ite ?_ ?_
  · exact (h1.ns _).uv fun t2 h2 => h2.nU.uv fun t3 h3 => h3.tgs.uv fun t4 h4 => (h4.fi ha).uv fun t5 h5 => h5.c389 ha
  refine FV.ite ?_ ?_
  · exact h1.nU.uv fun t3 h3 => h3.tgs.uv fun t4 h4 => (h4.re ha).uv fun t5 h5 => h5.c389 ha
  refine FV.ite ?_ ?_
  · exact (h1.ns _).uv fun t2 h2 => h2.nU.uv fun t3 h3 => h3.tn.vv fun t4 v hv h4 => (h4.p1102 ha).uv fun t5 h5 => h5.c389 ha
  refine FV.ite ?_ ?_
  · exact l1 t1 h1
  refine FV.ite ?_ ?_
  · exact l1 t1 h1
  refine FV.ite ?_ ?_
  · exact l1 t1 h1
  refine FV.ite ?_ ?_
  · exact (h1.ns _).uv fun t2 h2 => h2.nU.uv fun t3 h3 => (h3.ab0 ha).uv fun t4 h4 => h4.c389 ha
  · rw [if_pos h1.lt]
    unfold fb_X12_command_378
    rw [wI_self (s := t1) (k := 1079) (f := 40) rfl]
    exact (h1.fU _).uv fun t2 h2 => h2.c389 ha
