/-! the header of a message: the reference's loop -/
theorem r_blV {α : Type} {t : uS} {v : List Nat} {vs a : Nat} (hb : bys v) (hv : t.F 1092 (vs + a) = nI (v.getD a 0)) (ha : vs + a < 4100) (A B : Option α) : ((iget 20 t 1092 (nI (vs + a))).bind fun v2 => if v2 = 32 then A else ((iget 20 t 1092 (nI (vs + a))).bind fun v5 => if v5 = 9 then A else B)) = if isBl (v.getD a 0) = true then A else B := by
  have h := hb a
  rw [g_1092 ha, Option.bind_some, Option.bind_some, hv]
  have e1 : nI (v.getD a 0) = 32 ↔ v.getD a 0 = 32 := nI_eq (b := 32) (by omega) (by omega)
  have e2 : nI (v.getD a 0) = 9 ↔ v.getD a 0 = 9 := nI_eq (b := 9) (by omega) (by omega)
  by_cases c : isBl (v.getD a 0) = true
  · rw [if_pos c]
    cases isBl_iff.mp c with
    | inl z => rw [if_pos (e1.mpr z)]
    | inr z => rw [if_pos (e2.mpr z), ite_self]
  · rw [if_neg c, if_neg (fun z => c (isBl_iff.mpr (Or.inl (e1.mp z)))), if_neg (fun z => c (isBl_iff.mpr (Or.inr (e2.mp z))))]
theorem r_t46 {t : uS} {v : List Nat} {vs : Nat} (hb : bys v) (hv : ∀ j : Nat, j < v.length → t.F 1092 (vs + j) = nI (v.getD j 0)) (hl : vs + v.length ≤ 4100) : ∀ (b N a : Nat), a ≤ b → b ≤ v.length → b + 1 ≤ N → fn_X12_trim_46 N (nI (vs + a)) (nI (vs + b)) t = fb_X12_trim_84 (nI (vs + a)) (nI (vs + tB v a b)) t := by
  intro b
  induction b with
  | zero =>
    intro N a h1 h2 hN
    obtain ⟨M, rfl⟩ : ∃ M, N = M + 1 := ⟨N - 1, by omega⟩
    show fb_X12_trim_46 (fn_X12_trim_46 M) _ _ t = _
    unfold fb_X12_trim_46
    rw [if_pos (nI_le (by omega) (by omega))]
    rfl
  | succ b ih =>
    intro N a h1 h2 hN
    obtain ⟨M, rfl⟩ : ∃ M, N = M + 1 := ⟨N - 1, by omega⟩
    show fb_X12_trim_46 (fn_X12_trim_46 M) _ _ t = _
    unfold fb_X12_trim_46 tB
    have em : nI (vs + (b + 1)) - 1 = nI (vs + b) := nI_sub (a := vs + (b + 1)) (b := 1) (by omega)
    by_cases c : b + 1 ≤ a
    · rw [if_pos (nI_le (by omega) (by omega)), if_pos c]
    · rw [if_neg (nI_ge (by omega) (by omega)), if_neg c, em, r_blV hb (hv b (by omega)) (by omega)]
      cases isBl (v.getD b 0) with
      | false => rw [if_neg (by decide), if_neg (by decide)]
      | true => rw [if_pos rfl, if_pos rfl]; exact ih M a (by omega) (by omega) (by omega)
theorem r_t12 {t : uS} {v : List Nat} {vs : Nat} (hb : bys v) (hv : ∀ j : Nat, j < v.length → t.F 1092 (vs + j) = nI (v.getD j 0)) (hl : vs + v.length ≤ 4100) : ∀ (d N a : Nat), a + d = v.length → d + 1 ≤ N → fn_X12_trim_12 N (nI (vs + a)) (nI (vs + v.length)) t = fn_X12_trim_46 uFu (nI (vs + tA v d a)) (nI (vs + v.length)) t := by
  intro d
  induction d with
  | zero =>
    intro N a h1 hN
    obtain ⟨M, rfl⟩ : ∃ M, N = M + 1 := ⟨N - 1, by omega⟩
    show fb_X12_trim_12 (fn_X12_trim_12 M) _ _ t = _
    unfold fb_X12_trim_12
    rw [if_pos (nI_le (by omega) (by omega))]
    rfl
  | succ d ih =>
    intro N a h1 hN
    obtain ⟨M, rfl⟩ : ∃ M, N = M + 1 := ⟨N - 1, by omega⟩
    show fb_X12_trim_12 (fn_X12_trim_12 M) _ _ t = _
    unfold fb_X12_trim_12 tA
    rw [if_neg (nI_ge (by omega) (by omega)), if_neg (show ¬ v.length ≤ a by omega), r_blV hb (hv a (by omega)) (by omega), nI_1]
    cases isBl (v.getD a 0) with
    | false => rw [if_neg (by decide), if_neg (by decide)]
    | true => rw [if_pos rfl, if_pos rfl]; exact ih M (a + 1) (by omega) (by omega)
theorem r_trim {t : uS} {v : List Nat} {vs k : Nat} (hb : bys v) (hv : ∀ j : Nat, j < v.length → t.F 1092 (vs + j) = nI (v.getD j 0)) (hl : vs + v.length ≤ 4100) (hk : t.I 1079 14 = nI k) (hk2 : k < 2100) (h0 : t.F 1090 k = nI vs) : fn_X12_trim (nI (vs + v.length)) t = some (wF (wF t 1090 k (nI (vs + trA v))) 1091 k (nI (trm v).length)) := by
  have g := tr_le v
  unfold fn_X12_trim
  rw [hk, g_1090 hk2, Option.bind_some, h0]
  have e := r_t12 hb hv hl v.length uFu 0 (by omega) (by show _ ≤ 1000000; omega)
  rw [Nat.add_zero] at e
  rw [e, show tA v v.length 0 = trA v from rfl, r_t46 hb hv hl v.length uFu (trA v) (by omega) (Nat.le_refl _) (by show _ ≤ 1000000; omega), show tB v (trA v) v.length = trB v from rfl]
  unfold fb_X12_trim_84
  have hk' : (wF t 1090 k (nI (vs + trA v))).I 1079 14 = nI k := hk
  rw [hk, p_1090 hk2, Option.bind_some, hk', p_1091 hk2, Option.bind_some, nI_sub (by omega), show vs + trB v - (vs + trA v) = trB v - trA v by omega, show (trm v).length = trB v - trA v from sub_len g.2 g.1]
/-- where the reference stands in a header -/
def rHp (t : uS) (tx : List Nat) (dn : List (List Nat × List Nat)) (vs : Nat) : Prop := rTt t tx ∧ t.I 1079 14 = nI dn.length ∧ ∀ f : Nat, f < dn.length → rTx t 1088 1089 1087 f 4000 (fnm dn f) ∧ rTx t 1090 1091 1092 f vs (fvl dn f)
def rHq (t : uS) (tx : List Nat) (dn : List (List Nat × List Nat)) (a0 : Nat) (nm : List Nat) (vs : Nat) (v : List Nat) : Prop := rHp t tx dn vs ∧ t.F 1088 dn.length = nI a0 ∧ t.F 1089 dn.length = nI nm.length ∧ a0 + nm.length ≤ tx.length ∧ (∀ j : Nat, j < nm.length → tx.getD (a0 + j) 0 = nm.getD j 0) ∧ t.F 1090 dn.length = nI vs ∧ bys v ∧ ∀ j : Nat, j < v.length → t.F 1092 (vs + j) = nI (v.getD j 0)
/-- what leaves the fields so far alone -/
theorem rHp.k {t t1 : uS} {tx : List Nat} {dn : List (List Nat × List Nat)} {vs : Nat} (h : rHp t tx dn vs) (o : out rNo (fun k f => (1088 ≤ k ∧ k ≤ 1091 ∧ dn.length ≤ f) ∨ (k = 1092 ∧ vs ≤ f)) t t1) : rHp t1 tx dn vs := by
  refine ⟨h.1.h (out_w o (fun _ _ z => z.elim) (fun k f z => by unfold rhF; omega)), (o.2.1 _ _ (fun z => z)).trans h.2.1, fun f hf => ?_⟩
  obtain ⟨⟨a, a1, a2, a3, a4⟩, ⟨b, b1, b2, b3, b4⟩⟩ := h.2.2 f hf
  exact ⟨⟨a, a1, (o.2.2 _ _ (by omega)).trans a2, (o.2.2 _ _ (by omega)).trans a3, fun j hj => (o.2.2 _ _ (by omega)).trans (a4 j hj)⟩, ⟨b, b1, (o.2.2 _ _ (by omega)).trans b2, (o.2.2 _ _ (by omega)).trans b3, fun j hj => (o.2.2 _ _ (by omega)).trans (b4 j hj)⟩⟩
theorem rHp.fl {t : uS} {tx : List Nat} {dn : List (List Nat × List Nat)} {vs : Nat} (h : rHp t tx dn vs) (hv : vs ≤ 4100) : rFl t dn := by
  refine ⟨h.2.1, fun f hf => ⟨(h.2.2 f hf).1, ?_⟩⟩
  obtain ⟨b, b1, b2⟩ := (h.2.2 f hf).2
  exact ⟨b, by omega, b2⟩
/-- the pending field is closed -/
theorem r_close {t : uS} {tx : List Nat} {dn : List (List Nat × List Nat)} {a0 vs : Nat} {nm v : List Nat} (h : rHq t tx dn a0 nm vs v) (hl : vs + v.length ≤ 4100) (hd : dn.length < 2100) : ∃ t1 : uS, fn_X12_trim (nI (vs + v.length)) t = some t1 ∧ t1.I 1079 14 = nI dn.length ∧ rHp (wI t1 1079 14 (nI (dn.length + 1))) tx (dn ++ [(nm, trm v)]) (vs + v.length) ∧ out rNo rhF t t1 := by
  obtain ⟨h1, h2, h3, h4, h5, h6, hb, h7⟩ := h
  have g := tr_le v
  have htl : (trm v).length = trB v - trA v := sub_len g.2 g.1
  have o : out rNo (fun k f => (1088 ≤ k ∧ k ≤ 1091 ∧ dn.length ≤ f) ∨ (k = 1092 ∧ vs ≤ f)) t (wF (wF t 1090 dn.length (nI (vs + trA v))) 1091 dn.length (nI (trm v).length)) := out_F (out_F out_r (by omega)) (by omega)
  refine ⟨_, r_trim hb h7 hl h1.2.1 hd h6, h1.2.1, ?_, out_w o (fun _ _ z => z) (fun k f z => by unfold rhF; omega)⟩
  have k := h1.k o
  have e88 : (wF (wF t 1090 dn.length (nI (vs + trA v))) 1091 dn.length (nI (trm v).length)).F 1088 dn.length = nI a0 := by rw [wF_o (by omega), wF_o (by omega)]; exact h2
  have e89 : (wF (wF t 1090 dn.length (nI (vs + trA v))) 1091 dn.length (nI (trm v).length)).F 1089 dn.length = nI nm.length := by rw [wF_o (by omega), wF_o (by omega)]; exact h3
  have e90 : (wF (wF t 1090 dn.length (nI (vs + trA v))) 1091 dn.length (nI (trm v).length)).F 1090 dn.length = nI (vs + trA v) := by rw [wF_o (by omega)]; exact wF_e _ _ _ _
  have e91 : (wF (wF t 1090 dn.length (nI (vs + trA v))) 1091 dn.length (nI (trm v).length)).F 1091 dn.length = nI (trm v).length := wF_e _ _ _ _
  have e92 : ∀ j : Nat, j < v.length → (wF (wF t 1090 dn.length (nI (vs + trA v))) 1091 dn.length (nI (trm v).length)).F 1092 (vs + j) = nI (v.getD j 0) := fun j hj => by rw [wF_o (by omega), wF_o (by omega)]; exact h7 j hj
  generalize wF (wF t 1090 dn.length (nI (vs + trA v))) 1091 dn.length (nI (trm v).length) = t2 at *
  have hln : (dn ++ [(nm, trm v)]).length = dn.length + 1 := by rw [List.length_append]; rfl
  have hk1 := k.1
  refine ⟨⟨hk1.1, hk1.2.1, ?_, hk1.2.2.2⟩, ?_, fun f hf => ?_⟩
  · rw [wI_o (by omega)]; exact hk1.2.2.1
  · rw [hln]; exact wI_e _ _ _ _
  · rw [hln] at hf
    have en : fnm (dn ++ [(nm, trm v)]) f = if f = dn.length then nm else fnm dn f := by
      unfold fnm
      rw [List.map_append]
      by_cases c : f = dn.length
      · rw [if_pos c, c]
        have := getN_end (ts := dn.map Prod.fst) (t := nm)
        rw [List.length_map] at this
        exact this
      · rw [if_neg c]
        exact getN_app (by rw [List.length_map]; omega)
    have ev : fvl (dn ++ [(nm, trm v)]) f = if f = dn.length then trm v else fvl dn f := by
      unfold fvl
      rw [List.map_append]
      by_cases c : f = dn.length
      · rw [if_pos c, c]
        have := getN_end (ts := dn.map Prod.snd) (t := trm v)
        rw [List.length_map] at this
        exact this
      · rw [if_neg c]
        exact getN_app (by rw [List.length_map]; omega)
    rw [en, ev]
    by_cases c : f = dn.length
    · subst c
      rw [if_pos rfl, if_pos rfl]
      refine ⟨⟨a0, by have := hk1.1; omega, e88, e89, fun j hj => ?_⟩, ⟨vs + trA v, by omega, e90, e91, fun j hj => ?_⟩⟩
      · show t2.F 1087 (a0 + j) = _
        rw [hk1.2.2.2 _ (by omega), h5 j hj]
      · show t2.F 1092 (vs + trA v + j) = _
        rw [show vs + trA v + j = vs + (trA v + j) by omega, e92 _ (by omega)]
        unfold trm
        rw [sub_get (by omega)]
    · rw [if_neg c, if_neg c]
      have z := k.2.2 f (by omega)
      refine ⟨z.1, ?_⟩
      obtain ⟨b, b1, b2⟩ := z.2
      exact ⟨b, by omega, b2⟩
theorem hdL_cut {tx : List Nat} {a : Nat} {q : List Nat × List Nat} (h : tx.length ≤ a ∨ ¬ isBl (tx.getD a 0) = true) : ∀ n : Nat, hdL tx n a (some q) = (q.1, trm q.2) :: hdL tx n a none
  | 0 => rfl
  | n + 1 => by
    unfold hdL
    by_cases c : tx.length ≤ a
    · rw [if_pos c, if_pos c]; rfl
    · rw [if_neg c, if_neg c]
      have d : ¬ (a < lE tx a ∧ isBl (tx.getD a 0) = true) := fun z => h.elim c (fun y => y z.2)
      rw [if_neg d, if_neg d]
      by_cases e : fldB tx a (lE tx a) = true
      · rw [if_pos e, if_pos e]; rfl
      · rw [if_neg e, if_neg e]; rfl
theorem fldB_bl {tx : List Nat} {a e : Nat} (h : fldB tx a e = true) : a < e ∧ ¬ isBl (tx.getD a 0) = true := by
  have h' := of_decide_eq_true h
  have h1 := h'.1
  unfold fldN at h1
  have ha : a < e := by
    apply Classical.byContradiction
    intro z
    rw [show e - a = 0 by omega] at h1
    exact h1 rfl
  refine ⟨ha, fun z => h1 ?_⟩
  obtain ⟨d, hd⟩ : ∃ d, e - a = d + 1 := ⟨e - a - 1, by omega⟩
  rw [hd]
  unfold nmE
  rw [if_neg (by omega), if_neg]
  intro y
  have y' := of_decide_eq_true y
  have := isBl_iff.mp z
  omega
theorem hdL_none {tx : List Nat} {n a : Nat} (h : ¬ tx.length ≤ a) : hdL tx (n + 1) a none = if fldB tx a (lE tx a) = true then hdL tx n (lE tx a + 2) (some (sub tx a (fldN tx a (lE tx a)), sub tx (fldC tx a (lE tx a) + 1) (lE tx a))) else [] := by
  rw [hdL, if_neg h]
  by_cases e : fldB tx a (lE tx a) = true
  · rw [if_neg (fun z => (fldB_bl e).2 z.2), if_pos e, if_pos e]; rfl
  · rw [if_neg e, if_neg e]
    by_cases d : (a < lE tx a ∧ isBl (tx.getD a 0) = true)
    · rw [if_pos d]
    · rw [if_neg d]; rfl
def hPn (tx : List Nat) (n : Nat) : Prop := ∀ (N a : Nat) (t : uS) (dn : List (List Nat × List Nat)) (vs : Nat), tx.length ≤ a + n → n + 1 ≤ N → a ≤ tx.length + 2 → (a < tx.length → a + 2 ≤ tx.length) → rHp t tx dn vs → vs ≤ min a tx.length → tot dn ≤ min a tx.length → ∃ t1 : uS, fn_X12_readHeader_11 N (nI vs) (nI a) true t = some t1 ∧ rFl t1 (dn ++ hdL tx n a none) ∧ out rhI rhF t t1
def hQn (tx : List Nat) (n : Nat) : Prop := ∀ (M N a : Nat) (t : uS) (dn : List (List Nat × List Nat)) (a0 : Nat) (nm : List Nat) (vs : Nat) (v : List Nat), tx.length ≤ a + n → n + 1 ≤ M → n + 1 ≤ N → a ≤ tx.length + 2 → (a < tx.length → a + 2 ≤ tx.length) → rHq t tx dn a0 nm vs v → vs + v.length ≤ min a tx.length → tot dn + (v.length + 4) ≤ min a tx.length → ∃ t1 : uS, fn_X12_readHeader_116 (fn_X12_readHeader_11 M) N (nI (vs + v.length)) (nI a) true t = some t1 ∧ rFl t1 (dn ++ hdL tx n a (some (nm, v))) ∧ out rhI rhF t t1
/-- no further line of the field -/
theorem r_194 {tx : List Nat} {n : Nat} (hP : hPn tx n) {M a : Nat} {t : uS} {dn : List (List Nat × List Nat)} {a0 : Nat} {nm : List Nat} {vs : Nat} {v : List Nat} (h1 : tx.length ≤ a + n) (h2 : n + 1 ≤ M) (h3 : a ≤ tx.length + 2) (h4 : a < tx.length → a + 2 ≤ tx.length) (h5 : rHq t tx dn a0 nm vs v) (h6 : vs + v.length ≤ min a tx.length) (h7 : tot dn + (v.length + 4) ≤ min a tx.length) (hc : tx.length ≤ a ∨ ¬ isBl (tx.getD a 0) = true) : ∃ t1 : uS, fb_X12_readHeader_194 (fn_X12_readHeader_11 M) (nI (vs + v.length)) (nI a) true t = some t1 ∧ rFl t1 (dn ++ hdL tx n a (some (nm, v))) ∧ out rhI rhF t t1 := by
  have hl := h5.1.1.1
  have htl := tot_len dn
  obtain ⟨t1, a1, a2, a3, a4⟩ := r_close h5 (by omega) (by omega)
  have ho1 : out rhI rhF t (wI t1 1079 14 (nI (dn.length + 1))) := out_I (out_w a4 (fun _ _ z => z.elim) (fun _ _ z => z)) ⟨rfl, rfl⟩
  have htr := trm_len v
  obtain ⟨t2, b1, b2, b3⟩ := hP M a (wI t1 1079 14 (nI (dn.length + 1))) (dn ++ [(nm, trm v)]) (vs + v.length) h1 h2 h3 h4 a3 h6 (by rw [tot_app]; show tot dn + ((trm v).length + 4 + 0) ≤ _; omega)
  refine ⟨t2, ?_, ?_, out_t ho1 b3⟩
  · unfold fb_X12_readHeader_194
    rw [a1, Option.bind_some, a2, nI_1]
    exact b1
  · rw [hdL_cut hc]
    rw [List.append_assoc] at b2
    exact b2
theorem r_hdL {tx : List Nat} (hE : crE tx) : ∀ n : Nat, n ≤ 5000 → hPn tx n ∧ hQn tx n := by
  have hQP : ∀ n : Nat, hPn tx n → (∀ n' : Nat, n = n' + 1 → hQn tx n') → hQn tx n := by
    intro n hP hQ M N a t dn a0 nm vs v h1 h2 h2' h3 h4 h5 h6 h7
    obtain ⟨N', rfl⟩ : ∃ N', N = N' + 1 := ⟨N - 1, by omega⟩
    have ht := h5.1.1
    have hl := ht.1
    show ∃ t1 : uS, fb_X12_readHeader_116 (fn_X12_readHeader_11 M) (fn_X12_readHeader_116 (fn_X12_readHeader_11 M) N') (nI (vs + v.length)) (nI a) true t = some t1 ∧ _
    unfold fb_X12_readHeader_116
    rw [ht.2.2.1]
    by_cases c : tx.length ≤ a
    · rw [if_pos (nI_le c (by omega))]
      exact r_194 hP h1 h2 h3 h4 h5 h6 h7 (Or.inl c)
    · rw [if_neg (nI_ge (by omega) (by omega)), r_blk ht (by omega)]
      by_cases d : isBl (tx.getD a 0) = true
      · rw [if_pos d]
        obtain ⟨n', rfl⟩ : ∃ n', n = n' + 1 := ⟨n - 1, by omega⟩
        have hle := lnE_ge (tx := tx) (tx.length - a) a (by omega)
        have hle' : a ≤ lE tx a ∧ lE tx a ≤ tx.length := hle
        obtain ⟨q1, q2, q3, q4⟩ := crE_at hE (h4 (by omega))
        have hae : a < lE tx a := by
          apply Classical.byContradiction
          intro z
          have : lE tx a = a := by omega
          rw [this] at q2
          have := isBl_iff.mp d
          omega
        unfold fb_X12_readHeader_146
        rw [r_lineE ht hE (h4 (by omega)), Option.bind_some]
        obtain ⟨t1, a1, a2, a3⟩ := cp2 (tx := tx) (F := fun n x b t => fn_X12_readHeader_156 (fn_X12_readHeader_11 M) (fn_X12_readHeader_116 (fn_X12_readHeader_11 M) N') n x true (nI (lE tx a)) b t) (G := fun x t => fn_X12_readHeader_116 (fn_X12_readHeader_11 M) N' x (nI (lE tx a) + 2) true t) (e := lE tx a) (fun n x b t => rfl) hle'.2 (lE tx a - a) uFu (vs + v.length) a t (by omega) (by omega) (by show _ ≤ 1000000; omega) ht
        have e2 : nI (lE tx a) + 2 = nI (lE tx a + 2) := nI_add (lE tx a) 2
        have hsl : (sub tx a (lE tx a)).length = lE tx a - a := sub_len hle'.2 (by omega)
        have hvl : (v ++ sub tx a (lE tx a)).length = v.length + (lE tx a - a) := by rw [List.length_append, hsl]
        obtain ⟨i1, i2, i3, i4, i5, i6, i7, i8⟩ := h5
        have hq : rHq t1 tx dn a0 nm vs (v ++ sub tx a (lE tx a)) := by
          refine ⟨i1.k (out_w a2 (fun _ _ z => z) (fun k f z => by omega)), (a2.2.2 _ _ (by omega)).trans i2, (a2.2.2 _ _ (by omega)).trans i3, i4, i5, (a2.2.2 _ _ (by omega)).trans i6, bys_apps i7 (sub_by ht.2.1), fun j hj => ?_⟩
          by_cases jc : j < v.length
          · rw [getDn_app jc, a2.2.2 _ _ (by omega)]
            exact i8 j jc
          · rw [getD_appR (by omega), sub_get (by omega)]
            have := a3 (j - v.length) (by omega)
            rw [show vs + v.length + (j - v.length) = vs + j by omega] at this
            exact this
        obtain ⟨t2, b1, b2, b3⟩ := hQ n' rfl M N' (lE tx a + 2) t1 dn a0 nm vs (v ++ sub tx a (lE tx a)) (by omega) (by omega) (by omega) (by omega) q4 hq (by omega) (by omega)
        refine ⟨t2, ?_, ?_, out_t (out_w a2 (fun _ _ z => z.elim) (fun k f z => by unfold rhF; omega)) b3⟩
        · rw [show fn_X12_readHeader_156 (fn_X12_readHeader_11 M) (fn_X12_readHeader_116 (fn_X12_readHeader_11 M) N') uFu (nI (vs + v.length)) true (nI (lE tx a)) (nI a) t = _ from a1, e2, show vs + v.length + (lE tx a - a) = vs + (v ++ sub tx a (lE tx a)).length by omega]
          exact b1
        · rw [hdL, if_neg c, if_pos ⟨hae, d⟩]
          exact b2
      · rw [if_neg d]
        exact r_194 hP h1 h2 h3 h4 h5 h6 h7 (Or.inr d)
  intro n
  induction n with
  | zero =>
    intro hn
    have hP : hPn tx 0 := by
      intro N a t dn vs h1 h2 h3 h4 h5 h6 h7
      obtain ⟨N', rfl⟩ : ∃ N', N = N' + 1 := ⟨N - 1, by omega⟩
      have ht := h5.1
      have hl := ht.1
      refine ⟨t, ?_, ?_, out_r⟩
      · show fb_X12_readHeader_11 (fn_X12_readHeader_11 N') (nI vs) (nI a) true t = _
        unfold fb_X12_readHeader_11
        rw [if_pos rfl, ht.2.2.1, if_pos (nI_le (by omega) (by omega))]
      · rw [show hdL tx 0 a none = [] from rfl, List.append_nil]
        exact h5.fl (by omega)
    exact ⟨hP, hQP 0 hP (fun n' z => by omega)⟩
  | succ n ih =>
    intro hn
    have ih := ih (by omega)
    have hP : hPn tx (n + 1) := by
      intro N a t dn vs h1 h2 h3 h4 h5 h6 h7
      obtain ⟨N', rfl⟩ : ∃ N', N = N' + 1 := ⟨N - 1, by omega⟩
      have ht := h5.1
      have hl := ht.1
      have htl := tot_len dn
      show ∃ t1 : uS, fb_X12_readHeader_11 (fn_X12_readHeader_11 N') (nI vs) (nI a) true t = some t1 ∧ _
      unfold fb_X12_readHeader_11
      rw [if_pos rfl, ht.2.2.1]
      by_cases c : tx.length ≤ a
      · rw [if_pos (nI_le c (by omega))]
        refine ⟨t, rfl, ?_, out_r⟩
        rw [hdL, if_pos c, show flP none = [] from rfl, List.append_nil]
        exact h5.fl (by omega)
      · rw [if_neg (nI_ge (by omega) (by omega)), r_lineE ht hE (h4 (by omega)), Option.bind_some, hdL_none c]
        have hle := lnE_ge (tx := tx) (tx.length - a) a (by omega)
        have hle' : a ≤ lE tx a ∧ lE tx a ≤ tx.length := hle
        obtain ⟨q1, q2, q3, q4⟩ := crE_at hE (h4 (by omega))
        have e47 : ∀ K : Int32 → Int32 → Bool → uS → Option uS, fb_X12_readHeader_47 K (nI vs) (nI (lE tx a)) (-1) t = some t := fun K => rfl
        by_cases d : lE tx a ≤ a
        · rw [if_pos (nI_le d (by omega)), e47]
          refine ⟨t, rfl, ?_, out_r⟩
          rw [if_neg (fun z => by have := (fldB_bl z).1; omega), List.append_nil]
          exact h5.fl (by omega)
        · rw [if_neg (nI_ge (by omega) (by omega)), r_fOf ht hle'.1 hle'.2 h5.2.1 (by omega)]
          by_cases f : fldB tx a (lE tx a) = true
          · rw [if_pos f, if_pos f, Option.bind_some]
            have g := fld_ge (tx := tx) hle'.1
            have f' := of_decide_eq_true f
            have hnl : (sub tx a (fldN tx a (lE tx a))).length = fldN tx a (lE tx a) - a := sub_len (by omega) g.1
            have hvl : (sub tx (fldC tx a (lE tx a) + 1) (lE tx a)).length = lE tx a - (fldC tx a (lE tx a) + 1) := sub_len hle'.2 (by omega)
            dsimp only
            unfold fb_X12_readHeader_47
            rw [if_neg (show ¬ nI (fldC tx a (lE tx a) + 1) < 0 from nI_nlt (b := 0) (by omega) (by omega))]
            unfold fb_X12_readHeader_59
            rw [if_pos rfl]
            have i1 : (wF (wF t 1088 dn.length (nI a)) 1089 dn.length (nI (fldN tx a (lE tx a) - a))).I 1079 14 = nI dn.length := h5.2.1
            rw [i1, p_1090 (by omega), Option.bind_some]
            have o0 : out rNo (fun k f => (1088 ≤ k ∧ k ≤ 1091 ∧ dn.length ≤ f) ∨ (k = 1092 ∧ vs ≤ f)) t (wF (wF (wF t 1088 dn.length (nI a)) 1089 dn.length (nI (fldN tx a (lE tx a) - a))) 1090 dn.length (nI vs)) := out_F (out_F (out_F out_r (by omega)) (by omega)) (by omega)
            have k0 := h5.k o0
            have u88 : (wF (wF (wF t 1088 dn.length (nI a)) 1089 dn.length (nI (fldN tx a (lE tx a) - a))) 1090 dn.length (nI vs)).F 1088 dn.length = nI a := by rw [wF_o (by omega), wF_o (by omega)]; exact wF_e _ _ _ _
            have u89 : (wF (wF (wF t 1088 dn.length (nI a)) 1089 dn.length (nI (fldN tx a (lE tx a) - a))) 1090 dn.length (nI vs)).F 1089 dn.length = nI (fldN tx a (lE tx a) - a) := by rw [wF_o (by omega)]; exact wF_e _ _ _ _
            have u90 : (wF (wF (wF t 1088 dn.length (nI a)) 1089 dn.length (nI (fldN tx a (lE tx a) - a))) 1090 dn.length (nI vs)).F 1090 dn.length = nI vs := wF_e _ _ _ _
            generalize wF (wF (wF t 1088 dn.length (nI a)) 1089 dn.length (nI (fldN tx a (lE tx a) - a))) 1090 dn.length (nI vs) = t0 at *
            obtain ⟨t1, a1, a2, a3⟩ := cp2 (tx := tx) (F := fun n x b t => fn_X12_readHeader_81 (fn_X12_readHeader_11 N') n x true (nI (lE tx a)) b t) (G := fun x t => fn_X12_readHeader_116 (fn_X12_readHeader_11 N') uFu x (nI (lE tx a) + 2) true t) (e := lE tx a) (fun n x b t => rfl) hle'.2 (lE tx a - (fldC tx a (lE tx a) + 1)) uFu vs (fldC tx a (lE tx a) + 1) t0 (by omega) (by omega) (by show _ ≤ 1000000; omega) k0.1
            have e2 : nI (lE tx a) + 2 = nI (lE tx a + 2) := nI_add (lE tx a) 2
            have hq : rHq t1 tx dn a (sub tx a (fldN tx a (lE tx a))) vs (sub tx (fldC tx a (lE tx a) + 1) (lE tx a)) := by
              refine ⟨k0.k (out_w a2 (fun _ _ z => z) (fun k f z => by omega)), (a2.2.2 _ _ (by omega)).trans u88, ((a2.2.2 _ _ (by omega)).trans u89).trans (by rw [hnl]), by omega, fun j hj => ?_, (a2.2.2 _ _ (by omega)).trans u90, sub_by ht.2.1, fun j hj => ?_⟩
              · rw [sub_get (by omega)]
              · rw [sub_get (by omega)]
                exact a3 j (by omega)
            obtain ⟨t2, b1, b2, b3⟩ := ih.2 N' uFu (lE tx a + 2) t1 dn a (sub tx a (fldN tx a (lE tx a))) vs (sub tx (fldC tx a (lE tx a) + 1) (lE tx a)) (by omega) (by omega) (by show _ ≤ 1000000; omega) (by omega) q4 hq (by omega) (by omega)
            refine ⟨t2, ?_, b2, out_t (out_w o0 (fun _ _ z => z.elim) (fun k f z => by unfold rhF; omega)) (out_t (out_w a2 (fun _ _ z => z.elim) (fun k f z => by unfold rhF; omega)) b3)⟩
            rw [show fn_X12_readHeader_81 (fn_X12_readHeader_11 N') uFu (nI vs) true (nI (lE tx a)) (nI (fldC tx a (lE tx a) + 1)) t0 = _ from a1, e2, ← hvl]
            exact b1
          · rw [if_neg f, if_neg f, Option.bind_some]
            refine ⟨t, e47 _, ?_, out_r⟩
            rw [List.append_nil]
            exact h5.fl (by omega)
    exact ⟨hP, hQP (n + 1) hP (fun n' z => by cases z; exact ih.2)⟩
/-- the fields of a message -/
def hdr (tx : List Nat) : List (List Nat × List Nat) := hdL tx (tx.length) 0 none
theorem r_header {t : uS} {tx : List Nat} (h : rTt t tx) (hE : crE tx) : ∃ t1 : uS, fn_X12_readHeader t = some t1 ∧ rFl t1 (hdr tx) ∧ out rhI rhF t t1 := by
  have hl := h.1
  have ho : out rhI rhF t (wI t 1079 14 0) := out_I out_r ⟨rfl, rfl⟩
  obtain ⟨t1, a1, a2, a3⟩ := (r_hdL hE tx.length (by omega)).1 uFu 0 (wI t 1079 14 0) [] 0 (by omega) (by show _ ≤ 1000000; omega) (by omega) (fun z => by
    cases hE with
    | inl e => subst e; exact absurd z (by decide)
    | inr e => omega) ⟨h.h ho, wI_e _ _ _ _, fun f hf => absurd hf (Nat.not_lt_zero _)⟩ (Nat.zero_le _) (Nat.zero_le _)
  exact ⟨t1, a1, a2, out_t ho a3⟩
