/-! the reference's numbers; GETSCRIPT, LISTSCRIPTS -/
def onI (k f : Nat) : Prop := k = 1079 ∧ f = 21
def onF (k _f : Nat) : Prop := k = 1093
theorem dl_len (n : Nat) : ∀ j : Nat, (dl n j).length = j + 1 := by
  intro j
  induction j with
  | zero => rfl
  | succ j ih => unfold dl; rw [List.length_cons, ih]
theorem dl_lt (n : Nat) : ∀ (j i : Nat), (dl n j).getD i 0 < 58 := by
  intro j
  induction j with
  | zero =>
    intro i
    cases i with
    | zero => show 48 + n % 10 < 58; omega
    | succ i => show (0 : Nat) < 58; decide
  | succ j ih =>
    intro i
    cases i with
    | zero => show 48 + n / 10 ^ (j + 1) % 10 < 58; omega
    | succ i => exact ih i
theorem r_add1 {t : uS} {c : Nat} (h : t.I 1079 21 = nI c) (hc : c < 2100) (x : Int32) : fn_X12_add x t = some (wI (wF t 1093 c x) 1079 21 (nI (c + 1))) := by
  unfold fn_X12_add
  rw [h, p_1093 (by omega), Option.bind_some, wF_I, h, nI_1]
theorem r_oneD {n : Nat} (hn : n < 100000) : ∀ (j m c : Nat) (t : uS), j ≤ 4 → c + j < 2090 → t.I 1079 21 = nI c → ∃ t1 : uS, fn_X12_oneNumber_23 (m + 2 + j) (nI n) (nI (10 ^ j)) t = some t1 ∧ t1.I 1079 21 = nI (c + j + 1) ∧ (∀ i : Nat, i ≤ j → t1.F 1093 (c + i) = nI ((dl n j).getD i 0)) ∧ (∀ i : Nat, i < c → t1.F 1093 i = t.F 1093 i) ∧ out onI onF t t1 := by
  intro j
  have stp : ∀ (j m c : Nat) (t : uS), j ≤ 4 → c < 2090 → t.I 1079 21 = nI c → fn_X12_oneNumber_23 (m + 1) (nI n) (nI (10 ^ j)) t = fn_X12_oneNumber_23 m (nI n) (nI (10 ^ j / 10)) (wI (wF t 1093 c (nI (48 + n / 10 ^ j % 10))) 1079 21 (nI (c + 1))) := by
    intro j m c t hj hc h
    obtain ⟨p1, p2⟩ := p10_lt hj
    have hd : n / 10 ^ j < 2 ^ 31 := Nat.lt_of_le_of_lt (Nat.div_le_self _ _) (by omega)
    show fb_X12_oneNumber_23 (fn_X12_oneNumber_23 m) _ _ _ = _
    unfold fb_X12_oneNumber_23
    rw [if_neg (nI_nle p1 (by omega)), if_pos (nI_ne0 p1 (by omega)), pk_div (by omega) p1 (by omega), show nI (n / 10 ^ j) - nI (n / 10 ^ j) / 10 * 10 = nI (n / 10 ^ j % 10) from pk_rem (d := 10) hd (by decide) (by decide), show (48 : Int32) + nI (n / 10 ^ j % 10) = nI (48 + n / 10 ^ j % 10) from nI_add 48 _, r_add1 h (by omega), Option.bind_some, show nI (10 ^ j) / 10 = nI (10 ^ j / 10) from pk_div (d := 10) (by omega) (by decide) (by decide)]
  induction j with
  | zero =>
    intro m c t hj hc h
    refine ⟨wI (wF t 1093 c (nI (48 + n / 10 ^ 0 % 10))) 1079 21 (nI (c + 1)), ?_, wI_e _ _ _ _, ?_, ?_, out_I (out_F out_r rfl) ⟨rfl, rfl⟩⟩
    · rw [stp 0 (m + 1) c t hj (by omega) h]
      show fb_X12_oneNumber_23 _ _ _ _ = _
      unfold fb_X12_oneNumber_23
      rw [if_pos (show nI (10 ^ 0 / 10) ≤ 0 by decide)]
    · intro i hi
      rw [show i = 0 by omega, wI_F, Nat.add_zero, wF_e, Nat.pow_zero, Nat.div_one]; rfl
    · intro i hi
      rw [wI_F, wF_o (by omega)]
  | succ j ih =>
    intro m c t hj hc h
    have hpj : 10 ^ (j + 1) / 10 = 10 ^ j := by rw [Nat.pow_succ, Nat.mul_div_cancel _ (by decide)]
    obtain ⟨t1, a1, a2, a3, a4, a5⟩ := ih m (c + 1) (wI (wF t 1093 c (nI (48 + n / 10 ^ (j + 1) % 10))) 1079 21 (nI (c + 1))) (by omega) (by omega) (wI_e _ _ _ _)
    refine ⟨t1, ?_, by rw [a2, show c + 1 + j + 1 = c + (j + 1) + 1 by omega], ?_, ?_, out_t (out_I (out_F out_r rfl) ⟨rfl, rfl⟩) a5⟩
    · rw [show m + 2 + (j + 1) = (m + 2 + j) + 1 by omega, stp (j + 1) (m + 2 + j) c t hj (by omega) h, hpj]
      exact a1
    · intro i hi
      cases i with
      | zero => rw [Nat.add_zero, a4 c (by omega), wI_F, wF_e]; rfl
      | succ i => rw [show c + (i + 1) = c + 1 + i by omega, a3 i (by omega)]; rfl
    · intro i hi
      rw [a4 i (by omega), wI_F, wF_o (by omega)]
theorem hp_le (n : Nat) : hp n ≤ 4 := by unfold hp; split; omega; split; omega; split; omega; split; omega; omega
theorem r_oneNumber {n : Nat} (hn : n < 100000) (t : uS) : ∃ t1 : uS, fn_X12_oneNumber (nI n) t = some t1 ∧ t1.I 1079 21 = nI (dl n (hp n)).length ∧ (∀ i : Nat, i < (dl n (hp n)).length → t1.F 1093 i = nI ((dl n (hp n)).getD i 0)) ∧ out onI onF t t1 := by
  have step : ∀ (j m : Nat), j ≤ 4 → fn_X12_oneNumber_2 (m + 1) (nI n) (nI (10 ^ j)) t = if n < 10 ^ (j + 1) then fn_X12_oneNumber_23 uFu (nI n) (nI (10 ^ j)) (wI t 1079 21 0) else fn_X12_oneNumber_2 m (nI n) (nI (10 ^ (j + 1))) t := by
    intro j m hj
    obtain ⟨p1, p2⟩ := p10_lt hj
    have hd : n / 10 ^ j < 2 ^ 31 := Nat.lt_of_le_of_lt (Nat.div_le_self _ _) (by omega)
    have hdv : n / 10 ^ j < 10 ↔ n < 10 ^ (j + 1) := by rw [Nat.div_lt_iff_lt_mul p1, Nat.pow_succ, Nat.mul_comm]
    show fb_X12_oneNumber_2 (fn_X12_oneNumber_2 m) _ _ _ = _
    unfold fb_X12_oneNumber_2
    rw [if_pos (nI_ne0 p1 (by omega)), pk_div (by omega) p1 (by omega)]
    by_cases c : n < 10 ^ (j + 1)
    · rw [if_pos (show nI (n / 10 ^ j) < 10 from nI_lt (hdv.mpr c) (by decide)), if_pos c]
    · rw [if_neg (show ¬ nI (n / 10 ^ j) < 10 from nI_nlt (show 10 ≤ n / 10 ^ j by omega) hd), if_neg c, show nI (10 ^ j) * 10 = nI (10 ^ j * 10) from nI_mul _ 10, ← Nat.pow_succ]
  have h0 : fn_X12_oneNumber (nI n) t = fn_X12_oneNumber_23 uFu (nI n) (nI (10 ^ hp n)) (wI t 1079 21 0) := by
    show fn_X12_oneNumber_2 (999995 + 5) (nI n) (nI (10 ^ 0)) t = _
    rw [step 0 (999995 + 4) (by omega)]
    unfold hp
    by_cases c1 : n < 10
    · rw [if_pos c1, if_pos c1]
    · rw [if_neg c1, if_neg c1, step 1 (999995 + 3) (by omega)]
      by_cases c2 : n < 100
      · rw [if_pos c2, if_pos c2]
      · rw [if_neg c2, if_neg c2, step 2 (999995 + 2) (by omega)]
        by_cases c3 : n < 1000
        · rw [if_pos c3, if_pos c3]
        · rw [if_neg c3, if_neg c3, step 3 (999995 + 1) (by omega)]
          by_cases c4 : n < 10000
          · rw [if_pos c4, if_pos c4]
          · rw [if_neg c4, if_neg c4, step 4 999995 (by omega), if_pos (show n < 10 ^ (4 + 1) by omega)]
  have h4 := hp_le n
  obtain ⟨t1, a1, a2, a3, a4, a5⟩ := r_oneD hn (hp n) (1000000 - 2 - hp n) 0 (wI t 1079 21 0) h4 (by omega) (wI_e _ _ _ _)
  rw [show 1000000 - 2 - hp n + 2 + hp n = 1000000 by omega] at a1
  refine ⟨t1, h0.trans a1, by rw [a2, dl_len, Nat.zero_add], ?_, out_t (out_I out_r ⟨rfl, rfl⟩) a5⟩
  intro i hi
  rw [dl_len] at hi
  have := a3 i (by omega)
  rw [Nat.zero_add] at this
  exact this
theorem r_sayNumber {n u : Nat} {t : uS} {xs : List Int32} (hu : u < 5) (hn : n < 100000) (h : rQ t u xs) : ∃ t1 : uS, fn_X12_sayNumber (nI u) (nI n) t = some t1 ∧ rQ t1 u (q_tell xs (dl n (hp n))) ∧ out onI (fun k f => onF k f ∨ qR u k f) t t1 := by
  obtain ⟨t1, a1, a2, a3, a4⟩ := r_oneNumber hn t
  have h4 := hp_le n
  have hlen := dl_len n (hp n)
  have key : ∀ (m i : Nat) (t1 : uS) (ys : List Int32), (dl n (hp n)).length < i + m → i ≤ (dl n (hp n)).length → rQ t1 u ys → t1.I 1079 21 = nI (dl n (hp n)).length → (∀ i : Nat, i < (dl n (hp n)).length → t1.F 1093 i = nI ((dl n (hp n)).getD i 0)) → ∃ t2 : uS, fn_X12_sayNumber_7 m (nI u) (nI i) t1 = some t2 ∧ rQ t2 u (q_tell ys ((dl n (hp n)).drop i)) ∧ out rNo (qR u) t1 t2 := by
    intro m
    induction m with
    | zero => intro i t1 ys c1 c2; omega
    | succ m ih =>
      intro i t1 ys c1 c2 hq hI hF
      unfold fn_X12_sayNumber_7 fb_X12_sayNumber_7
      rw [hI]
      by_cases c : (dl n (hp n)).length ≤ i
      · rw [if_pos (nI_le c (by omega)), List.drop_eq_nil_of_le c]
        exact ⟨t1, rfl, hq, out_r⟩
      · obtain ⟨t2, b1, b2, b3⟩ := r_sayO hu hq (nI ((dl n (hp n)).getD i 0))
        obtain ⟨t3, e1, e2, e3⟩ := ih (i + 1) t2 _ (by omega) (by omega) b2 ((b3.2.1 _ _ (fun z => z)).trans hI) (fun i hi => (b3.2.2 _ _ (by unfold qR; omega)).trans (hF i hi))
        refine ⟨t3, ?_, by rw [dropN (by omega), q_tell_c]; exact e2, out_t b3 e3⟩
        rw [if_neg (nI_ge (by omega) (by omega)), g_1093 (by omega), Option.bind_some, hF i (by omega), b1, Option.bind_some, nI_1]
        exact e1
  have hq1 : rQ t1 u xs := h.fr (funext fun f => a4.2.2 _ _ (by unfold onF; omega)) (funext fun f => a4.2.2 _ _ (by unfold onF; omega))
  obtain ⟨t2, b1, b2, b3⟩ := key uFu 0 t1 xs (by show _ < 0 + 1000000; omega) (Nat.zero_le _) hq1 a2 a3
  refine ⟨t2, ?_, b2, out_t (out_w a4 (fun _ _ h => h) (fun _ _ h => Or.inl h)) (out_w b3 (fun _ _ h => h.elim) (fun _ _ h => Or.inr h))⟩
  unfold fn_X12_sayNumber
  rw [a1, Option.bind_some]
  exact b1
/-- the reference reads a script -/
theorem r_load {t : uS} {sl : Nat} (hs : sl < 16) {x : List Nat × List Nat} (h : rSe t sl x) : fn_X12_loadScript (nI sl) t = some (cpy (wI t 1079 29 (nI x.2.length)) 1096 0 0 x.2.length (fun j => nI (x.2.getD j 0))) := by
  obtain ⟨-, a5, a6, a7, a8⟩ := h
  unfold fn_X12_loadScript
  rw [g_1155 (by omega), Option.bind_some, a7]
  refine cpy0 (F := fun n i s => fn_X12_loadScript_12 n (nI sl) i s) (fin := fun s => some s) ?_ ?_ (by show _ < 1000000; omega)
  · intro n i hi
    show fb_X12_loadScript_12 _ _ (nI i) _ = _
    unfold fb_X12_loadScript_12
    have e : ∀ r, r < 8 → ((56 : Int32) - ((8 : Int32) * nI r)).toInt64 &&& 63 = Int64.ofNat (56 - 8 * r) := by decide
    have e2 : nI i - nI i / 8 * 8 = nI (i % 8) := pk_rem (d := 8) (by omega) (by decide) (by decide)
    have e3 : nI i / 8 = nI (i / 8) := pk_div (d := 8) (by omega) (by decide) (by decide)
    rw [e2, e _ (Nat.mod_lt _ (by decide)), e3]
    simp (disch := omega) only [show (250 : Int32) = nI 250 from rfl, nI_mul, nI_add, g_1154, p_1096, Option.bind_some]
    rw [cpy_I, wI_e, if_neg (nI_ge hi (by omega)), cpy_L]
    have : ((wI t 1079 29 (nI x.2.length)).L 1154 (250 * sl + i / 8) >>> Int64.ofNat (56 - 8 * (i % 8))).toInt32 &&& 255 = nI (x.2.getD i 0) := a8 i hi
    rw [this, nI_1, Nat.zero_add]
  · intro n
    show fb_X12_loadScript_12 _ _ (nI x.2.length) _ = _
    unfold fb_X12_loadScript_12
    rw [cpy_I, wI_e, if_pos (nI_le (Nat.le_refl _) (by omega))]
