/-! the reference saves a script; a free place for one -/
theorem S8_e {i : Nat} (h : i < 2 ^ 31) : (((56 : Int32) - ((8 : Int32) * (nI i - nI i / 8 * 8))).toInt64 &&& 63) = S8 (i % 8) := by
  have e : ∀ r, r < 8 → ((56 : Int32) - ((8 : Int32) * nI r)).toInt64 &&& 63 = Int64.ofNat (56 - 8 * r) := by decide
  have e2 : nI i - nI i / 8 * 8 = nI (i % 8) := pk_rem (d := 8) h (by decide) (by decide)
  rw [e2, e _ (Nat.mod_lt _ (by decide))]
  rfl
theorem rSb_S (t : uS) (sl j : Nat) : rSb t sl j = (t.L 1154 (250 * sl + j / 8) >>> S8 (j % 8)).toInt32 &&& 255 := rfl
def svL (sl k f : Nat) : Prop := k = 1154 ∧ 250 * sl ≤ f ∧ f < 250 * sl + 250
theorem r_saveL {sl : Nat} (hs : sl < 16) {x : List Nat} (hx : x.length ≤ 2000) (h8 : bys x) : ∀ (n i : Nat) (t : uS), x.length < i + n → i ≤ x.length → t.I 1079 29 = nI x.length → (∀ j : Nat, j < x.length → t.F 1096 j = nI (x.getD j 0)) → (∀ j : Nat, j < i → rSb t sl j = nI (x.getD j 0)) → ∃ t1 : uS, fn_X12_saveScript_12 n (nI sl) (nI i) t = some t1 ∧ (∀ j : Nat, j < x.length → rSb t1 sl j = nI (x.getD j 0)) ∧ ol rNo rNo (svL sl) t t1 := by
  intro n
  induction n with
  | zero => intro i t a b; omega
  | succ n ih =>
    intro i t a b hI hF hd
    unfold fn_X12_saveScript_12 fb_X12_saveScript_12
    rw [hI]
    by_cases c : x.length ≤ i
    · rw [if_pos (nI_le c (by omega))]
      exact ⟨t, rfl, fun j hj => hd j (by omega), ol_r⟩
    · have e3 : nI i / 8 = nI (i / 8) := pk_div (d := 8) (by omega) (by decide) (by decide)
      have h8' := h8 i
      rw [if_neg (nI_ge (by omega) (by omega)), S8_e (by omega), e3]
      simp (disch := omega) only [show (250 : Int32) = nI 250 from rfl, nI_mul, nI_add, g_1154, g_1096, p_1154, Option.bind_some, hF i (by omega)]
      obtain ⟨t1, a1, a2, a3⟩ := ih (i + 1) (wL t 1154 (250 * sl + i / 8) (pk8 (t.L 1154 (250 * sl + i / 8)) (i % 8) (x.getD i 0))) (by omega) (by omega) hI hF (by
        intro j hj
        rw [rSb_S, wL_L]
        by_cases d : 250 * sl + j / 8 = 250 * sl + i / 8
        · rw [if_pos ⟨rfl, d⟩, pk8_rd (Nat.mod_lt _ (by decide)) (Nat.mod_lt _ (by decide)) h8']
          by_cases e : j = i
          · rw [e, if_pos rfl]
          · rw [if_neg (by omega), ← d, ← rSb_S]; exact hd j (by omega)
        · rw [if_neg (fun e => d e.2), ← rSb_S]; exact hd j (by omega))
      refine ⟨t1, ?_, a2, ol_t (ol_L ol_r ⟨rfl, by omega, by omega⟩) a3⟩
      rw [← nI_1] at a1
      exact a1
theorem r_save {sl : Nat} (hs : sl < 16) {t : uS} {x : List Nat} (hx : x.length ≤ 2000) (h8 : bys x) (hI : t.I 1079 29 = nI x.length) (hF : ∀ j : Nat, j < x.length → t.F 1096 j = nI (x.getD j 0)) : ∃ t1 : uS, fn_X12_saveScript (nI sl) t = some t1 ∧ t1.F 1155 sl = nI x.length ∧ (∀ j : Nat, j < x.length → rSb t1 sl j = nI (x.getD j 0)) ∧ ol rNo (fun k f => k = 1155 ∧ f = sl) (svL sl) t t1 := by
  obtain ⟨t1, a1, a2, a3⟩ := r_saveL hs hx h8 uFu 0 (wF t 1155 sl (nI x.length)) (by show _ < 0 + 1000000; omega) (Nat.zero_le _) hI (fun j hj => (wF_o (by omega)).trans (hF j hj)) (fun j hj => absurd hj (Nat.not_lt_zero j))
  refine ⟨t1, ?_, ?_, a2, ol_t (ol_F ol_r ⟨rfl, rfl⟩) (ol_w a3 (fun _ _ h => h) (fun _ _ h => h.elim) (fun _ _ h => h))⟩
  · unfold fn_X12_saveScript
    rw [hI, p_1155 (by omega), Option.bind_some]
    exact a1
  · rw [a3.2.2.1 _ _ (fun z => z), wF_e]
theorem r_free {u : Nat} (hu : u < 4) {t : uS} {sl : List Nat} {scs : List (List Nat × List Nat)} {ac : Option Nat} (h : rSc t u sl scs ac) (hn : scs.length < 4) : ∃ f : Nat, fn_X12_freeSlot (nI u) t = some (nI f) ∧ 4 * u ≤ f ∧ f < 4 * u + 4 ∧ ∀ i : Nat, i < scs.length → sl.getD i 0 ≠ f := by
  -- one place after the other
  have inner : ∀ (m c : Nat) (b : Bool) (i n : Nat), scs.length < i + m → i ≤ scs.length → 4 * u ≤ c → c < 4 * u + 4 → fn_X12_freeSlot_15 (fn_X12_freeSlot_6 n) m (nI u) (nI c) b (nI i) t = if (b || decide (∃ j : Nat, j < scs.length ∧ i ≤ j ∧ sl.getD j 0 = c)) = true then fn_X12_freeSlot_6 n (nI u) (nI (c + 1)) true t else fn_X12_freeSlot_6 n (nI u) (nI c) false t := by
    intro m
    induction m with
    | zero => intro c b i n e1 e2; omega
    | succ m ih =>
      intro c b i n e1 e2 e3 e4
      unfold fn_X12_freeSlot_15 fb_X12_freeSlot_15
      rw [g_1149 hu, Option.bind_some, h.2.2.1]
      by_cases d : scs.length ≤ i
      · rw [if_pos (nI_le d (by omega)), show decide (∃ j : Nat, j < scs.length ∧ i ≤ j ∧ sl.getD j 0 = c) = false from decide_eq_false (fun ⟨j, x1, x2, x3⟩ => by omega), Bool.or_false, nI_1]
        cases b <;> rfl
      · rw [if_neg (nI_ge (by omega) (by omega))]
        obtain ⟨q1, q2, q3, q4⟩ := h.2.2.2.1 i (by omega)
        simp (disch := omega) only [show (4 : Int32) = nI 4 from rfl, nI_mul, nI_add, nI_1, g_1151, Option.bind_some, q1, nI_eq]
        cases b with
        | true =>
          rw [if_pos rfl, ih c true (i + 1) n (by omega) (by omega) e3 e4, Bool.true_or, Bool.true_or]
        | false =>
          rw [if_neg (by decide), Bool.false_or]
          by_cases g : sl.getD i 0 = c
          · rw [if_pos g, ih c true (i + 1) n (by omega) (by omega) e3 e4, Bool.true_or, decide_eq_true ⟨i, by omega, Nat.le_refl _, g⟩]
          · rw [if_neg g, ih c false (i + 1) n (by omega) (by omega) e3 e4, Bool.false_or]
            have : decide (∃ j : Nat, j < scs.length ∧ i + 1 ≤ j ∧ sl.getD j 0 = c) = decide (∃ j : Nat, j < scs.length ∧ i ≤ j ∧ sl.getD j 0 = c) := decide_eq_decide.mpr ⟨fun ⟨j, x1, x2, x3⟩ => ⟨j, x1, by omega, x3⟩, fun ⟨j, x1, x2, x3⟩ => ⟨j, x1, by have : j ≠ i := fun z => g (z ▸ x3); omega, x3⟩⟩
            rw [this]
  have used : ∀ c : Nat, Decidable (∃ j : Nat, j < scs.length ∧ sl.getD j 0 = c) := fun c => inferInstance
  have outer : ∀ (n c : Nat), 4 * u ≤ c → c < 4 * u + 4 → fn_X12_freeSlot_6 (n + 2) (nI u) (nI c) true t = if (∃ j : Nat, j < scs.length ∧ sl.getD j 0 = c) then fn_X12_freeSlot_6 (n + 1) (nI u) (nI (c + 1)) true t else some (nI c) := by
    intro n c e1 e2
    show fb_X12_freeSlot_6 (fn_X12_freeSlot_6 (n + 1)) _ _ _ _ = _
    unfold fb_X12_freeSlot_6
    rw [if_pos rfl]
    have := inner uFu c false 0 (n + 1) (by show _ < 0 + 1000000; omega) (Nat.zero_le _) e1 e2
    have t0 : fn_X12_freeSlot_15 (fn_X12_freeSlot_6 (n + 1)) uFu (nI u) (nI c) false 0 t = _ := this
    rw [t0, Bool.false_or]
    have e : decide (∃ j : Nat, j < scs.length ∧ 0 ≤ j ∧ sl.getD j 0 = c) = decide (∃ j : Nat, j < scs.length ∧ sl.getD j 0 = c) := decide_eq_decide.mpr ⟨fun ⟨j, x1, x2, x3⟩ => ⟨j, x1, x3⟩, fun ⟨j, x1, x3⟩ => ⟨j, x1, Nat.zero_le _, x3⟩⟩
    rw [e]
    by_cases g : (∃ j : Nat, j < scs.length ∧ sl.getD j 0 = c)
    · rw [decide_eq_true g, if_pos rfl, if_pos g]
    · rw [decide_eq_false g, if_neg (by decide), if_neg g]
      rfl
  have ex : ∃ c : Nat, 4 * u ≤ c ∧ c < 4 * u + 4 ∧ ¬ (∃ j : Nat, j < scs.length ∧ sl.getD j 0 = c) := by
    apply Classical.byContradiction
    intro hno
    have all : ∀ c : Nat, 4 * u ≤ c → c < 4 * u + 4 → ∃ j : Nat, j < scs.length ∧ sl.getD j 0 = c := fun c a b => Classical.byContradiction (fun z => hno ⟨c, a, b, z⟩)
    obtain ⟨j0, a0, b0⟩ := all (4 * u) (by omega) (by omega)
    obtain ⟨j1, a1, b1⟩ := all (4 * u + 1) (by omega) (by omega)
    obtain ⟨j2, a2, b2⟩ := all (4 * u + 2) (by omega) (by omega)
    obtain ⟨j3, a3, b3⟩ := all (4 * u + 3) (by omega) (by omega)
    have d01 : j0 ≠ j1 := fun e => by rw [e] at b0; omega
    have d02 : j0 ≠ j2 := fun e => by rw [e] at b0; omega
    have d03 : j0 ≠ j3 := fun e => by rw [e] at b0; omega
    have d12 : j1 ≠ j2 := fun e => by rw [e] at b1; omega
    have d13 : j1 ≠ j3 := fun e => by rw [e] at b1; omega
    have d23 : j2 ≠ j3 := fun e => by rw [e] at b2; omega
    omega
  obtain ⟨c, c1, c2, c3⟩ := ex
  have fin : ∀ (d n : Nat), 4 * u ≤ c - d → d ≤ c → d ≤ n → ∃ f : Nat, fn_X12_freeSlot_6 (n + 2) (nI u) (nI (c - d)) true t = some (nI f) ∧ 4 * u ≤ f ∧ f < 4 * u + 4 ∧ ¬ (∃ j : Nat, j < scs.length ∧ sl.getD j 0 = f) := by
    intro d
    induction d with
    | zero =>
      intro n h1 h2 h3
      refine ⟨c, ?_, c1, c2, c3⟩
      rw [Nat.sub_zero, outer n c c1 c2, if_neg c3]
    | succ d ih =>
      intro n h1 h2 h3
      rw [outer n (c - (d + 1)) h1 (by omega)]
      by_cases g : (∃ j : Nat, j < scs.length ∧ sl.getD j 0 = c - (d + 1))
      · rw [if_pos g, show c - (d + 1) + 1 = c - d by omega]
        have := ih (n - 1) (by omega) (by omega) (by omega)
        rw [show n - 1 + 2 = n + 1 by omega] at this
        exact this
      · rw [if_neg g]
        exact ⟨_, rfl, h1, by omega, g⟩
  obtain ⟨f, f1, f2, f3, f4⟩ := fin (c - 4 * u) 999998 (by omega) (by omega) (by omega)
  refine ⟨f, ?_, f2, f3, fun i hi e => f4 ⟨i, hi, e⟩⟩
  unfold fn_X12_freeSlot
  rw [show (4 : Int32) * nI u = nI (4 * u) from nI_mul 4 u]
  rw [show c - (c - 4 * u) = 4 * u by omega] at f1
  exact f1
