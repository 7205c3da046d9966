/-! the scripts of a user on both sides -/
def sc0 : List Nat × List Nat := ([], [])
def cSe (s : uS) (e : Nat) (x : List Nat × List Nat) : Prop := e < s.n ∧ 1171 ≤ e ∧ (s.c e).1 = 1 ∧ (∃ nb : Nat, s.R e 0 = some nb ∧ nb ≠ 0 ∧ cBn s nb x.1) ∧ ∃ tb : Nat, s.R e 1 = some tb ∧ cBn s tb x.2
theorem cSe.is {s : uS} {e : Nat} {x : List Nat × List Nat} (h : cSe s e x) : uIs s e 1 := by
  refine ⟨Or.inr h.1, ?_⟩
  unfold uCl
  rw [if_neg (by have := h.2.1; omega)]
  exact h.2.2.1
def cSc (s : uS) (u : Nat) (es : List Nat) (scs : List (List Nat × List Nat)) (ac : Option Nat) : Prop := es.length = scs.length ∧ scs.length ≤ 4 ∧ s.I (985 + 16 * u) 3 = nI scs.length ∧ (∀ i : Nat, i < scs.length → s.P (985 + 16 * u + 1) i = some (es.getD i 0) ∧ cSe s (es.getD i 0) (scs.getD i sc0)) ∧ (∀ i j : Nat, i < scs.length → j < scs.length → es.getD i 0 = es.getD j 0 → i = j) ∧ (ac = none ∧ s.R (985 + 16 * u) 5 = none ∨ ∃ i : Nat, ac = some i ∧ i < scs.length ∧ s.R (985 + 16 * u) 5 = some (es.getD i 0))
/-- a byte of a script in the reference -/
def rSb (t : uS) (sl j : Nat) : Int32 := (t.L 1154 (250 * sl + j / 8) >>> Int64.ofNat (56 - 8 * (j % 8))).toInt32 &&& 255
/-- the lasts of the reference's nodes are places -/
def lsO (t : uS) : Prop := ∀ n : Nat, n < 520 → t.F 1099 n = -1 ∨ ∃ m : Nat, m < 520 ∧ t.F 1100 n = nI m
/-- a script without a fault: the reference, somewhere, has read it so -/
def gdS (x : List Nat) : Prop := ∃ (t t1 : uS) (r : Int32), t.I 1079 29 = nI x.length ∧ (∀ j : Nat, j < x.length → t.F 1096 j = nI (x.getD j 0)) ∧ lsO t ∧ fn_X12_read t = some (t1, r) ∧ r < 0
def rSe (t : uS) (sl : Nat) (x : List Nat × List Nat) : Prop := ((0 < x.1.length ∧ x.1.length ≤ 20) ∧ bys x.1 ∧ t.F 1153 sl = nI x.1.length ∧ ∀ j : Nat, j < x.1.length → t.F 1152 (20 * sl + j) = nI (x.1.getD j 0)) ∧ (x.2.length ≤ 2000 ∧ gdS x.2) ∧ bys x.2 ∧ t.F 1155 sl = nI x.2.length ∧ ∀ j : Nat, j < x.2.length → rSb t sl j = nI (x.2.getD j 0)
def rSc (t : uS) (u : Nat) (sl : List Nat) (scs : List (List Nat × List Nat)) (ac : Option Nat) : Prop := sl.length = scs.length ∧ scs.length ≤ 4 ∧ t.F 1149 u = nI scs.length ∧ (∀ i : Nat, i < scs.length → t.F 1151 (4 * u + i) = nI (sl.getD i 0) ∧ 4 * u ≤ sl.getD i 0 ∧ sl.getD i 0 < 4 * u + 4 ∧ rSe t (sl.getD i 0) (scs.getD i sc0)) ∧ (∀ i j : Nat, i < scs.length → j < scs.length → sl.getD i 0 = sl.getD j 0 → i = j) ∧ (ac = none ∧ t.F 1150 u = -1 ∨ ∃ i : Nat, ac = some i ∧ i < scs.length ∧ t.F 1150 u = nI (sl.getD i 0))
def pT (u : Nat) (s t : uS) : Prop := ∃ (scs : List (List Nat × List Nat)) (ac : Option Nat), (∃ es : List Nat, cSc s u es scs ac) ∧ ∃ sl : List Nat, rSc t u sl scs ac
def snx (x : List Nat) : List (List Nat × List Nat) → Nat → Option Nat
  | [], _ => none
  | y :: ys, i => if x = y.1 then some i else snx x ys (i + 1)
theorem dropS {l : List (List Nat × List Nat)} {i : Nat} (h : i < l.length) : l.drop i = l.getD i sc0 :: l.drop (i + 1) := by
  rw [List.drop_eq_getElem_cons h, List.getD_eq_getElem?_getD, List.getElem?_eq_getElem h]
  rfl
theorem snx_lt {x : List Nat} : ∀ {l : List (List Nat × List Nat)} {i j : Nat}, snx x l i = some j → i ≤ j ∧ j < i + l.length := by
  intro l
  induction l with
  | nil => intro i j h; cases h
  | cons y l ih =>
    intro i j h
    unfold snx at h
    rw [List.length_cons]
    split at h
    · cases h; omega
    · have := ih h; omega
theorem ucl_us {u : Nat} (hu : u < 4) : ucl (985 + 16 * u + 1) = (27, 4) ∧ ucl (985 + 16 * u + 2) = (27, 40) ∧ 985 + 16 * u + 2 < 1171 := by
  have : ∀ u, u < 4 → ucl (985 + 16 * u + 1) = (27, 4) ∧ ucl (985 + 16 * u + 2) = (27, 40) ∧ 985 + 16 * u + 2 < 1171 := by decide +kernel
  exact this u hu
theorem uP_27 {s : uS} {k N i : Nat} (hk : k < 1171) (hc : ucl k = (27, N)) : uP s k i = s.P k i := by
  unfold uP
  rw [uCl_c hk, hc, if_pos rfl]
theorem cSc.at {s : uS} {u i : Nat} (hu : u < 4) {es : List Nat} {scs : List (List Nat × List Nat)} {ac : Option Nat} (h : cSc s u es scs ac) (hi : i < scs.length) : pgt 27 s (985 + 16 * u + 1) (nI i) = some (es.getD i 0) := by
  obtain ⟨a, b, c⟩ := ucl_us hu
  have hl := h.2.1
  rw [pgt_c (by omega) a (by omega) (by decide), uP_27 (by omega) a]
  exact (h.2.2.2.1 i hi).1
theorem c_named {s : uS} {u p cap mo bg : Nat} (hu : u < 4) {K : Nat} {ts : List (List Nat)} {cur : List Nat} {es : List Nat} {scs : List (List Nat × List Nat)} {ac : Option Nat} (hk : uTx K cap mo) (h : cTz s K cap mo ts bg cur) (hp : p < ts.length) (hc : cSc s u es scs ac) : fn_X10_scriptNamed (985 + 16 * u) K (nI p) s = some ((snx (ts.getD p []) scs 0).map (fun i => es.getD i 0)) := by
  have key : ∀ (n i : Nat), scs.length < i + n → i ≤ scs.length → fn_X10_scriptNamed_2 n (985 + 16 * u) K (nI p) (nI i) s = some ((snx (ts.getD p []) (scs.drop i) i).map (fun i => es.getD i 0)) := by
    intro n
    induction n with
    | zero => intro i a b; omega
    | succ n ih =>
      intro i a b
      have hl := hc.2.1
      unfold fn_X10_scriptNamed_2 fb_X10_scriptNamed_2
      rw [hc.2.2.1]
      by_cases e : i = scs.length
      · rw [if_pos (nI_le (by omega) (by omega)), List.drop_eq_nil_of_le (by omega)]; rfl
      · have hi : i < scs.length := by omega
        have he := (hc.2.2.2.1 i hi).2
        obtain ⟨nb, r1, r2, r3⟩ := he.2.2.2.1
        rw [if_neg (nI_ge (by omega) (by omega)), hc.at hu hi, Option.bind_some, if_pos he.is, r1, Option.bind_some, if_pos r2, c_isSame hk h hp r3, eqT_f, Option.bind_some, dropS hi]
        unfold snx
        by_cases f : ts.getD p [] = (scs.getD i sc0).1
        · rw [if_pos f, decide_eq_true f, if_pos rfl, Option.bind_some]; rfl
        · rw [if_neg f, decide_eq_false f, if_neg (by decide), nI_1]
          exact ih (i + 1) (by omega) (by omega)
  have := key uFu 0 (by have := hc.2.1; show _ < 0 + 1000000; omega) (Nat.zero_le _)
  rw [List.drop_zero] at this
  exact this
theorem r_named {t : uS} {u p : Nat} (hu : u < 4) (hp : p < 2) {x : List Nat} {sl : List Nat} {scs : List (List Nat × List Nat)} {ac : Option Nat} (h : rPt u p t x) (hc : rSc t u sl scs ac) : fn_X12_scriptOf (nI u) (nI p) t = some (oI (snx x scs 0)) := by
  have key : ∀ (n i : Nat), scs.length < i + n → i ≤ scs.length → fn_X12_scriptOf_2 n (nI u) (nI p) (nI i) t = some (oI (snx x (scs.drop i) i)) := by
    intro n
    induction n with
    | zero => intro i a b; omega
    | succ n ih =>
      intro i a b
      have hl := hc.2.1
      unfold fn_X12_scriptOf_2 fb_X12_scriptOf_2
      rw [g_1149 hu, Option.bind_some, hc.2.2.1]
      by_cases e : i = scs.length
      · rw [if_pos (nI_le (by omega) (by omega)), List.drop_eq_nil_of_le (by omega)]; rfl
      · have hi : i < scs.length := by omega
        obtain ⟨q1, q2, q3, ⟨q4, q5, q6, q7⟩, q8⟩ := hc.2.2.2.1 i hi
        obtain ⟨x1, x2, x3, x4⟩ := h
        rw [if_neg (nI_ge (by omega) (by omega))]
        simp (disch := omega) only [lit, nI_mul, nI_add, g_1151, g_1153, g_1164, Option.bind_some, q1, q6, x3, nI_eq]
        have k2 : ∀ bb : Bool, (bb = true → x.length = (scs.getD i sc0).1.length) → fn_X12_scriptOf_54 (fn_X12_scriptOf_2 n) uFu (nI u) (nI p) (nI i) (nI (sl.getD i 0)) bb 0 t = fb_X12_scriptOf_108 (fn_X12_scriptOf_2 n) (nI u) (nI p) (nI i) (bb && decide (∀ j : Nat, j < (scs.getD i sc0).1.length → (decide (x.getD j 0 = (scs.getD i sc0).1.getD j 0)) = true)) t := by
          intro bb hbb
          cases bb with
          | false =>
            show fb_X12_scriptOf_54 _ _ (nI u) (nI p) (nI i) (nI (sl.getD i 0)) false 0 t = _
            unfold fb_X12_scriptOf_54
            rw [g_1153 (by omega), Option.bind_some, if_neg (show ¬ (false = true) by decide), ite_self]
            rfl
          | true =>
            have hlen := hbb rfl
            refine cmp0 (F := fun m bb j => fn_X12_scriptOf_54 (fn_X12_scriptOf_2 n) m (nI u) (nI p) (nI i) (nI (sl.getD i 0)) bb j t) (fin := fun bb => fb_X12_scriptOf_108 (fn_X12_scriptOf_2 n) (nI u) (nI p) (nI i) bb t) (L := (scs.getD i sc0).1.length) (p := fun j => decide (x.getD j 0 = (scs.getD i sc0).1.getD j 0)) ?_ (by show _ < 1000000; omega) true
            intro m bb j hj
            show fb_X12_scriptOf_54 _ _ (nI u) (nI p) (nI i) (nI (sl.getD i 0)) bb (nI j) t = _
            unfold fb_X12_scriptOf_54
            rw [g_1153 (by omega), Option.bind_some, q6]
            by_cases c : (scs.getD i sc0).1.length ≤ j
            · rw [if_pos (nI_le c (by omega)), if_pos c]
            · rw [if_neg (nI_ge (by omega) (by omega)), if_neg c]
              cases bb with
              | false => rfl
              | true =>
                have b1 := q5 j
                have b2 := x2 j
                rw [if_pos rfl, if_pos rfl, r_partText hu hp (by omega), x4 j (by omega)]
                simp (disch := omega) only [lit, nI_mul, nI_add, g_1152, Option.bind_some, q7 j (by omega), nI_eq]
                by_cases f : x.getD j 0 = (scs.getD i sc0).1.getD j 0
                · rw [if_pos f.symm, decide_eq_true f]
                · rw [if_neg (fun z => f z.symm), decide_eq_false f]
        have hx := eqT_f x (scs.getD i sc0).1
        unfold eqT eqB at hx
        simp only [if_neg (show ¬ (false = true) by decide)] at hx
        have fin : ∀ bb : Bool, bb = decide (x = (scs.getD i sc0).1) → fb_X12_scriptOf_108 (fn_X12_scriptOf_2 n) (nI u) (nI p) (nI i) bb t = some (oI (snx x (scs.drop i) i)) := by
          intro bb hb
          unfold fb_X12_scriptOf_108
          rw [dropS hi]
          unfold snx
          by_cases f : x = (scs.getD i sc0).1
          · rw [hb, decide_eq_true f, if_pos rfl, if_pos f]; rfl
          · rw [hb, decide_eq_false f, if_neg (by decide), if_neg f, nI_1]
            exact ih (i + 1) (by omega) (by omega)
        by_cases f : (scs.getD i sc0).1.length = x.length
        · rw [if_pos f]
          refine (k2 true (fun _ => f.symm)).trans (fin _ ?_)
          rw [decide_eq_true f.symm] at hx
          exact hx
        · rw [if_neg f]
          refine (k2 false (fun z => by cases z)).trans (fin _ ?_)
          rw [decide_eq_false (fun z => f z.symm)] at hx
          rw [← hx]
  have := key uFu 0 (by have := hc.2.1; show _ < 0 + 1000000; omega) (Nat.zero_le _)
  rw [List.drop_zero] at this
  exact this
