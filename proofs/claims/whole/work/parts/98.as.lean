/-! sessions: what command a line is -/
def isNm (x : List Nat) : Bool := decide (0 < x.length ∧ x.length ≤ 20) && decide (∀ j : Nat, j < x.length → 32 ≤ x.getD j 0 ∧ x.getD j 0 ≤ 126)
theorem r_partText {u p j : Nat} (hu : u < 4) (hp : p < 2) (hj : j < 2000) (t : uS) : fn_X12_partText (nI u) (nI p) (nI j) t = some (t.F (1167 + u) (2000 * p + j)) := by
  unfold fn_X12_partText
  simp (disch := omega) only [lit, nI_eq, nI_mul, nI_add]
  by_cases c0 : u = 0
  · subst c0; rw [if_pos rfl, g_1167 (by omega), Option.bind_some]
  · rw [if_neg c0]
    by_cases c1 : u = 1
    · subst c1; rw [if_pos rfl, g_1168 (by omega), Option.bind_some]
    · rw [if_neg c1]
      by_cases c2 : u = 2
      · subst c2; rw [if_pos rfl, g_1169 (by omega), Option.bind_some]
      · rw [if_neg c2, g_1170 (by omega), Option.bind_some, show u = 3 by omega]
/-- a part's text in the reference -/
def rPt (u p : Nat) (t : uS) (x : List Nat) : Prop := x.length ≤ 2000 ∧ bys x ∧ t.F 1164 (2 * u + p) = nI x.length ∧ ∀ j : Nat, j < x.length → t.F (1167 + u) (2000 * p + j) = nI (x.getD j 0)
theorem r_isName {u p : Nat} (hu : u < 4) (hp : p < 2) {t : uS} {x : List Nat} (h : rPt u p t x) : fn_X12_isName (nI u) (nI p) t = some (isNm x) := by
  obtain ⟨h1, h2, h3, h4⟩ := h
  unfold fn_X12_isName
  simp (disch := omega) only [lit, nI_mul, nI_add, g_1164, Option.bind_some, h3, nI_leI, nI_ltJ]
  have key : ∀ b : Bool, fn_X12_isName_31 uFu (nI u) (nI p) (nI x.length) b 0 t = some (b && decide (∀ j : Nat, j < x.length → (decide (32 ≤ x.getD j 0 ∧ x.getD j 0 ≤ 126)) = true)) := by
    intro b
    refine cmp0 (F := fun n b i => fn_X12_isName_31 n (nI u) (nI p) (nI x.length) b i t) (fin := fun b => some b) (L := x.length) (p := fun j => decide (32 ≤ x.getD j 0 ∧ x.getD j 0 ≤ 126)) ?_ (by show x.length < 1000000; omega) b
    intro n b i hi
    show fb_X12_isName_31 _ (nI u) (nI p) (nI x.length) b (nI i) t = _
    unfold fb_X12_isName_31
    by_cases c : x.length ≤ i
    · rw [if_pos (nI_le c (by omega)), if_pos c]
    · rw [if_neg (nI_ge (by omega) (by omega)), if_neg c]
      cases b with
      | false => rfl
      | true =>
        have h8 := h2 i
        rw [if_pos rfl, if_pos rfl, r_partText hu hp (by omega), Option.bind_some, h4 i (by omega), Option.bind_some]
        simp (disch := omega) only [lit, nI_ltJ, nI_leI, nI_add]
        by_cases d : x.getD i 0 < 32
        · rw [if_pos d, decide_eq_false (by omega)]
        · rw [if_neg d]
          by_cases e : 127 ≤ x.getD i 0
          · rw [if_pos e, decide_eq_false (by omega)]
          · rw [if_neg e, decide_eq_true (by omega)]
  simp only [decide_eq_true_eq] at key
  unfold isNm
  by_cases c : x.length ≤ 0
  · rw [if_pos c]
    rw [decide_eq_false (show ¬ (0 < x.length ∧ x.length ≤ 20) by omega)]
    exact key false
  · rw [if_neg c]
    by_cases d : 20 < x.length
    · rw [if_pos d, decide_eq_false (show ¬ (0 < x.length ∧ x.length ≤ 20) by omega)]
      exact key false
    · rw [if_neg d, decide_eq_true (show (0 < x.length ∧ x.length ≤ 20) by omega)]
      exact key true
theorem c_isNameL {s : uS} {K i fr cap mo bg : Nat} {ts : List (List Nat)} {cur : List Nat} (hk : uTx (K + 1) cap mo) (h : cTz s (K + 1) cap mo ts bg cur) (hi : i < ts.length) (h2 : iget 20 s (K + 1 + 3) (nI i) = some (nI (fr + (ts.getD i []).length))) (h3 : rdC s (K + 1 + 1) fr (ts.getD i [])) : ∀ (n j : Nat), (ts.getD i []).length < j + n → j ≤ (ts.getD i []).length → fn_X8_isName_10 n K (nI i) (nI (fr + j)) s = some (decide (0 < (ts.getD i []).length ∧ (ts.getD i []).length ≤ 20) && decide (∀ q : Nat, q < (ts.getD i []).length → j ≤ q → 32 ≤ (ts.getD i []).getD q 0 ∧ (ts.getD i []).getD q 0 ≤ 126)) := by
  intro n
  have h1 := h3.1
  induction n with
  | zero => intro j c1 c2; omega
  | succ n ih =>
    intro j c1 c2
    unfold fn_X8_isName_10 fb_X8_isName_10
    rw [h2, Option.bind_some]
    by_cases c : (ts.getD i []).length ≤ j
    · rw [if_pos (nI_le (by omega) (by omega)), tz_len hk h hi, Option.bind_some, decide_eq_true (show (∀ q : Nat, q < (ts.getD i []).length → j ≤ q → 32 ≤ (ts.getD i []).getD q 0 ∧ (ts.getD i []).getD q 0 ≤ 126) from fun q a b => by omega), Bool.and_true, Option.bind_some]
      simp (disch := omega) only [lit, nI_leI, nI_ltJ]
      by_cases d : (ts.getD i []).length ≤ 0
      · rw [if_pos d, decide_eq_false (by omega)]
      · rw [if_neg d]
        by_cases e : 20 < (ts.getD i []).length
        · rw [if_pos e, decide_eq_false (by omega)]
        · rw [if_neg e, decide_eq_true (by omega)]
    · have h8 := h3.2.1 j
      rw [if_neg (nI_ge (by omega) (by omega)), h3.2.2 j (by omega), Option.bind_some, Option.bind_some]
      simp (disch := omega) only [lit, sb_lt, sb_le]
      by_cases d : 32 ≤ (ts.getD i []).getD j 0 ∧ (ts.getD i []).getD j 0 ≤ 126
      · rw [if_neg (by omega), if_pos (by omega), nI_add, Nat.add_assoc, ih (j + 1) (by omega) (by omega)]
        congr 2
        exact decide_eq_decide.mpr ⟨fun e q a b => (by by_cases f : q = j; exact f ▸ d; exact e q a (by omega)), fun e q a b => e q a (by omega)⟩
      · rw [show decide (∀ q : Nat, q < (ts.getD i []).length → j ≤ q → 32 ≤ (ts.getD i []).getD q 0 ∧ (ts.getD i []).getD q 0 ≤ 126) = false from decide_eq_false (fun e => d (e j (by omega) (Nat.le_refl _))), Bool.and_false]
        by_cases e : (ts.getD i []).getD j 0 < 32 ∨ 128 ≤ (ts.getD i []).getD j 0
        · rw [if_pos e]
        · rw [if_neg e, if_neg (by omega)]
theorem c_isName {s : uS} {K i cap mo bg : Nat} {ts : List (List Nat)} {cur : List Nat} (hk : uTx (K + 1) cap mo) (h : cTz s (K + 1) cap mo ts bg cur) (hi : i < ts.length) : fn_X8_isName K (nI i) s = some (isNm (ts.getD i [])) := by
  obtain ⟨fr, a1, a2, a3, a4⟩ := tz_rd hk h hi
  have := c_isNameL hk h hi a2 a3 uFu 0 (by have := hk.2.2.2.2.1; show _ < 0 + 1000000; omega) (Nat.zero_le _)
  unfold fn_X8_isName isNm
  rw [a1, Option.bind_some]
  rw [Nat.add_zero] at this
  rw [this]
  congr 2
  exact decide_eq_decide.mpr ⟨fun e q a => e q a (Nat.zero_le _), fun e q a _ => e q a⟩
def ipt (ps : List (Nat × List Nat)) (i k : Nat) : Bool := if ps.length ≤ i ∨ k = 0 then decide (ps.length ≤ i ∧ k = 0) else if k = 3 ∨ (ps.getD i pk0).1 = 3 then decide (k = (ps.getD i pk0).1) else decide (k = 2 ∨ (k = 4 ∧ (ps.getD i pk0).2.length = 0)) || isNm (ps.getD i pk0).2
theorem getD_map_snd {ps : List (Nat × List Nat)} {i : Nat} : (ps.map Prod.snd).getD i [] = (ps.getD i pk0).2 := by
  rw [List.getD_eq_getElem?_getD, List.getElem?_map, List.getD_eq_getElem?_getD]
  cases ps[i]? <;> rfl
theorem c_isPart {u i k : Nat} (hu : u < 4) {s t : uS} {ps : List (Nat × List Nat)} {bg : Nat} {cur : List Nat} (hd : pD (978 + 16 * u) u s t ps bg cur) (hi : i < 3) (hk : k < 5) : fn_X8_isPart (978 + 16 * u) (nI i) (nI k) s = some (ipt ps i k) := by
  obtain ⟨k1, k2, k3, k4⟩ := kOk_u hu
  have hl3 := hd.1.2.1
  have hl := hd.1.1
  rw [List.length_map] at hl hl3
  have hn : ∀ j : Nat, j < ps.length → (ps.getD j pk0).1 = 2 ∨ (ps.getD j pk0).1 = 3 := fun j hj => ((hd.2.2.1 j hj).2.1).elim Or.inl (fun e => Or.inr e.1)
  unfold fn_X8_isPart fb_X8_isPart_15 ipt
  rw [hl]
  simp (disch := omega) only [lit, nI_leI, nI_eq, nI_ltJ]
  by_cases c : ps.length ≤ i
  · rw [if_pos c, if_neg (by omega), if_pos (Or.inl c)]
    by_cases d : k = 0
    · rw [if_pos d, decide_eq_true ⟨c, d⟩]
    · rw [if_neg d, decide_eq_false (fun e => d e.2)]
  · rw [if_neg c]
    by_cases d : k = 0
    · rw [if_pos d, if_pos (by omega), if_pos (Or.inr d), decide_eq_false (fun e => c e.1)]
    · rw [if_neg d, if_neg (show ¬ (ps.length ≤ i ∨ k = 0) from fun e => e.elim c d)]
      have hki := hn i (by omega)
      have hg : iget 20 s (978 + 16 * u + 5) (nI i) = some (nI (ps.getD i pk0).1) := by rw [iget_c (by omega) k2 hi (by decide), (hd.2.2.1 i (by omega)).1]
      have h51 : fb_X8_isPart_51 (978 + 16 * u) (nI i) (nI k) s = some (decide (k = (ps.getD i pk0).1)) := by
        unfold fb_X8_isPart_51
        rw [hg, Option.bind_some]
        simp (disch := omega) only [nI_eq]
        by_cases e : k = (ps.getD i pk0).1
        · rw [if_pos e, decide_eq_true e]
        · rw [if_neg e, decide_eq_false e]
      have h93 : ∀ b : Bool, fb_X8_isPart_93 (978 + 16 * u) (nI i) b s = some (b || isNm (ps.getD i pk0).2) := by
        intro b
        unfold fb_X8_isPart_93
        cases b with
        | true => rfl
        | false =>
          rw [if_neg (by decide), c_isName k1 hd.1 (by rw [List.length_map]; omega), Option.bind_some, getD_map_snd, Bool.false_or]
          cases isNm (ps.getD i pk0).2 <;> rfl
      have hlen := tz_len k1 hd.1 (show i < (ps.map Prod.snd).length by rw [List.length_map]; omega)
      rw [getD_map_snd] at hlen
      have h2k := (hd.2.2.1 i (by omega)).2.2
      rw [hg, h51, h93, h93, hlen, Option.bind_some, Option.bind_some]
      simp (disch := omega) only [nI_eq]
      by_cases e3 : k = 3
      · rw [if_pos e3, if_pos (show k = 3 ∨ (ps.getD i pk0).1 = 3 from Or.inl e3)]
      · rw [if_neg e3]
        by_cases f3 : (ps.getD i pk0).1 = 3
        · rw [if_pos f3, if_pos (show k = 3 ∨ (ps.getD i pk0).1 = 3 from Or.inr f3)]
        · rw [if_neg f3, if_neg (show ¬ (k = 3 ∨ (ps.getD i pk0).1 = 3) by omega)]
          by_cases e2 : k = 2
          · rw [if_pos e2, decide_eq_true (Or.inl e2)]
          · rw [if_neg e2]
            by_cases e4 : k = 4
            · rw [if_pos e4]
              by_cases g : (ps.getD i pk0).2.length = 0
              · rw [if_pos g, decide_eq_true (Or.inr ⟨e4, g⟩)]
              · rw [if_neg g, decide_eq_false (by omega)]
            · rw [if_neg e4, decide_eq_false (by omega)]
