/-! the header of a message: the class -/
def cTxt (s : uS) (tx : List Nat) : Prop := tx.length ≤ 4000 ∧ bys tx ∧ ∀ j : Nat, j < tx.length → s.F 1051 j = sb (tx.getD j 0)
theorem cTxt.rd {s : uS} {tx : List Nat} (h : cTxt s tx) : rdC s 1051 0 tx := by
  refine ⟨by have := h.1; omega, h.2.1, fun j hj => ?_⟩
  rw [Nat.zero_add, g_1051 (by have := h.1; omega), h.2.2 j hj]
theorem c_lnE {s : uS} {tx : List Nat} (h : cTxt s tx) : ∀ (d N a : Nat), tx.length = a + d → d + 1 ≤ N → fn_X6_lineEnd_11 N (nI tx.length) (nI a) s = some (nI (lnE tx d a)) := by
  obtain ⟨h1, h2, h3⟩ := h
  intro d
  induction d with
  | zero =>
    intro N a hd hN
    obtain ⟨M, rfl⟩ : ∃ M, N = M + 1 := ⟨N - 1, by omega⟩
    show fb_X6_lineEnd_11 (fn_X6_lineEnd_11 M) (nI tx.length) (nI a) s = _
    unfold fb_X6_lineEnd_11
    rw [nI_1, if_pos (nI_le (by omega) (by omega))]
    rfl
  | succ d ih =>
    intro N a hd hN
    obtain ⟨M, rfl⟩ : ∃ M, N = M + 1 := ⟨N - 1, by omega⟩
    show fb_X6_lineEnd_11 (fn_X6_lineEnd_11 M) (nI tx.length) (nI a) s = _
    unfold fb_X6_lineEnd_11 lnE
    rw [nI_1]
    by_cases c : tx.length ≤ a + 1
    · rw [if_pos (nI_le c (by omega)), if_pos c]
    · rw [if_neg (nI_ge (by omega) (by omega)), if_neg c, g_1051 (by omega), Option.bind_some, h3 a (by omega), g_1051 (by omega), Option.bind_some, h3 (a + 1) (by omega)]
      have e13 : sb (tx.getD a 0) = 13 ↔ tx.getD a 0 = 13 := sb_e (c := 13) (h2 a) (by decide)
      have e10 : sb (tx.getD (a + 1) 0) = 10 ↔ tx.getD (a + 1) 0 = 10 := sb_e (c := 10) (h2 (a + 1)) (by decide)
      by_cases c1 : tx.getD a 0 = 13
      · rw [if_pos (e13.mpr c1)]
        by_cases c2 : tx.getD (a + 1) 0 = 10
        · rw [if_pos (e10.mpr c2), if_pos ⟨c1, c2⟩]
        · rw [if_neg (fun z => c2 (e10.mp z)), if_neg (fun z => c2 z.2)]
          exact ih M (a + 1) (by omega) (by omega)
      · rw [if_neg (fun z => c1 (e13.mp z)), if_neg (fun z => c1 z.1)]
        exact ih M (a + 1) (by omega) (by omega)
theorem c_lineE {s : uS} {tx : List Nat} {a : Nat} (h : cTxt s tx) (ha : a ≤ tx.length) : fn_X6_lineEnd (nI a) (nI tx.length) s = some (nI (lE tx a)) := by
  have := h.1
  exact c_lnE h (tx.length - a) uFu a (by omega) (by show _ ≤ 1000000; omega)
/-- a text closed, without the blanks at its ends -/
theorem c_ctr {s : uS} {bg : Nat} {vs : List (List Nat)} {cur : List Nat} (h : cTz s 1058 4400 1001 vs bg cur) (hl : vs.length < 1001) : ∃ s1 : uS, fn_X9_closeTrimmed 1058 s = some s1 ∧ cTz s1 1058 4400 1001 (vs ++ [trm cur]) (bg + cur.length) [] ∧ out (tI 1058) (tF 1058) s s1 := by
  obtain ⟨s1, a1, a2, a3⟩ := tz_closeO uTx_vl h hl
  have hlen : (vs ++ [cur]).length = vs.length + 1 := by rw [List.length_append]; rfl
  have hcl : cur.length ≤ 4400 := by have := h.2.2.2.2.1; omega
  obtain ⟨f0, b1, b2, b3, b4, b5, b6⟩ := tz_set a2 (i := vs.length) (by omega)
  have hg : (vs ++ [cur]).getD vs.length [] = cur := getN_end
  rw [hg] at b2 b3 b4 b5 b6
  have e60 : ∀ sx : uS, iget 20 sx (1058 + 2) (nI vs.length) = some (sx.F 1060 vs.length) := fun sx => g_1060 hl
  have e61 : ∀ sx : uS, iget 20 sx (1058 + 3) (nI vs.length) = some (sx.F 1061 vs.length) := fun sx => g_1061 hl
  have e59 : ∀ (sx : uS) (j : Nat), out rNo (fun r f => (r = 1060 ∨ r = 1061) ∧ f = vs.length) s1 sx → j < cur.length → iget 21 sx (1058 + 1) (nI (f0 + j)) = some (sb (cur.getD j 0)) := by
    intro sx j o hj
    rw [show (1058 + 1 : Nat) = 1059 from rfl, g_1059 (by omega), o.2.2 _ _ (by omega)]
    exact congrArg some (b5 j hj)
  have L56 : ∀ (b N a : Nat) (sx : uS), a ≤ b → b ≤ cur.length → b + 1 ≤ N → out rNo (fun r f => (r = 1060 ∨ r = 1061) ∧ f = vs.length) s1 sx → sx.F 1060 vs.length = nI (f0 + a) → sx.F 1061 vs.length = nI (f0 + b) → ∃ sy : uS, fn_X9_closeTrimmed_56 N 1058 (nI vs.length) sx = some sy ∧ out rNo (fun r f => (r = 1060 ∨ r = 1061) ∧ f = vs.length) s1 sy ∧ sy.F 1060 vs.length = nI (f0 + a) ∧ sy.F 1061 vs.length = nI (f0 + tB cur a b) := by
    intro b
    induction b with
    | zero =>
      intro N a sx h1 h2 h3 o x y
      obtain ⟨M, rfl⟩ : ∃ M, N = M + 1 := ⟨N - 1, by omega⟩
      refine ⟨sx, ?_, o, x, y⟩
      show fb_X9_closeTrimmed_56 (fn_X9_closeTrimmed_56 M) 1058 (nI vs.length) sx = _
      unfold fb_X9_closeTrimmed_56
      rw [e60, Option.bind_some, e61, Option.bind_some, x, y, if_pos (nI_le (by omega) (by omega))]
    | succ b ih =>
      intro N a sx h1 h2 h3 o x y
      obtain ⟨M, rfl⟩ : ∃ M, N = M + 1 := ⟨N - 1, by omega⟩
      show ∃ sy : uS, fb_X9_closeTrimmed_56 (fn_X9_closeTrimmed_56 M) 1058 (nI vs.length) sx = some sy ∧ _
      unfold fb_X9_closeTrimmed_56 tB
      rw [e60, Option.bind_some, e61, Option.bind_some, x, y]
      by_cases c : b + 1 ≤ a
      · rw [if_pos (nI_le (by omega) (by omega)), if_pos c]
        exact ⟨sx, rfl, o, x, y⟩
      · rw [if_neg (nI_ge (by omega) (by omega)), if_neg c, Option.bind_some]
        have em : nI (f0 + (b + 1)) - 1 = nI (f0 + b) := nI_sub (a := f0 + (b + 1)) (b := 1) (by omega)
        rw [em, e59 sx b o (by omega), Option.bind_some, iBl_s (b4 b), Option.bind_some]
        cases isBl (cur.getD b 0) with
        | false => rw [if_neg (by decide), if_neg (by decide)]; exact ⟨sx, rfl, o, x, y⟩
        | true =>
          rw [if_pos rfl, if_pos rfl, Option.bind_some, em, show iput 20 sx (1058 + 3) (nI vs.length) (nI (f0 + b)) = some (wF sx 1061 vs.length (nI (f0 + b))) from p_1061 hl, Option.bind_some]
          exact ih M a (wF sx 1061 vs.length (nI (f0 + b))) (by omega) (by omega) (by omega) (out_F o ⟨Or.inr rfl, rfl⟩) (by rw [wF_o (by omega)]; exact x) (wF_e _ _ _ _)
  have L11 : ∀ (d N a : Nat) (sx : uS), a + d = cur.length → d + 1 ≤ N → out rNo (fun r f => (r = 1060 ∨ r = 1061) ∧ f = vs.length) s1 sx → sx.F 1060 vs.length = nI (f0 + a) → sx.F 1061 vs.length = nI (f0 + cur.length) → ∃ sy : uS, fn_X9_closeTrimmed_11 N 1058 (nI vs.length) sx = some sy ∧ out rNo (fun r f => (r = 1060 ∨ r = 1061) ∧ f = vs.length) s1 sy ∧ sy.F 1060 vs.length = nI (f0 + tA cur d a) ∧ sy.F 1061 vs.length = nI (f0 + tB cur (tA cur d a) cur.length) := by
    intro d
    induction d with
    | zero =>
      intro N a sx hd hN o x y
      obtain ⟨M, rfl⟩ : ∃ M, N = M + 1 := ⟨N - 1, by omega⟩
      show ∃ sy : uS, fb_X9_closeTrimmed_11 (fn_X9_closeTrimmed_11 M) 1058 (nI vs.length) sx = some sy ∧ _
      unfold fb_X9_closeTrimmed_11 tA
      rw [e60, Option.bind_some, e61, Option.bind_some, x, y, if_pos (nI_le (by omega) (by omega))]
      exact L56 cur.length uFu a sx (by omega) (Nat.le_refl _) (by show _ ≤ 1000000; omega) o x y
    | succ d ih =>
      intro N a sx hd hN o x y
      obtain ⟨M, rfl⟩ : ∃ M, N = M + 1 := ⟨N - 1, by omega⟩
      show ∃ sy : uS, fb_X9_closeTrimmed_11 (fn_X9_closeTrimmed_11 M) 1058 (nI vs.length) sx = some sy ∧ _
      unfold fb_X9_closeTrimmed_11 tA
      rw [e60, Option.bind_some, e61, Option.bind_some, x, y, if_neg (nI_ge (by omega) (by omega)), if_neg (show ¬ cur.length ≤ a by omega), Option.bind_some, e59 sx a o (by omega), Option.bind_some, iBl_s (b4 a), Option.bind_some]
      cases isBl (cur.getD a 0) with
      | false =>
        rw [if_neg (by decide), if_neg (by decide)]
        exact L56 cur.length uFu a sx (by omega) (Nat.le_refl _) (by show _ ≤ 1000000; omega) o x y
      | true =>
        rw [if_pos rfl, if_pos rfl, Option.bind_some, nI_1, show iput 20 sx (1058 + 2) (nI vs.length) (nI (f0 + a + 1)) = some (wF sx 1060 vs.length (nI (f0 + a + 1))) from p_1060 hl, Option.bind_some]
        exact ih M (a + 1) (wF sx 1060 vs.length (nI (f0 + a + 1))) (by omega) (by omega) (out_F o ⟨Or.inl rfl, rfl⟩) (wF_e _ _ _ _) (by rw [wF_o (by omega)]; exact y)
  obtain ⟨sy, c1, c2, c3, c4⟩ := L11 cur.length uFu 0 s1 (by omega) (by show _ ≤ 1000000; omega) out_r b1 b2
  have hz := b6 (trA cur) (trB cur) sy (tr_le cur).1 (tr_le cur).2 c2 c3 c4
  have es : (vs ++ [cur]).set vs.length (sub cur (trA cur) (trB cur)) = vs ++ [trm cur] := by
    rw [List.set_append_right _ _ (Nat.le_refl _), Nat.sub_self]
    rfl
  rw [es] at hz
  refine ⟨sy, ?_, hz, out_t a3 (out_w c2 (fun _ _ z => z.elim) (fun k f z => by unfold tF; omega))⟩
  unfold fn_X9_closeTrimmed
  have e3 : s1.I 1058 3 - 1 = nI vs.length := by
    rw [a2.1, hlen]
    exact nI_sub (a := vs.length + 1) (b := 1) (by omega)
  rw [a1, Option.bind_some, e3]
  exact c1
/-- where the class stands in a header -/
def hI (k _f : Nat) : Prop := k = 1054 ∨ k = 1058
def hF (k _f : Nat) : Prop := (1055 ≤ k ∧ k ≤ 1057) ∨ (1059 ≤ k ∧ k ≤ 1061)
def pnN : Option (List Nat × List Nat) → List (List Nat)
  | none => []
  | some p => [p.1]
def pnV : Option (List Nat × List Nat) → List Nat
  | none => []
  | some p => p.2
def cHd (s : uS) (dn : List (List Nat × List Nat)) (p : Option (List Nat × List Nat)) (bn bv : Nat) : Prop := cTz s 1054 4400 1001 (dn.map Prod.fst ++ pnN p) bn [] ∧ cTz s 1058 4400 1001 (dn.map Prod.snd) bv (pnV p)
theorem hT1 {s s1 : uS} (h : out (tI 1054) (tF 1054) s s1) : out hI hF s s1 := out_w h (fun k f z => Or.inl z) (fun k f z => by unfold tF at z; unfold hF; omega)
theorem hT2 {s s1 : uS} (h : out (tI 1058) (tF 1058) s s1) : out hI hF s s1 := out_w h (fun k f z => Or.inr z) (fun k f z => by unfold tF at z; unfold hF; omega)
theorem cTxt.h {s s1 : uS} {tx : List Nat} (h : cTxt s tx) (o : out hI hF s s1) : cTxt s1 tx := ⟨h.1, h.2.1, fun j hj => (o.2.2 _ _ (by unfold hF; omega)).trans (h.2.2 j hj)⟩
theorem cHd.cnt {s : uS} {dn : List (List Nat × List Nat)} {p : Option (List Nat × List Nat)} {bn bv : Nat} (h : cHd s dn p bn bv) : s.I 1054 3 = nI (dn.length + (pnN p).length) := by
  have := h.1.1
  rw [List.length_append, List.length_map] at this
  exact this
/-- the pending field is closed -/
theorem c_flush {s : uS} {dn : List (List Nat × List Nat)} {q : List Nat × List Nat} {bn bv : Nat} (h : cHd s dn (some q) bn bv) (hl : dn.length < 1001) : ∃ s1 : uS, fn_X9_closeTrimmed 1058 s = some s1 ∧ cHd s1 (dn ++ [(q.1, trm q.2)]) none bn (bv + q.2.length) ∧ out hI hF s s1 := by
  obtain ⟨s1, a1, a2, a3⟩ := c_ctr h.2 (by rw [List.length_map]; exact hl)
  refine ⟨s1, a1, ⟨?_, ?_⟩, hT2 a3⟩
  · have := h.1.o a3 (fun _ => by unfold tI; omega) (fun _ => by unfold tF; omega) (fun _ => by unfold tF; omega) (fun _ => by unfold tF; omega)
    show cTz s1 1054 4400 1001 ((dn ++ [(q.1, trm q.2)]).map Prod.fst ++ []) bn []
    rw [List.append_nil, List.map_append]
    exact this
  · rw [List.map_append]
    exact a2
theorem c_90 {s : uS} {dn : List (List Nat × List Nat)} {p : Option (List Nat × List Nat)} {bn bv : Nat} (h : cHd s dn p bn bv) (hl : dn.length + 1 ≤ 1001) (h0 : p = none → dn = []) : ∃ s1 : uS, fb_X6_readHeader_90 s = some s1 ∧ cFl s1 (dn ++ flP p) ∧ out hI hF s s1 := by
  unfold fb_X6_readHeader_90
  rw [h.cnt]
  cases p with
  | none =>
    have hd := h0 rfl
    subst hd
    rw [if_pos (show nI ([].length + (pnN none).length) ≤ 0 by decide)]
    refine ⟨s, rfl, ?_, out_r⟩
    obtain ⟨h1, h2⟩ := h
    exact ⟨bn, bv, h1, h2⟩
  | some q =>
    rw [if_neg (nI_nle (by show 0 < dn.length + 1; omega) (by show dn.length + 1 < 2 ^ 31; omega))]
    obtain ⟨s1, a1, a2, a3⟩ := c_flush h (by omega)
    rw [a1, Option.bind_some]
    refine ⟨s1, rfl, ?_, a3⟩
    obtain ⟨h1, h2⟩ := a2
    refine ⟨bn, _, ?_, h2⟩
    have h1' : cTz s1 1054 4400 1001 ((dn ++ [(q.1, trm q.2)]).map Prod.fst ++ []) bn [] := h1
    rw [List.append_nil] at h1'
    exact h1'
