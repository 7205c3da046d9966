/-! the class: a text made narrower; parts of addresses -/
theorem getD_setL {ts : List (List Nat)} {i j : Nat} {w : List Nat} (hi : i < ts.length) : (ts.set i w).getD j [] = if j = i then w else ts.getD j [] := by
  rw [List.getD_eq_getElem?_getD, List.getD_eq_getElem?_getD, List.getElem?_set]
  by_cases c : i = j
  · rw [if_pos c, if_pos (by omega), if_pos (by omega)]; rfl
  · rw [if_neg c, if_neg (fun z => c z.symm)]
theorem tz_set {s : uS} {k cap mo bg i : Nat} {ts : List (List Nat)} {cur : List Nat} (h : cTz s k cap mo ts bg cur) (hi : i < ts.length) : ∃ f0 : Nat, s.F (k + 2) i = nI f0 ∧ s.F (k + 3) i = nI (f0 + (ts.getD i []).length) ∧ f0 + (ts.getD i []).length ≤ cap ∧ bys (ts.getD i []) ∧ (∀ j : Nat, j < (ts.getD i []).length → s.F (k + 1) (f0 + j) = sb ((ts.getD i []).getD j 0)) ∧ ∀ (a b : Nat) (s1 : uS), a ≤ b → b ≤ (ts.getD i []).length → out rNo (fun r f => (r = k + 2 ∨ r = k + 3) ∧ f = i) s s1 → s1.F (k + 2) i = nI (f0 + a) → s1.F (k + 3) i = nI (f0 + b) → cTz s1 k cap mo (ts.set i (sub (ts.getD i []) a b)) bg cur := by
  obtain ⟨h1, h2, h3, h4, h5, h6, h7, fr, h8, h9⟩ := h
  obtain ⟨x1, x2, x3, x4, x5⟩ := h9 i hi
  have x6 := fr_end (fun i hi => (h9 i hi).2.2.2.1) hi
  refine ⟨fr i, x2, x3, by omega, x1, x5, fun a b s1 hab hb o e2 e3 => ?_⟩
  have I : ∀ a b : Nat, s1.I a b = s.I a b := fun a b => o.2.1 a b (fun z => z)
  have sl : (sub (ts.getD i []) a b).length = b - a := sub_len hb hab
  refine ⟨by rw [I, List.length_set]; exact h1, by rw [List.length_set]; exact h2, by rw [I]; exact h3, by rw [I]; exact h4, h5, h6, fun j hj => by rw [o.2.2 _ _ (by omega)]; exact h7 j hj, fun j => if j = i then fr i + a else fr j, by rw [List.length_set]; exact (if_neg (by omega)).trans h8, fun j hj => ?_⟩
  rw [List.length_set] at hj
  obtain ⟨y1, y2, y3, y4, y5⟩ := h9 j hj
  rw [getD_setL hi]
  by_cases c : j = i
  · subst c
    dsimp only
    rw [if_pos rfl, if_pos rfl, if_neg (by omega), sl]
    refine ⟨sub_by x1, e2, by rw [e3]; congr 1; omega, by omega, fun q hq => ?_⟩
    rw [o.2.2 _ _ (by omega), sub_get hq, show fr j + a + q = fr j + (a + q) by omega]
    exact y5 (a + q) (by omega)
  · dsimp only
    rw [if_neg c, if_neg c]
    refine ⟨y1, by rw [o.2.2 _ _ (by omega)]; exact y2, by rw [o.2.2 _ _ (by omega)]; exact y3, ?_, fun q hq => by rw [o.2.2 _ _ (by omega)]; exact y5 q hq⟩
    by_cases d : j + 1 = i
    · rw [if_pos d]
      rw [d] at y4
      omega
    · rw [if_neg d]; exact y4
/-- the part of an address that a test looks at -/
def ptV (p : Nat) (v : List Nat) : List Nat := if p = 0 then v else match fnb v 64 0 v.length with | none => v | some j => if p = 1 then sub v 0 j else sub v (j + 1) v.length
theorem fnb_lt {bs : List Nat} {b : Nat} : ∀ (n i j : Nat), fnb bs b i n = some j → i ≤ j ∧ j < i + n := by
  intro n
  induction n with
  | zero => intro i j h; cases h
  | succ n ih =>
    intro i j h
    unfold fnb at h
    split at h
    · cases h; omega
    · have := ih _ _ h; omega
theorem c_narrow {s : uS} {bg i p : Nat} {vs : List (List Nat)} (h : cTz s 1062 4400 1001 vs bg []) (hi : i < vs.length) (hp : p = 1 ∨ p = 2) : ∃ s1 : uS, fn_X6_narrow (nI i) (nI p) s = some s1 ∧ cTz s1 1062 4400 1001 (vs.set i (ptV p (vs.getD i []))) bg [] ∧ out (tI 1062) (tF 1062) s s1 := by
  have hl := h.2.1
  obtain ⟨fr, a1, a2, a3, a4⟩ := tz_rd uTx_fd h hi
  obtain ⟨f0, b1, b2, b3, b4, b5, b6⟩ := tz_set h hi
  have g2 : iget 20 s (1062 + 2) (nI i) = some (s.F (1062 + 2) i) := iget_c (N := 1001) (by omega) (by decide) (by omega) (by omega)
  rw [g2, b1] at a1
  have e0 : f0 = fr := by
    have := Option.some.inj a1
    exact (nI_eq (by omega) (by omega)).mp this
  subst e0
  unfold fn_X6_narrow
  rw [show iget 20 s 1064 (nI i) = some (nI f0) from g2.trans (by rw [b1]), Option.bind_some, show iget 20 s 1065 (nI i) = _ from a2, Option.bind_some, show fn_X9_find 1063 (nI f0) (nI (f0 + (vs.getD i []).length)) 64 s = _ from c_find (b := 64) a3 (by decide) (by omega), Option.bind_some]
  unfold ptV
  rw [if_neg (show ¬ p = 0 by omega)]
  cases e : fnb (vs.getD i []) 64 0 (vs.getD i []).length with
  | none =>
    refine ⟨s, ?_, ?_, out_r⟩
    · dsimp only
      rw [if_pos (by decide)]
      unfold fb_X6_narrow_53
      rw [if_pos (by decide)]
    · dsimp only
      rw [show vs.set i (vs.getD i []) = vs from ?_]
      · exact h
      · apply List.ext_getElem?
        intro j
        rw [List.getElem?_set]
        by_cases c : i = j
        · subst c
          rw [if_pos rfl, if_pos hi, List.getD_eq_getElem?_getD, List.getElem?_eq_getElem hi]; rfl
        · rw [if_neg c]
  | some j =>
    have hj := fnb_lt _ _ _ e
    dsimp only
    rw [if_neg (nI_pos (by omega))]
    rcases hp with hp | hp
    · subst hp
      rw [if_pos (show nI 1 = 1 from rfl), if_pos rfl, show iput 20 s 1065 (nI i) (nI (f0 + j)) = some (wF s 1065 i (nI (f0 + j))) from iput_c (N := 1001) (by omega) (by decide) (by omega) (by omega), Option.bind_some]
      refine ⟨_, rfl, b6 0 j _ (by omega) (by omega) (out_F out_r ⟨Or.inr rfl, rfl⟩) ?_ (wF_e _ _ _ _), out_F out_r (Or.inr (Or.inr rfl))⟩
      rw [wF_o (by omega)]; exact b1
    · subst hp
      rw [if_neg (show ¬ nI 2 = 1 by decide), if_neg (show ¬ (2 : Nat) = 1 by decide)]
      unfold fb_X6_narrow_53
      rw [if_neg (nI_pos (by omega)), nI_1, show iput 20 s 1064 (nI i) (nI (f0 + j + 1)) = some (wF s 1064 i (nI (f0 + j + 1))) from iput_c (N := 1001) (by omega) (by decide) (by omega) (by omega), Option.bind_some]
      refine ⟨_, rfl, b6 (j + 1) (vs.getD i []).length _ (by omega) (Nat.le_refl _) (out_F out_r ⟨Or.inl rfl, rfl⟩) (by rw [wF_e]; rfl) ?_, out_F out_r (Or.inr (Or.inl rfl))⟩
      rw [wF_o (by omega)]; exact b2
