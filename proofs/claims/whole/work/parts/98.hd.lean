/-! a byte of a message: what each side does with it -/
def dbI (k f : Nat) : Prop := k = 1042 ∧ (f = 3 ∨ f = 8 ∨ f = 9)
def dyI (k f : Nat) : Prop := k = 1079 ∧ (f = 13 ∨ f = 123 ∨ f = 124 ∨ f = 125)
def dzI (k f : Nat) : Prop := k = 1079 ∧ (f = 13 ∨ f = 124 ∨ f = 125)
theorem dz_dy {k f : Nat} (h : dzI k f) : dyI k f := ⟨h.1, by have := h.2; omega⟩
theorem c_85 {s : uS} {T : List Nat} {x : Nat} {fl : Bool} (h : cTb s T) (hx : x < 256) (h9 : s.I 1042 9 = bI fl) : ∃ s1 : uS, fb_X0_takeInMessage_85 (nI x) s = some (s1, 0) ∧ cTb s1 (T ++ [x]) ∧ s1.I 1042 8 = nI (if x = 10 ∧ fl = true then 1 else 4) ∧ s1.I 1042 9 = bI (decide (x = 13)) ∧ out dbI tbF s s1 := by
  obtain ⟨s1, a1, a2, a3⟩ := c_addT h hx
  have a9 : s1.I 1042 9 = bI fl := (a3.2.1 _ _ (by unfold tbI; omega)).trans h9
  have e13 : nI x = 13 ↔ x = 13 := nI_eq (b := 13) (by omega) (by decide)
  have e10 : nI x = 10 ↔ x = 10 := nI_eq (b := 10) (by omega) (by decide)
  have fin : ∀ m : Nat, ∃ s2 : uS, fb_X0_takeInMessage_109 (nI x) (nI m) s1 = some (s2, 0) ∧ cTb s2 (T ++ [x]) ∧ s2.I 1042 8 = nI m ∧ s2.I 1042 9 = bI (decide (x = 13)) ∧ out dbI tbF s s2 := by
    intro m
    have o1 : out dbI tbF s s1 := out_w a3 (fun k f z => ⟨z.1, Or.inl z.2⟩) (fun _ _ z => z)
    unfold fb_X0_takeInMessage_109
    by_cases c : x = 13
    · rw [if_pos (e13.mpr c), decide_eq_true c]
      refine ⟨_, rfl, ⟨?_, fun j y1 y2 => ?_⟩, ?_, wI_e _ _ _ _, out_I (out_I o1 ⟨rfl, by omega⟩) ⟨rfl, by omega⟩⟩
      · rw [wI_o (by omega), wI_o (by omega)]; exact a2.1
      · rw [wI_Fe, wI_Fe]; exact a2.2 j y1 y2
      · rw [wI_o (by omega), wI_e]
    · rw [if_neg (fun z => c (e13.mp z)), decide_eq_false c]
      refine ⟨_, rfl, ⟨?_, fun j y1 y2 => ?_⟩, ?_, wI_e _ _ _ _, out_I (out_I o1 ⟨rfl, by omega⟩) ⟨rfl, by omega⟩⟩
      · rw [wI_o (by omega), wI_o (by omega)]; exact a2.1
      · rw [wI_Fe, wI_Fe]; exact a2.2 j y1 y2
      · rw [wI_o (by omega), wI_e]
  unfold fb_X0_takeInMessage_85
  rw [a1, Option.bind_some, a9]
  by_cases c : x = 10
  · rw [if_pos (e10.mpr c)]
    cases fl with
    | false =>
      rw [if_pos (show bI false = 0 by decide), if_neg (fun z => by cases z.2)]
      exact fin 4
    | true =>
      rw [if_neg (show ¬ bI true = 0 by decide), if_pos ⟨c, rfl⟩]
      exact fin 1
  · rw [if_neg (fun z => c (e10.mp z)), if_neg (fun z => c z.1)]
    exact fin 4
/-- a byte that is kept -/
theorem r_plain {t : uS} {Tr : List Nat} {x cnt : Nat} {dot : Bool} (h : rTb t Tr) (hx : x < 256) (hc : cnt < 2 ^ 30) (h116 : t.I 1079 116 = 1) (h124 : t.I 1079 124 = bI dot) (h125 : t.I 1079 125 = nI cnt) (hk : ¬ (x = 46 ∧ cnt = 0 ∧ dot = false)) : ∃ t1 : uS, fn_X12_plain (nI x) t = some t1 ∧ rTb t1 (Tr ++ [x]) ∧ t1.I 1079 124 = bI dot ∧ t1.I 1079 125 = nI (cnt + 1) ∧ out dzI mbR t t1 := by
  have e46 : nI x = 46 ↔ x = 46 := nI_eq (b := 46) (by omega) (by decide)
  have e0 : nI cnt = 0 ↔ cnt = 0 := nI_eq (b := 0) (by omega) (by decide)
  have key : fn_X12_plain (nI x) t = fb_X12_plain_38 (nI x) false t := by
    unfold fn_X12_plain
    rw [h116, if_neg (by decide), h125, h124]
    by_cases c : x = 46
    · rw [if_pos (e46.mpr c)]
      by_cases d : cnt = 0
      · rw [if_pos (e0.mpr d)]
        cases dot with
        | false => exact absurd ⟨c, d, rfl⟩ hk
        | true => rw [if_neg (show ¬ bI true = 0 by decide)]
      · rw [if_neg (fun z => d (e0.mp z))]
    · rw [if_neg (fun z => c (e46.mp z))]
  have key2 : fb_X12_plain_38 (nI x) false t = fb_X12_plain_56 (nI x) false dot t := by
    unfold fb_X12_plain_38
    rw [h124]
    cases dot with
    | false => rw [if_pos (show bI false = 0 by decide), if_neg (by decide)]
    | true => rw [if_neg (show ¬ bI true = 0 by decide)]
  obtain ⟨t2, ht2⟩ : ∃ t2, t2 = wI (wI t 1079 124 (bI dot)) 1079 125 (nI (cnt + 1)) := ⟨_, rfl⟩
  have hb : rTb t2 Tr := ⟨by rw [ht2, wI_o (by omega), wI_o (by omega)]; exact h.1, fun j y1 y2 => by rw [ht2, wI_Fe, wI_Fe]; exact h.2 j y1 y2⟩
  obtain ⟨t3, a1, a2, a3⟩ := r_mbyte (x := x) hb
  have o2 : out dzI mbR t t2 := by
    rw [ht2]
    exact out_I (out_I out_r ⟨rfl, by omega⟩) ⟨rfl, by omega⟩
  refine ⟨t3, ?_, a2, ?_, ?_, out_t o2 (out_w a3 (fun k f z => ⟨z.1, Or.inl z.2⟩) (fun _ _ z => z))⟩
  · rw [key, key2]
    unfold fb_X12_plain_56
    have i125 : (wI t 1079 124 (bI dot)).I 1079 125 = nI cnt := by rw [wI_o (by omega)]; exact h125
    rw [if_neg (by decide), i125, nI_1, ← ht2, a1, Option.bind_some]
  · rw [a3.2.1 _ _ (by unfold mbI; omega), ht2, wI_o (by omega), wI_e]
  · rw [a3.2.1 _ _ (by unfold mbI; omega), ht2, wI_e]
/-- a dot that begins a line -/
theorem r_dotB {t : uS} (h116 : t.I 1079 116 = 1) (h124 : t.I 1079 124 = 0) (h125 : t.I 1079 125 = 0) : fn_X12_plain 46 t = some (wI t 1079 124 1) := by
  unfold fn_X12_plain
  rw [h116, if_neg (by decide), if_pos rfl, h125, if_pos rfl, h124, if_pos rfl]
  unfold fb_X12_plain_38
  rw [h124, if_pos rfl, if_pos rfl]
  rfl
