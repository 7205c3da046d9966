/-! the header of a message: how much it can be; the class from the top -/
def fOk (x : List Nat × List Nat) : Prop := bys x.1 ∧ bys x.2 ∧ x.1.length ≤ 60
theorem trm_by {v : List Nat} (h : bys v) : bys (trm v) := sub_by h
def pnA : Option (List Nat × List Nat) → Nat
  | none => 0
  | some q => q.2.length + 4
theorem flP_ok {p : Option (List Nat × List Nat)} (h : ∀ q, p = some q → fOk q) : tot (flP p) ≤ pnA p ∧ ∀ x ∈ flP p, fOk x := by
  cases p with
  | none => exact ⟨Nat.le_refl _, fun x hx => by cases hx⟩
  | some q =>
    have hq := h q rfl
    have := trm_len q.2
    refine ⟨by show (trm q.2).length + 4 + 0 ≤ q.2.length + 4; omega, fun x hx => ?_⟩
    cases List.mem_singleton.mp hx
    exact ⟨hq.1, trm_by hq.2.1, hq.2.2⟩
theorem hdL_ok {tx : List Nat} (hE : crE tx) (hb : bys tx) : ∀ (n a : Nat) (p : Option (List Nat × List Nat)), (a < tx.length → a + 2 ≤ tx.length) → a ≤ tx.length + 2 → (∀ q, p = some q → fOk q) → tot (hdL tx n a p) + min a tx.length ≤ tx.length + pnA p ∧ ∀ x ∈ hdL tx n a p, fOk x
  | 0, a, p, hA, ha, hp => by
    have := flP_ok hp
    show tot (flP p) + _ ≤ _ ∧ ∀ x ∈ flP p, fOk x
    exact ⟨by omega, this.2⟩
  | n + 1, a, p, hA, ha, hp => by
    have hf := flP_ok hp
    unfold hdL
    by_cases c : tx.length ≤ a
    · rw [if_pos c]
      exact ⟨by omega, hf.2⟩
    · rw [if_neg c]
      have hle := lnE_ge (tx := tx) (tx.length - a) a (by omega)
      have hle' : a ≤ lE tx a ∧ lE tx a ≤ tx.length := hle
      obtain ⟨q1, q2, q3, q4⟩ := crE_at hE (hA (by omega))
      by_cases d : a < lE tx a ∧ isBl (tx.getD a 0) = true
      · rw [if_pos d]
        cases p with
        | none => exact ⟨by show 0 + _ ≤ _; omega, fun x hx => by cases hx⟩
        | some q =>
          have hq := hp q rfl
          dsimp only
          have hsl : (sub tx a (lE tx a)).length = lE tx a - a := sub_len hle'.2 hle'.1
          obtain ⟨i1, i2⟩ := hdL_ok hE hb n (lE tx a + 2) (some (q.1, q.2 ++ sub tx a (lE tx a))) q4 (by omega) (fun z hz => by cases hz; exact ⟨hq.1, bys_apps hq.2.1 (sub_by hb), hq.2.2⟩)
          refine ⟨?_, i2⟩
          have e : pnA (some (q.1, q.2 ++ sub tx a (lE tx a))) = q.2.length + (lE tx a - a) + 4 := by
            show (q.2 ++ sub tx a (lE tx a)).length + 4 = _
            rw [List.length_append, hsl]
          rw [e] at i1
          show _ ≤ tx.length + (q.2.length + 4)
          omega
      · rw [if_neg d]
        by_cases e : fldB tx a (lE tx a) = true
        · rw [if_pos e]
          have g := fld_ge (tx := tx) hle'.1
          have e' := of_decide_eq_true e
          have hnl : (sub tx a (fldN tx a (lE tx a))).length = fldN tx a (lE tx a) - a := sub_len (by omega) g.1
          have hvl : (sub tx (fldC tx a (lE tx a) + 1) (lE tx a)).length = lE tx a - (fldC tx a (lE tx a) + 1) := sub_len hle'.2 (by omega)
          obtain ⟨i1, i2⟩ := hdL_ok hE hb n (lE tx a + 2) (some (sub tx a (fldN tx a (lE tx a)), sub tx (fldC tx a (lE tx a) + 1) (lE tx a))) q4 (by omega) (fun z hz => by cases hz; exact ⟨sub_by hb, sub_by hb, by show (sub tx a (fldN tx a (lE tx a))).length ≤ 60; omega⟩)
          have ee : pnA (some (sub tx a (fldN tx a (lE tx a)), sub tx (fldC tx a (lE tx a) + 1) (lE tx a))) = lE tx a - (fldC tx a (lE tx a) + 1) + 4 := by
            show (sub tx (fldC tx a (lE tx a) + 1) (lE tx a)).length + 4 = _
            rw [hvl]
          rw [ee] at i1
          refine ⟨by rw [tot_app]; omega, fun x hx => ?_⟩
          rcases List.mem_append.mp hx with z | z
          · exact hf.2 x z
          · exact i2 x z
        · rw [if_neg e]
          exact ⟨by omega, hf.2⟩
theorem hdr_ok {tx : List Nat} (hE : crE tx) (hb : bys tx) (hl : tx.length ≤ 4000) : fsO (hdr tx) := by
  have h := hdL_ok hE hb tx.length 0 none (fun z => by
    cases hE with
    | inl e => subst e; exact absurd z (by decide)
    | inr e => omega) (by omega) (fun q hq => by cases hq)
  have e : pnA none = 0 := rfl
  rw [e] at h
  refine ⟨by show tot (hdL tx tx.length 0 none) ≤ 4000; omega, fun f => ?_⟩
  have hm : ∀ x ∈ hdr tx, fOk x := h.2
  generalize hdr tx = fs at hm
  by_cases c : f < fs.length
  · have hx := hm fs[f] (List.getElem_mem c)
    have e1 : fnm fs f = fs[f].1 := by
      unfold fnm
      rw [List.getD_eq_getElem?_getD, List.getElem?_map, List.getElem?_eq_getElem c]
      rfl
    have e2 : fvl fs f = fs[f].2 := by
      unfold fvl
      rw [List.getD_eq_getElem?_getD, List.getElem?_map, List.getElem?_eq_getElem c]
      rfl
    rw [e1, e2]
    exact hx
  · have e1 : fnm fs f = [] := by
      unfold fnm
      rw [List.getD_eq_getElem?_getD, List.getElem?_map, List.getElem?_eq_none (by omega)]
      rfl
    have e2 : fvl fs f = [] := by
      unfold fvl
      rw [List.getD_eq_getElem?_getD, List.getElem?_map, List.getElem?_eq_none (by omega)]
      rfl
    rw [e1, e2]
    exact ⟨bys_nil, bys_nil, Nat.zero_le _⟩
theorem c_header {s : uS} {tx : List Nat} (h : cTxt s tx) (hE : crE tx) (h3 : s.I 1042 3 = nI tx.length) : ∃ s1 : uS, fn_X6_readHeader s = some s1 ∧ cFl s1 (hdr tx) ∧ out hI hF s s1 := by
  have hl := h.1
  unfold fn_X6_readHeader
  obtain ⟨s1, a1, a2, a3⟩ := tz_clearO 1054 4400 1001 s
  obtain ⟨s2, b1, b2, b3⟩ := tz_clearO 1058 4400 1001 s1
  have o1 : out hI hF s s2 := out_t (hT1 a3) (hT2 b3)
  rw [a1, Option.bind_some, b1, Option.bind_some]
  have i3 : s2.I 1042 3 = nI tx.length := (o1.2.1 _ _ (by unfold hI; omega)).trans h3
  unfold fn_X0_isTooBig
  rw [i3, if_pos (show nI tx.length ≤ 4000 from nI_le (b := 4000) hl (by decide)), Option.bind_some, if_neg (by decide)]
  have a2' := a2.o b3 (fun _ => by unfold tI; omega) (fun _ => by unfold tF; omega) (fun _ => by unfold tF; omega) (fun _ => by unfold tF; omega)
  obtain ⟨s3, c1, c2, c3⟩ := c_hdL hE tx.length uFu 0 s2 [] none 0 0 (by omega) (by show _ ≤ 1000000; omega) (by omega) (fun z => by
    cases hE with
    | inl e => subst e; exact absurd z (by decide)
    | inr e => omega) (h.h o1) ⟨a2', b2⟩ ⟨Nat.zero_le _, Nat.zero_le _, Nat.zero_le _, fun _ => rfl⟩
  exact ⟨s3, c1, c2, out_t o1 c3⟩
/-- a message that is too big has no header -/
theorem c_headerB {s : uS} (h3 : s.I 1042 3 = 4001) : ∃ s1 : uS, fn_X6_readHeader s = some s1 ∧ out hI hF s s1 := by
  unfold fn_X6_readHeader
  obtain ⟨s1, a1, a2, a3⟩ := tz_clearO 1054 4400 1001 s
  obtain ⟨s2, b1, b2, b3⟩ := tz_clearO 1058 4400 1001 s1
  have o1 : out hI hF s s2 := out_t (hT1 a3) (hT2 b3)
  rw [a1, Option.bind_some, b1, Option.bind_some]
  have i3 : s2.I 1042 3 = 4001 := (o1.2.1 _ _ (by unfold hI; omega)).trans h3
  unfold fn_X0_isTooBig
  rw [i3, if_neg (by decide), Option.bind_some, if_pos rfl]
  refine ⟨s2, ?_, o1⟩
  show fb_X6_readHeader_38 (fn_X6_readHeader_38 999999) 0 0 s2 = _
  unfold fb_X6_readHeader_38
  rw [if_pos (by decide)]
  unfold fb_X6_readHeader_90
  have a2' := a2.o b3 (fun _ => by unfold tI; omega) (fun _ => by unfold tF; omega) (fun _ => by unfold tF; omega) (fun _ => by unfold tF; omega)
  rw [a2'.1, if_pos (by decide)]
