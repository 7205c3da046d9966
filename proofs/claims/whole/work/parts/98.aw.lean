/-! the answers' queues on both sides -/
def pQ1 (u : Nat) (s t : uS) : Prop := ∃ xs : List Int32, cQ s u xs ∧ rQ t u xs ∧ i8L xs
def qC (u k _f : Nat) : Prop := k = qk u ∨ k = qk u + 1
def qR (u k f : Nat) : Prop := (k = 1086 ∧ f = u) ∨ k = 1081 + u
def pQo (u : Nat) (s t s1 t1 : uS) : Prop := pQ1 u s1 t1 ∧ out (qC u) (qC u) s s1 ∧ out rNo (qR u) t t1
theorem pQo.tr {u : Nat} {s t s1 t1 s2 t2 : uS} (h : pQo u s t s1 t1) (h2 : pQo u s1 t1 s2 t2) : pQo u s t s2 t2 := ⟨h2.1, out_t h.2.1 h2.2.1, out_t h.2.2 h2.2.2⟩
theorem i8_add {xs : List Int32} {x : Int32} (h : i8L xs) : i8L (q_add xs x) := by
  unfold q_add
  split
  · intro j
    by_cases c : j < xs.length
    · rw [getD_app c]; exact h j
    · by_cases d : j = xs.length
      · rw [d, getD_end]
        exact Int32.toInt_inj.mp (by simp)
      · rw [List.getD_eq_getElem?_getD, List.getElem?_eq_none (by rw [List.length_append]; show xs.length + 1 ≤ j; omega)]; rfl
  · exact h
theorem q_put {u : Nat} (hu : u < 5) {s t : uS} (h : pQ1 u s t) {x y : Int32} (hx : x.toInt8 = y.toInt8) : ∃ s1 t1 : uS, fn_X5_put (qk u) x s = some s1 ∧ fn_X12_say (nI u) y t = some t1 ∧ pQo u s t s1 t1 := by
  obtain ⟨xs, h1, h2, h3⟩ := h
  obtain ⟨s1, a1, a2⟩ := c_put hu h1 x
  obtain ⟨t1, b1, b2, -⟩ := r_say hu h2 y
  have hq : q_add xs x = q_add xs y := by unfold q_add; rw [hx]
  refine ⟨s1, t1, a1, b1, ⟨q_add xs x, a2, by rw [hq]; exact b2, i8_add h3⟩, ?_, ?_⟩
  · unfold fn_X5_put at a1
    split at a1
    · cases a1; exact out_r
    · obtain ⟨s2, e1, e2⟩ := uu_ob a1
      cases e2
      unfold iput at e1
      split at e1
      · cases e1
        exact out_I (out_F out_r (Or.inr rfl)) (Or.inl rfl)
      · cases e1
  · by_cases c : xs.length < 10000
    · rw [r_sayx hu c h2.2.1] at b1
      cases b1
      exact out_F (out_F out_r (Or.inl ⟨rfl, rfl⟩)) (Or.inr rfl)
    · have hl := h2.1
      unfold fn_X12_say at b1
      rw [g_1086 hu, Option.bind_some, h2.2.1, if_pos (by rw [show xs.length = 10000 by omega]; rfl)] at b1
      cases b1
      exact out_r
theorem q_textL {u : Nat} {w : List Nat} (hu : u < 5) (hw : w.length < 2 ^ 30) : ∀ (n i : Nat) (s t : uS), w.length < i + n → i ≤ w.length → pQ1 u s t → ∃ s1 t1 : uS, fn_X5_text_2 n (qk u) w (nI i) s = some s1 ∧ fn_X12_tell_2 n (nI u) w (nI i) t = some t1 ∧ pQo u s t s1 t1 := by
  intro n
  induction n with
  | zero => intro i s t a b; omega
  | succ n ih =>
    intro i s t a b h
    unfold fn_X5_text_2 fb_X5_text_2 fn_X12_tell_2 fb_X12_tell_2
    by_cases c : w.length ≤ i
    · rw [if_pos (nI_le c (by omega)), if_pos (nI_le c (by omega))]
      exact ⟨s, t, rfl, rfl, h, out_r, out_r⟩
    · obtain ⟨s1, t1, a1, a2, a3⟩ := q_put hu h (x := nI (w.getD i 0)) (y := nI (w.getD i 0)) rfl
      obtain ⟨s2, t2, b1, b2, b3⟩ := ih (i + 1) s1 t1 (by omega) (by omega) a3.1
      refine ⟨s2, t2, ?_, ?_, a3.tr b3⟩
      · rw [if_neg (nI_ge (by omega) (by omega)), stget_c (by omega) (by omega), Option.bind_some, a1, Option.bind_some, nI_1]; exact b1
      · rw [if_neg (nI_ge (by omega) (by omega)), stget_c (by omega) (by omega), Option.bind_some, a2, Option.bind_some, nI_1]; exact b2
theorem q_text {u : Nat} {w : List Nat} (hu : u < 5) (hw : w.length < 900000) {s t : uS} (h : pQ1 u s t) : ∃ s1 t1 : uS, fn_X5_text (qk u) w s = some s1 ∧ fn_X12_tell (nI u) w t = some t1 ∧ pQo u s t s1 t1 := q_textL hu (by omega) uFu 0 s t (by show _ < 0 + 1000000; omega) (Nat.zero_le _) h
theorem q_lineP {u : Nat} {w : List Nat} (hu : u < 5) (hw : w.length < 900000) {s t : uS} (h : pQ1 u s t) : ∃ s1 t1 : uS, fn_X5_line (qk u) w s = some s1 ∧ fn_X12_line (nI u) w t = some t1 ∧ pQo u s t s1 t1 := by
  obtain ⟨s1, t1, a1, a2, a3⟩ := q_text hu hw h
  obtain ⟨s2, t2, b1, b2, b3⟩ := q_put hu a3.1 (x := 13) (y := 13) rfl
  obtain ⟨s3, t3, c1, c2, c3⟩ := q_put hu b3.1 (x := 10) (y := 10) rfl
  refine ⟨s3, t3, ?_, ?_, (a3.tr b3).tr c3⟩
  · unfold fn_X5_line; rw [a1, Option.bind_some, b1, Option.bind_some, c1, Option.bind_some]
  · unfold fn_X12_line; rw [a2, Option.bind_some, b2, Option.bind_some, c2, Option.bind_some]
theorem q_no {u : Nat} {w : List Nat} (hu : u < 5) (hw : w.length < 900000) {s t : uS} (h : pQ1 u s t) : ∃ s1 t1 : uS, fn_X5_refusal (qk u) w s = some s1 ∧ fn_X12_no (nI u) w t = some t1 ∧ pQo u s t s1 t1 := by
  obtain ⟨s1, t1, a1, a2, a3⟩ := q_text (w := kW_45) hu (by decide) h
  obtain ⟨s2, t2, b1, b2, b3⟩ := q_text hu hw a3.1
  obtain ⟨s3, t3, c1, c2, c3⟩ := q_lineP (w := kW_46) hu (by decide) b3.1
  refine ⟨s3, t3, ?_, ?_, (a3.tr b3).tr c3⟩
  · unfold fn_X5_refusal; rw [a1, Option.bind_some, b1, Option.bind_some, c1, Option.bind_some]
  · unfold fn_X12_no
    rw [show kW_202 = kW_45 from rfl, show kW_203 = kW_46 from rfl, a2, Option.bind_some, b2, Option.bind_some, c2, Option.bind_some]
/-- two bytes that say the same -/
theorem sb_i8e {b : Nat} (h : b < 256) : (sb b).toInt8 = (nI b).toInt8 := by
  have : ∀ b, b < 256 → (sb b).toInt8 = (nI b).toInt8 := by decide +kernel
  exact this b h
