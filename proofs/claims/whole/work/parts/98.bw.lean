/-! Texts: a range of bytes behind the open text -/
theorem rdC.is {s : uS} {k fr : Nat} {x : List Nat} (h : rdC s k fr x) (hx : 0 < x.length) : uIs s k 21 ∧ fr + x.length ≤ (uCl s k).2 := by
  have h1 := h.1
  have := h.2.2 (x.length - 1) (by omega)
  unfold iget at this
  split at this
  · rename_i c
    refine ⟨c.1, ?_⟩
    have c2 : ¬ (nI (fr + (x.length - 1)) < 0 ∨ (uCl s k).2 ≤ (nI (fr + (x.length - 1))).toNatClampNeg) := c.2
    rw [nI_clamp (by omega)] at c2
    have : ¬ (uCl s k).2 ≤ fr + (x.length - 1) := fun z => c2 (Or.inr z)
    omega
  · cases this
theorem rdC.F {s : uS} {k fr j : Nat} {x : List Nat} (h : rdC s k fr x) (hj : j < x.length) : s.F k (fr + j) = sb (x.getD j 0) := by
  have h1 := h.1
  have := h.2.2 j hj
  unfold iget at this
  split at this
  · rw [nI_clamp (by omega)] at this
    exact Option.some.inj this
  · cases this
theorem getD_appR {a b : List Nat} {j : Nat} (h : a.length ≤ j) : (a ++ b).getD j 0 = b.getD (j - a.length) 0 := by
  rw [List.getD_eq_getElem?_getD, List.getElem?_append_right h, List.getD_eq_getElem?_getD]
theorem bys_apps {a b : List Nat} (h : bys a) (h2 : bys b) : bys (a ++ b) := by
  intro j
  by_cases c : j < a.length
  · rw [getDn_app c]; exact h j
  · rw [getD_appR (by omega)]; exact h2 _
def txI (K k f : Nat) : Prop := k = K ∧ f = 5
def txF (K k _f : Nat) : Prop := k = K + 1
theorem tz_range {s : uS} {K cap mo bg k fr a b : Nat} {ts : List (List Nat)} {cur x : List Nat} (hK : uTx K cap mo) (h : cTz s K cap mo ts bg cur) (hr : rdC s k fr x) (hcl : (uCl s k).2 ≤ 10000) (hk : k ≠ K + 1) (hx0 : 0 < x.length) (hab : a ≤ b) (hb : b ≤ x.length) (hfit : bg + cur.length + (b - a) ≤ cap) : ∃ s1 : uS, fn_X9_putRange K k (nI (fr + a)) (nI (fr + b)) s = some s1 ∧ cTz s1 K cap mo ts bg (cur ++ sub x a b) ∧ out (txI K) (txF K) s s1 := by
  obtain ⟨k1, k2, k3, k4, k5, k6⟩ := hK
  have hf := hr.1
  have hsl := sub_len hb hab
  obtain ⟨q1, q2⟩ := hr.is (by omega)
  have hul : ulen s k = some (nI (uCl s k).2) := by
    unfold ulen
    rw [if_pos ⟨q1.1, by rw [q1.2]; decide, by rw [q1.2]; decide⟩]
  obtain ⟨h1, h2, h3, h4, h5, h6, h7, f, h8, h9⟩ := h
  unfold fn_X9_putRange
  rw [hul, Option.bind_some, ulen_c (by omega) k2 (by decide), Option.bind_some, if_neg (nI_pos (by omega)), h4]
  have m1 : (if nI (uCl s k).2 < nI (fr + b) then nI (uCl s k).2 else nI (fr + b)) = nI (fr + b) := if_neg (nI_nlt (by omega) (by omega))
  have m2 : (if nI cap - nI (bg + cur.length) < nI (fr + b) - nI (fr + a) then nI cap - nI (bg + cur.length) else nI (fr + b) - nI (fr + a)) = nI (b - a) := by
    rw [nI_sub (by omega), nI_sub (by omega), show fr + b - (fr + a) = b - a by omega]
    exact if_neg (nI_nlt (by omega) (by omega))
  rw [m1, m2]
  by_cases c1 : b - a = 0
  · rw [c1, if_pos (show nI 0 ≤ 0 by decide)]
    have hsub : sub x a b = [] := List.eq_nil_of_length_eq_zero (by omega)
    refine ⟨s, rfl, ?_, out_r⟩
    rw [hsub, List.append_nil]
    exact ⟨h1, h2, h3, h4, h5, h6, h7, f, h8, h9⟩
  · rw [if_neg (nI_nle (by omega) (by omega))]
    have hcK : uCl s (K + 1) = (21, cap) := by rw [uCl_c (by omega)]; exact k2
    have hac : acpy s k (nI (fr + a)) (K + 1) (nI (bg + cur.length)) (nI (b - a)) = some (wFs s (K + 1) (va_cpy (s.F k) (s.F (K + 1)) (fr + a) (bg + cur.length) (b - a))) := by
      unfold acpy
      rw [if_pos ⟨q1, ⟨Or.inl (by omega), by rw [hcK]⟩, nI_pos (by omega), nI_pos (by omega), nI_pos (by omega), by rw [nI_clamp (by omega), nI_clamp (by omega)]; omega, by rw [hcK, nI_clamp (by omega), nI_clamp (by omega)]; exact hfit⟩, nI_clamp (by omega), nI_clamp (by omega), nI_clamp (by omega)]
    rw [hac, Option.bind_some]
    have hI5 : (wFs s (K + 1) (va_cpy (s.F k) (s.F (K + 1)) (fr + a) (bg + cur.length) (b - a))).I K 5 = nI (bg + cur.length) := h4
    rw [hI5, nI_add]
    have hF1 : ∀ j : Nat, (wI (wFs s (K + 1) (va_cpy (s.F k) (s.F (K + 1)) (fr + a) (bg + cur.length) (b - a))) K 5 (nI (bg + cur.length + (b - a)))).F (K + 1) j = va_cpy (s.F k) (s.F (K + 1)) (fr + a) (bg + cur.length) (b - a) j := fun j => congrFun (if_pos rfl) j
    have hFo : ∀ k' j : Nat, k' ≠ K + 1 → (wI (wFs s (K + 1) (va_cpy (s.F k) (s.F (K + 1)) (fr + a) (bg + cur.length) (b - a))) K 5 (nI (bg + cur.length + (b - a)))).F k' j = s.F k' j := fun k' j hne => congrFun (if_neg hne) j
    refine ⟨_, rfl, ⟨(wI_o (by omega)).trans h1, h2, (wI_o (by omega)).trans h3, ?_, ?_, bys_apps h6 (sub_by hr.2.1), ?_, f, h8, ?_⟩, ?_⟩
    · rw [wI_e, List.length_append, hsl, Nat.add_assoc]
    · rw [List.length_append, hsl]; omega
    · intro j hj
      rw [List.length_append, hsl] at hj
      rw [hF1]
      by_cases z : j < cur.length
      · rw [pk_cpy_out (by omega), getDn_app z]; exact h7 j z
      · rw [pk_cpy_in (by omega) (by omega), getD_appR (by omega), sub_get (by omega), show fr + a + (bg + j - (bg + cur.length)) = fr + (a + (j - cur.length)) by omega]
        exact hr.F (by omega)
    · intro i hi
      obtain ⟨a1, a2, a3, a4, a5⟩ := h9 i hi
      refine ⟨a1, (hFo _ _ (by omega)).trans a2, (hFo _ _ (by omega)).trans a3, a4, ?_⟩
      intro j hj
      have := fr_end (fun i hi => (h9 i hi).2.2.2.1) hi
      rw [hF1, pk_cpy_out (by omega)]
      exact a5 j hj
    · refine out_I ⟨⟨rfl, rfl, rfl, rfl, rfl, rfl⟩, fun _ _ _ => rfl, ?_⟩ ⟨rfl, rfl⟩
      intro k' j hne
      exact congrFun (if_neg (show ¬ k' = K + 1 from hne)) j
