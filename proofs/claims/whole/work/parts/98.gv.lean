/-! one recipient: the reference takes it up -/
/-- the recipients as the reference holds them -/
def rRc (t : uS) (rcs : List (List Nat)) (us : List Nat) : Prop := us.length = rcs.length ∧ rcs.length ≤ 4 ∧ t.I 1079 117 = nI rcs.length ∧ ∀ i : Nat, i < rcs.length → us.getD i 0 < 4 ∧ (rcs.getD i []).length ≤ 101 ∧ bys (rcs.getD i []) ∧ t.F 1144 i = nI (us.getD i 0) ∧ t.F 1146 i = nI (rcs.getD i []).length ∧ ∀ j : Nat, j < (rcs.getD i []).length → t.F 1145 (101 * i + j) = nI ((rcs.getD i []).getD j 0)
def rkI (k f : Nat) : Prop := k = 1079 ∧ (f = 14 ∨ f = 89 ∨ f = 91)
def rkF (k _f : Nat) : Prop := (1088 ≤ k ∧ k ≤ 1092) ∨ k = 1136
theorem r_take {t : uS} {rcs : List (List Nat)} {us : List Nat} {ri : Nat} (h : rRc t rcs us) (hi : ri < rcs.length) : ∃ t1 : uS, fn_X12_deliver (nI ri) t = (if t1.I 1079 13 ≤ 4000 then ((fn_X12_readHeader t1).bind fun s3 => (fn_X12_sortIt s3).bind fun s5 => rAn s5) else ((fn_X12_line 4 kW_159 t1).bind fun s10 => some (s10, true))) ∧ t1.I 1079 89 = nI (us.getD ri 0) ∧ rTe t1 91 1136 (rcs.getD ri []) ∧ out rkI rkF t t1 := by
  obtain ⟨h1, h2, h3, h4⟩ := h
  obtain ⟨a1, a2, a3, a4, a5, a6⟩ := h4 ri hi
  obtain ⟨x, hx⟩ : ∃ x, x = rcs.getD ri [] := ⟨_, rfl⟩
  rw [← hx] at a2 a3 a5 a6 ⊢
  have hri : ri < 4 := by omega
  obtain ⟨t0, ht0⟩ : ∃ t0, t0 = wI (wI t 1079 89 (nI (us.getD ri 0))) 1079 91 (nI x.length) := ⟨_, rfl⟩
  have o0 : out rkI rkF t t0 := by
    rw [ht0]
    exact out_I (out_I out_r ⟨rfl, by omega⟩) ⟨rfl, by omega⟩
  have i91 : t0.I 1079 91 = nI x.length := by rw [ht0, wI_e]
  have i89 : t0.I 1079 89 = nI (us.getD ri 0) := by rw [ht0, wI_o (by omega), wI_e]
  have F0 : ∀ k f : Nat, t0.F k f = t.F k f := fun k f => by rw [ht0, wI_Fe, wI_Fe]
  have e := cpy0 (F := fun N y s => fn_X12_deliver_22 N (nI ri) y s) (fin := fun s => if s.I 1079 13 ≤ 4000 then ((fn_X12_readHeader s).bind fun s3 => (fn_X12_sortIt s3).bind fun s5 => rAn s5) else ((fn_X12_line 4 kW_159 s).bind fun s10 => some (s10, true))) (K := 1136) (off := 0) (L := x.length) (g := fun j => nI (x.getD j 0)) (s := t0) ?_ ?_ (by show _ < 1000000; omega)
  · refine ⟨cpy t0 1136 0 0 x.length (fun j => nI (x.getD j 0)), ?_, i89, ⟨i91, a2, a3, fun j hj => ?_⟩, out_t o0 ⟨⟨rfl, rfl, rfl, rfl, rfl, rfl⟩, fun _ _ _ => rfl, fun k f z => ?_⟩⟩
    · unfold fn_X12_deliver
      have e46 : (wI t 1079 89 (nI (us.getD ri 0))).F 1146 ri = nI x.length := by rw [wI_Fe]; exact a5
      rw [g_1144 hri, Option.bind_some, a4, g_1146 hri, Option.bind_some, e46, ← ht0]
      exact e
    · have := cpy_Fe (s := t0) (K := 1136) (off := 0) (g := fun j => nI (x.getD j 0)) (Nat.zero_le j) hj
      rw [Nat.zero_add] at this
      exact this
    · rw [cpy_F, if_neg (fun y => z (by unfold rkF; omega))]
  · intro n i hi'
    show fb_X12_deliver_22 (fn_X12_deliver_22 n) (nI ri) (nI i) _ = _
    unfold fb_X12_deliver_22
    have f91 : (cpy t0 1136 0 0 i (fun j => nI (x.getD j 0))).I 1079 91 = nI x.length := i91
    have f45 : (cpy t0 1136 0 0 i (fun j => nI (x.getD j 0))).F 1145 (101 * ri + i) = nI (x.getD i 0) := by rw [cpy_Fo (by decide), F0]; exact a6 i hi'
    rw [f91, if_neg (nI_ge hi' (by omega)), show (101 : Int32) = nI 101 from rfl, nI_mul, nI_add, g_1145 (by omega), Option.bind_some, f45, p_1136 (by omega), Option.bind_some, nI_1, Nat.zero_add]
  · intro n
    show fb_X12_deliver_22 (fn_X12_deliver_22 n) (nI ri) (nI x.length) _ = _
    unfold fb_X12_deliver_22
    have f91 : (cpy t0 1136 0 0 x.length (fun j => nI (x.getD j 0))).I 1079 91 = nI x.length := i91
    rw [f91, if_pos (nI_le (Nat.le_refl _) (by omega))]
    rfl
