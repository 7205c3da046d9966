section HW
variable {l : Launch} {D : va_G} {ty : List (ClassId × FieldType)} {B : Nat} {Z : State → Heap → Prop} {M : hM} {d : Nat} {σ0 σ : hS} {P : hS → Option Value → Prop} {pc : Nat} {lv : List (Nat × Value)} {st : List Value}
/-- a String constant, the wide form -/
theorem g_ldcwS {ix q : Nat} {tx : String} (hk : ∀ (U : State) (H : Heap), Z U H → vk_R M.1.cls ix tx q U) (hd : decode M.2.1 pc = .ok (.ldc_w ix, 3)) (k9 : G l D ty B Z M d σ0 P σ (pc + 3) lv (.ref q :: st)) : G l D ty B Z M d σ0 P σ pc lv st := by
  intro p e s m args below meth c C9 H locs ls hR hS h3 hl9
  intro T hT X
  obtain ⟨t, a1, b1⟩ := k9 p e s m args below meth c C9 H locs ls hR hS h3 hl9 T hT X
  obtain ⟨hc1, hev⟩ := hk s H hR.2.1
  obtain ⟨k, cf, i, a', hk1, hcf, hcp, -, hr, hev'⟩ := Cond.stringRef_spec C9.2.2.2.2.1 hc1
  cases hev.symm.trans hev'
  obtain ⟨k', hk', he⟩ := X.warmed.alike.2.2 _ _ hk1
  have hr' : k'.resolved[ix]? = some (some (.string q)) := by
    rcases X.warmed.entry hk1 hk' ix with h | ⟨h, -⟩
    · rw [h]; exact hr
    · rw [hr] at h; cases h
  refine ⟨t, ?_, b1⟩
  have hx := C9.1
  have hdg : decode c.code pc = .ok (.ldc_w ix, 3) := by rw [C9.2.1]; exact hd
  jvm_step X.here [hx, hdg, ldc_w.wp_string (e := e) (s := T) (f := F0 m pc ls st) X.here.top hk' (by rw [he]; exact hcf) hcp hr']
  exact a1
end HW
