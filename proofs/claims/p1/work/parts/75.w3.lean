set_option maxRecDepth 100000 in
set_option maxHeartbeats 4000000 in
theorem kt_0 {s : State} {args : Array Value} (hts : ∀ w ∈ lw_tbl, w.before args s = true) (hn : narrow_1.before args s = true) : ∃ q : Nat, (∀ (U : State) (H : Heap), Zc s s.heap.size U H → va_Z "SortedMail$Parser" "NEEDED_BY_KINDS" "[I" (.ref q) (fun q : Nat => s.heap.size ≤ q) U H) ∧ (∀ (U : State) (H : Heap), Zc s s.heap.size U H → va_T .int q kS_0.length (fun j => .int (kS_0.getD j 0)) (fun q : Nat => s.heap.size ≤ q) U H) := by
  have hA : ∀ a : Nat, a < s.heap.size → ¬ (fun q : Nat => s.heap.size ≤ q) a := fun a h => Nat.not_le.mpr h
  have hf := flat_of_before _ hn
  have he : ∀ j : Nat, j < 26 → (flatC narrow_1)[10 + j]? = some (.eq (.elem (.static "SortedMail$Parser" "NEEDED_BY_KINDS" "[I") (.int (nI j))) (.int (kS_0.getD j 0))) := by decide +kernel
  obtain ⟨t, ht, hT⟩ := va_Tof (tm := (.static "SortedMail$Parser" "NEEDED_BY_KINDS" "[I")) (ty := .int) (N := 26) (f := fun j => .int (kS_0.getD j 0)) (A := fun q : Nat => s.heap.size ≤ q) (by decide) (hf (.arrayOf (.static "SortedMail$Parser" "NEEDED_BY_KINDS" "[I") .int) (List.mem_of_getElem? (i := 8) (by decide +kernel))) (va_eqt (hf (.eq (.length (.static "SortedMail$Parser" "NEEDED_BY_KINDS" "[I")) (.int (nI 26))) (List.mem_of_getElem? (i := 9) (by decide +kernel)))) (fun j hj => va_eqt (hf _ (List.mem_of_getElem? (he j hj)))) hA
  exact ⟨t, Zc.get st_Z (va_Zof (hts _ (w_t5 38 rfl)) (hts _ (w_t1 2 rfl)) ht hA), Zc.get st_T hT⟩
set_option maxRecDepth 100000 in
set_option maxHeartbeats 4000000 in
theorem kt_1 {s : State} {args : Array Value} (hts : ∀ w ∈ lw_tbl, w.before args s = true) (hn : narrow_1.before args s = true) : ∃ q : Nat, (∀ (U : State) (H : Heap), Zc s s.heap.size U H → va_Z "SortedMail$Parser" "NEEDED_BY_TAGS" "[I" (.ref q) (fun q : Nat => s.heap.size ≤ q) U H) ∧ (∀ (U : State) (H : Heap), Zc s s.heap.size U H → va_T .int q kS_1.length (fun j => .int (kS_1.getD j 0)) (fun q : Nat => s.heap.size ≤ q) U H) := by
  have hA : ∀ a : Nat, a < s.heap.size → ¬ (fun q : Nat => s.heap.size ≤ q) a := fun a h => Nat.not_le.mpr h
  have hf := flat_of_before _ hn
  have he : ∀ j : Nat, j < 17 → (flatC narrow_1)[88 + j]? = some (.eq (.elem (.static "SortedMail$Parser" "NEEDED_BY_TAGS" "[I") (.int (nI j))) (.int (kS_1.getD j 0))) := by decide +kernel
  obtain ⟨t, ht, hT⟩ := va_Tof (tm := (.static "SortedMail$Parser" "NEEDED_BY_TAGS" "[I")) (ty := .int) (N := 17) (f := fun j => .int (kS_1.getD j 0)) (A := fun q : Nat => s.heap.size ≤ q) (by decide) (hf (.arrayOf (.static "SortedMail$Parser" "NEEDED_BY_TAGS" "[I") .int) (List.mem_of_getElem? (i := 86) (by decide +kernel))) (va_eqt (hf (.eq (.length (.static "SortedMail$Parser" "NEEDED_BY_TAGS" "[I")) (.int (nI 17))) (List.mem_of_getElem? (i := 87) (by decide +kernel)))) (fun j hj => va_eqt (hf _ (List.mem_of_getElem? (he j hj)))) hA
  exact ⟨t, Zc.get st_Z (va_Zof (hts _ (w_t5 95 rfl)) (hts _ (w_t1 2 rfl)) ht hA), Zc.get st_T hT⟩
set_option maxRecDepth 100000 in
set_option maxHeartbeats 4000000 in
theorem kt_2 {s : State} {args : Array Value} (hts : ∀ w ∈ lw_tbl, w.before args s = true) (hn : narrow_1.before args s = true) : ∃ q : Nat, (∀ (U : State) (H : Heap), Zc s s.heap.size U H → va_Z "SortedMail$Parser" "TAGS_OF_KINDS" "[I" (.ref q) (fun q : Nat => s.heap.size ≤ q) U H) ∧ (∀ (U : State) (H : Heap), Zc s s.heap.size U H → va_T .int q kS_2.length (fun j => .int (kS_2.getD j 0)) (fun q : Nat => s.heap.size ≤ q) U H) := by
  have hA : ∀ a : Nat, a < s.heap.size → ¬ (fun q : Nat => s.heap.size ≤ q) a := fun a h => Nat.not_le.mpr h
  have hf := flat_of_before _ hn
  have he : ∀ j : Nat, j < 26 → (flatC narrow_1)[39 + j]? = some (.eq (.elem (.static "SortedMail$Parser" "TAGS_OF_KINDS" "[I") (.int (nI j))) (.int (kS_2.getD j 0))) := by decide +kernel
  obtain ⟨t, ht, hT⟩ := va_Tof (tm := (.static "SortedMail$Parser" "TAGS_OF_KINDS" "[I")) (ty := .int) (N := 26) (f := fun j => .int (kS_2.getD j 0)) (A := fun q : Nat => s.heap.size ≤ q) (by decide) (hf (.arrayOf (.static "SortedMail$Parser" "TAGS_OF_KINDS" "[I") .int) (List.mem_of_getElem? (i := 37) (by decide +kernel))) (va_eqt (hf (.eq (.length (.static "SortedMail$Parser" "TAGS_OF_KINDS" "[I")) (.int (nI 26))) (List.mem_of_getElem? (i := 38) (by decide +kernel)))) (fun j hj => va_eqt (hf _ (List.mem_of_getElem? (he j hj)))) hA
  exact ⟨t, Zc.get st_Z (va_Zof (hts _ (w_t5 44 rfl)) (hts _ (w_t1 2 rfl)) ht hA), Zc.get st_T hT⟩
set_option maxRecDepth 100000 in
set_option maxHeartbeats 4000000 in
theorem kt_3 {s : State} {args : Array Value} (hts : ∀ w ∈ lw_tbl, w.before args s = true) (hn : narrow_1.before args s = true) : ∃ q : Nat, (∀ (U : State) (H : Heap), Zc s s.heap.size U H → va_Z "SortedMail$Parser" "TAG_GROUPS" "[I" (.ref q) (fun q : Nat => s.heap.size ≤ q) U H) ∧ (∀ (U : State) (H : Heap), Zc s s.heap.size U H → va_T .int q kS_3.length (fun j => .int (kS_3.getD j 0)) (fun q : Nat => s.heap.size ≤ q) U H) := by
  have hA : ∀ a : Nat, a < s.heap.size → ¬ (fun q : Nat => s.heap.size ≤ q) a := fun a h => Nat.not_le.mpr h
  have hf := flat_of_before _ hn
  have he : ∀ j : Nat, j < 17 → (flatC narrow_1)[68 + j]? = some (.eq (.elem (.static "SortedMail$Parser" "TAG_GROUPS" "[I") (.int (nI j))) (.int (kS_3.getD j 0))) := by decide +kernel
  obtain ⟨t, ht, hT⟩ := va_Tof (tm := (.static "SortedMail$Parser" "TAG_GROUPS" "[I")) (ty := .int) (N := 17) (f := fun j => .int (kS_3.getD j 0)) (A := fun q : Nat => s.heap.size ≤ q) (by decide) (hf (.arrayOf (.static "SortedMail$Parser" "TAG_GROUPS" "[I") .int) (List.mem_of_getElem? (i := 66) (by decide +kernel))) (va_eqt (hf (.eq (.length (.static "SortedMail$Parser" "TAG_GROUPS" "[I")) (.int (nI 17))) (List.mem_of_getElem? (i := 67) (by decide +kernel)))) (fun j hj => va_eqt (hf _ (List.mem_of_getElem? (he j hj)))) hA
  exact ⟨t, Zc.get st_Z (va_Zof (hts _ (w_t5 89 rfl)) (hts _ (w_t1 2 rfl)) ht hA), Zc.get st_T hT⟩
set_option maxRecDepth 100000 in
set_option maxHeartbeats 4000000 in
theorem kt_4 {s : State} {args : Array Value} (hts : ∀ w ∈ lw_tbl, w.before args s = true) (hn : narrow_1.before args s = true) : ∃ q : Nat, (∀ (U : State) (H : Heap), Zc s s.heap.size U H → va_Z "SortedMail$ScriptSession" "FIRST_PARTS" "[I" (.ref q) (fun q : Nat => s.heap.size ≤ q) U H) ∧ (∀ (U : State) (H : Heap), Zc s s.heap.size U H → va_T .int q kS_4.length (fun j => .int (kS_4.getD j 0)) (fun q : Nat => s.heap.size ≤ q) U H) := by
  have hA : ∀ a : Nat, a < s.heap.size → ¬ (fun q : Nat => s.heap.size ≤ q) a := fun a h => Nat.not_le.mpr h
  have hf := flat_of_before _ hn
  have he : ∀ j : Nat, j < 9 → (flatC narrow_1)[111 + j]? = some (.eq (.elem (.static "SortedMail$ScriptSession" "FIRST_PARTS" "[I") (.int (nI j))) (.int (kS_4.getD j 0))) := by decide +kernel
  obtain ⟨t, ht, hT⟩ := va_Tof (tm := (.static "SortedMail$ScriptSession" "FIRST_PARTS" "[I")) (ty := .int) (N := 9) (f := fun j => .int (kS_4.getD j 0)) (A := fun q : Nat => s.heap.size ≤ q) (by decide) (hf (.arrayOf (.static "SortedMail$ScriptSession" "FIRST_PARTS" "[I") .int) (List.mem_of_getElem? (i := 109) (by decide +kernel))) (va_eqt (hf (.eq (.length (.static "SortedMail$ScriptSession" "FIRST_PARTS" "[I")) (.int (nI 9))) (List.mem_of_getElem? (i := 110) (by decide +kernel)))) (fun j hj => va_eqt (hf _ (List.mem_of_getElem? (he j hj)))) hA
  exact ⟨t, Zc.get st_Z (va_Zof (hts _ (w_t7 41 rfl)) (hts _ (w_t1 7 rfl)) ht hA), Zc.get st_T hT⟩
set_option maxRecDepth 100000 in
set_option maxHeartbeats 4000000 in
theorem kt_5 {s : State} {args : Array Value} (hts : ∀ w ∈ lw_tbl, w.before args s = true) (hn : narrow_1.before args s = true) : ∃ q : Nat, (∀ (U : State) (H : Heap), Zc s s.heap.size U H → va_Z "SortedMail$ScriptSession" "SECOND_PARTS" "[I" (.ref q) (fun q : Nat => s.heap.size ≤ q) U H) ∧ (∀ (U : State) (H : Heap), Zc s s.heap.size U H → va_T .int q kS_5.length (fun j => .int (kS_5.getD j 0)) (fun q : Nat => s.heap.size ≤ q) U H) := by
  have hA : ∀ a : Nat, a < s.heap.size → ¬ (fun q : Nat => s.heap.size ≤ q) a := fun a h => Nat.not_le.mpr h
  have hf := flat_of_before _ hn
  have he : ∀ j : Nat, j < 9 → (flatC narrow_1)[123 + j]? = some (.eq (.elem (.static "SortedMail$ScriptSession" "SECOND_PARTS" "[I") (.int (nI j))) (.int (kS_5.getD j 0))) := by decide +kernel
  obtain ⟨t, ht, hT⟩ := va_Tof (tm := (.static "SortedMail$ScriptSession" "SECOND_PARTS" "[I")) (ty := .int) (N := 9) (f := fun j => .int (kS_5.getD j 0)) (A := fun q : Nat => s.heap.size ≤ q) (by decide) (hf (.arrayOf (.static "SortedMail$ScriptSession" "SECOND_PARTS" "[I") .int) (List.mem_of_getElem? (i := 121) (by decide +kernel))) (va_eqt (hf (.eq (.length (.static "SortedMail$ScriptSession" "SECOND_PARTS" "[I")) (.int (nI 9))) (List.mem_of_getElem? (i := 122) (by decide +kernel)))) (fun j hj => va_eqt (hf _ (List.mem_of_getElem? (he j hj)))) hA
  exact ⟨t, Zc.get st_Z (va_Zof (hts _ (w_t7 52 rfl)) (hts _ (w_t1 7 rfl)) ht hA), Zc.get st_T hT⟩
theorem kt_all {s : State} {args : Array Value} (hts : ∀ w ∈ lw_tbl, w.before args s = true) (hn : narrow_1.before args s = true) : ∀ (j : Nat) (e : String × String × List Int32), kSt[j]? = some e → ∃ q : Nat, (∀ (U : State) (H : Heap), Zc s s.heap.size U H → va_Z e.1 e.2.1 "[I" (.ref q) (fun q : Nat => s.heap.size ≤ q) U H) ∧ (∀ (U : State) (H : Heap), Zc s s.heap.size U H → va_T .int q e.2.2.length (fun j => .int (e.2.2.getD j 0)) (fun q : Nat => s.heap.size ≤ q) U H) := by
  intro j e he
  match j, he with
  | 0, he => cases he; exact kt_0 hts hn
  | 1, he => cases he; exact kt_1 hts hn
  | 2, he => cases he; exact kt_2 hts hn
  | 3, he => cases he; exact kt_3 hts hn
  | 4, he => cases he; exact kt_4 hts hn
  | 5, he => cases he; exact kt_5 hts hn
  | j + 6, he => exact absurd (List.getElem?_eq_some_iff.mp he).1 (by show ¬ j + 6 < 6; omega)
theorem st_Nc {B : Nat} {C T : String} : h_st B (fun U _ => va_Nw (.castable C T) U) := fun U V H H1 hv hq h => hv.elim (fun hW => va_Nw.warmC hW h) (fun he => va_Nw.same rfl he.symm h)
theorem kl_0 {s : State} {args : Array Value} (hts : ∀ w ∈ lw_tbl, w.before args s = true) (hn : narrow_1.before args s = true) : ∃ q : Nat, ∀ A : Nat → ClassId, A 100 = q → uX A s.heap.size (Zc s s.heap.size) := by
  have hA : ∀ a : Nat, a < s.heap.size → ¬ (fun q : Nat => s.heap.size ≤ q) a := fun a h => Nat.not_le.mpr h
  have hf := flat_of_before _ hn
  obtain ⟨t, ht, hT⟩ := va_Tof (tm := (.static "SortedMail$Entry" "NO_LABEL" "[B")) (ty := .byte) (N := 0) (f := fun _ => .int 0) (A := fun q : Nat => s.heap.size ≤ q) (by decide) (hf (.arrayOf (.static "SortedMail$Entry" "NO_LABEL" "[B") .byte) (List.mem_of_getElem? (i := 106) (by decide +kernel))) (va_eqt (hf (.eq (.length (.static "SortedMail$Entry" "NO_LABEL" "[B")) (.int (nI 0))) (List.mem_of_getElem? (i := 107) (by decide +kernel)))) (fun j hj => absurd hj (Nat.not_lt_zero j)) hA
  refine ⟨t, fun A hA0 => ⟨?_, Zc.get st_Nc (va_Nw.of rfl (hts _ (w_t6 143 rfl)))⟩⟩
  rw [hA0]
  exact Zc.get st_Z (va_Zof (hts _ (w_t6 149 rfl)) (hts _ (w_t1 21 rfl)) ht hA)
