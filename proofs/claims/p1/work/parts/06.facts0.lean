theorem h_t1 {w : Cond} (j : Nat) (h : tables_1_1[j]? = some w) (hg : goodWord w = true) : w ∈ lw_g := h_in (by have h := List.mem_of_getElem? h; exact List.mem_append_left _ h) hg
theorem h_t2 {w : Cond} (j : Nat) (h : tables_1_2[j]? = some w) (hg : goodWord w = true) : w ∈ lw_g := h_in (by have h := List.mem_of_getElem? h; exact List.mem_append_right _ (List.mem_append_left _ h)) hg
theorem h_t3 {w : Cond} (j : Nat) (h : tables_1_3[j]? = some w) (hg : goodWord w = true) : w ∈ lw_g := h_in (by have h := List.mem_of_getElem? h; exact List.mem_append_right _ (List.mem_append_right _ (List.mem_append_left _ h))) hg
theorem h_t4 {w : Cond} (j : Nat) (h : tables_1_4[j]? = some w) (hg : goodWord w = true) : w ∈ lw_g := h_in (by have h := List.mem_of_getElem? h; exact List.mem_append_right _ (List.mem_append_right _ (List.mem_append_right _ (List.mem_append_left _ h)))) hg
theorem h_t5 {w : Cond} (j : Nat) (h : tables_1_5[j]? = some w) (hg : goodWord w = true) : w ∈ lw_g := h_in (by have h := List.mem_of_getElem? h; exact List.mem_append_right _ (List.mem_append_right _ (List.mem_append_right _ (List.mem_append_right _ (List.mem_append_left _ h))))) hg
theorem h_t6 {w : Cond} (j : Nat) (h : tables_1_6[j]? = some w) (hg : goodWord w = true) : w ∈ lw_g := h_in (by have h := List.mem_of_getElem? h; exact List.mem_append_right _ (List.mem_append_right _ (List.mem_append_right _ (List.mem_append_right _ (List.mem_append_right _ (List.mem_append_left _ h)))))) hg
theorem h_t7 {w : Cond} (j : Nat) (h : tables_1_7[j]? = some w) (hg : goodWord w = true) : w ∈ lw_g := h_in (by have h := List.mem_of_getElem? h; exact List.mem_append_right _ (List.mem_append_right _ (List.mem_append_right _ (List.mem_append_right _ (List.mem_append_right _ (List.mem_append_right _ (List.mem_append_left _ h))))))) hg
theorem h_t8 {w : Cond} (j : Nat) (h : tables_1_8[j]? = some w) (hg : goodWord w = true) : w ∈ lw_g := h_in (by have h := List.mem_of_getElem? h; exact List.mem_append_right _ (List.mem_append_right _ (List.mem_append_right _ (List.mem_append_right _ (List.mem_append_right _ (List.mem_append_right _ (List.mem_append_right _ (List.mem_append_left _ h)))))))) hg
theorem h_t9 {w : Cond} (j : Nat) (h : tables_1_9[j]? = some w) (hg : goodWord w = true) : w ∈ lw_g := h_in (by have h := List.mem_of_getElem? h; exact List.mem_append_right _ (List.mem_append_right _ (List.mem_append_right _ (List.mem_append_right _ (List.mem_append_right _ (List.mem_append_right _ (List.mem_append_right _ (List.mem_append_right _ (List.mem_append_left _ h))))))))) hg
theorem h_t10 {w : Cond} (j : Nat) (h : tables_1_10[j]? = some w) (hg : goodWord w = true) : w ∈ lw_g := h_in (by have h := List.mem_of_getElem? h; exact List.mem_append_right _ (List.mem_append_right _ (List.mem_append_right _ (List.mem_append_right _ (List.mem_append_right _ (List.mem_append_right _ (List.mem_append_right _ (List.mem_append_right _ (List.mem_append_right _ (List.mem_append_left _ h)))))))))) hg
theorem h_t11 {w : Cond} (j : Nat) (h : tables_1_11[j]? = some w) (hg : goodWord w = true) : w ∈ lw_g := h_in (by have h := List.mem_of_getElem? h; exact List.mem_append_right _ (List.mem_append_right _ (List.mem_append_right _ (List.mem_append_right _ (List.mem_append_right _ (List.mem_append_right _ (List.mem_append_right _ (List.mem_append_right _ (List.mem_append_right _ (List.mem_append_right _ (List.mem_append_left _ h))))))))))) hg
theorem h_t12 {w : Cond} (j : Nat) (h : tables_1_12[j]? = some w) (hg : goodWord w = true) : w ∈ lw_g := h_in (by have h := List.mem_of_getElem? h; exact List.mem_append_right _ (List.mem_append_right _ (List.mem_append_right _ (List.mem_append_right _ (List.mem_append_right _ (List.mem_append_right _ (List.mem_append_right _ (List.mem_append_right _ (List.mem_append_right _ (List.mem_append_right _ (List.mem_append_right _ (List.mem_append_left _ h)))))))))))) hg
theorem h_t13 {w : Cond} (j : Nat) (h : tables_1_13[j]? = some w) (hg : goodWord w = true) : w ∈ lw_g := h_in (by have h := List.mem_of_getElem? h; exact List.mem_append_right _ (List.mem_append_right _ (List.mem_append_right _ (List.mem_append_right _ (List.mem_append_right _ (List.mem_append_right _ (List.mem_append_right _ (List.mem_append_right _ (List.mem_append_right _ (List.mem_append_right _ (List.mem_append_right _ (List.mem_append_right _ (h))))))))))))) hg
theorem h_inp {ws : List Cond} (h : ws.all (fun w => decide (w ∈ lw_g)) = true) : ∀ w ∈ ws, w ∈ lw_g := fun w hw => of_decide_eq_true (List.all_eq_true.mp h w hw)
theorem h_oi : Cond.instanceMethod objectInit ∈ lw_g := h_t1 28 rfl rfl
theorem h_oc : Cond.code objectInit ⟨#[0xb1]⟩ 1 none ∈ lw_g := h_t1 29 rfl rfl
theorem inX0 : ∀ w ∈ u_ws RX0 TX0 12, w ∈ lw_g := by
  intro w hw
  obtain ⟨k, hk, rfl⟩ := List.mem_map.mp hw
  have hk := List.mem_range.mp hk
  match k, hk with
  | 0, _ => exact h_t2 186 rfl rfl
  | 1, _ => exact h_t2 188 rfl rfl
  | 2, _ => exact h_t2 190 rfl rfl
  | 3, _ => exact h_t2 192 rfl rfl
  | 4, _ => exact h_t2 194 rfl rfl
  | 5, _ => exact h_t2 196 rfl rfl
  | 6, _ => exact h_t2 198 rfl rfl
  | 7, _ => exact h_t2 200 rfl rfl
  | 8, _ => exact h_t2 202 rfl rfl
  | 9, _ => exact h_t2 204 rfl rfl
  | 10, _ => exact h_t2 206 rfl rfl
  | 11, _ => exact h_t2 208 rfl rfl
  | k + 12, hk => exact absurd hk (by omega)
theorem ptX0 : (∃ t0 : Nat → FieldType, ∀ k, k < 12 → parseFieldDescriptor (TX0 k).2.2.1 = some (t0 k)) ∧ (∀ a, a < 12 → ∀ b, b < 12 → a ≠ b → (TX0 a).2.1 ≠ (TX0 b).2.1) := ⟨⟨tyX0, tyX0_ok⟩, nmX0⟩
theorem inX1 : ∀ w ∈ u_ws RX1 TX1 6, w ∈ lw_g := by
  intro w hw
  obtain ⟨k, hk, rfl⟩ := List.mem_map.mp hw
  have hk := List.mem_range.mp hk
  match k, hk with
  | 0, _ => exact h_t6 166 rfl rfl
  | 1, _ => exact h_t6 168 rfl rfl
  | 2, _ => exact h_t6 170 rfl rfl
  | 3, _ => exact h_t6 172 rfl rfl
  | 4, _ => exact h_t6 174 rfl rfl
  | 5, _ => exact h_t6 176 rfl rfl
  | k + 6, hk => exact absurd hk (by omega)
theorem ptX1 : (∃ t0 : Nat → FieldType, ∀ k, k < 6 → parseFieldDescriptor (TX1 k).2.2.1 = some (t0 k)) ∧ (∀ a, a < 6 → ∀ b, b < 6 → a ≠ b → (TX1 a).2.1 ≠ (TX1 b).2.1) := ⟨⟨tyX1, tyX1_ok⟩, nmX1⟩
theorem inX2 : ∀ w ∈ u_ws RX2 TX2 9, w ∈ lw_g := by
  intro w hw
  obtain ⟨k, hk, rfl⟩ := List.mem_map.mp hw
  have hk := List.mem_range.mp hk
  match k, hk with
  | 0, _ => exact h_t1 125 rfl rfl
  | 1, _ => exact h_t1 127 rfl rfl
  | 2, _ => exact h_t1 129 rfl rfl
  | 3, _ => exact h_t1 131 rfl rfl
  | 4, _ => exact h_t1 133 rfl rfl
  | 5, _ => exact h_t1 135 rfl rfl
  | 6, _ => exact h_t1 137 rfl rfl
  | 7, _ => exact h_t1 139 rfl rfl
  | 8, _ => exact h_t1 141 rfl rfl
  | k + 9, hk => exact absurd hk (by omega)
theorem ptX2 : (∃ t0 : Nat → FieldType, ∀ k, k < 9 → parseFieldDescriptor (TX2 k).2.2.1 = some (t0 k)) ∧ (∀ a, a < 9 → ∀ b, b < 9 → a ≠ b → (TX2 a).2.1 ≠ (TX2 b).2.1) := ⟨⟨tyX2, tyX2_ok⟩, nmX2⟩
theorem inX3 : ∀ w ∈ u_ws RX3 TX3 15, w ∈ lw_g := by
  intro w hw
  obtain ⟨k, hk, rfl⟩ := List.mem_map.mp hw
  have hk := List.mem_range.mp hk
  match k, hk with
  | 0, _ => exact h_t1 191 rfl rfl
  | 1, _ => exact h_t1 193 rfl rfl
  | 2, _ => exact h_t1 195 rfl rfl
  | 3, _ => exact h_t1 197 rfl rfl
  | 4, _ => exact h_t1 199 rfl rfl
  | 5, _ => exact h_t1 201 rfl rfl
  | 6, _ => exact h_t1 203 rfl rfl
  | 7, _ => exact h_t1 205 rfl rfl
  | 8, _ => exact h_t1 207 rfl rfl
  | 9, _ => exact h_t1 209 rfl rfl
  | 10, _ => exact h_t1 211 rfl rfl
  | 11, _ => exact h_t1 213 rfl rfl
  | 12, _ => exact h_t1 215 rfl rfl
  | 13, _ => exact h_t1 217 rfl rfl
  | 14, _ => exact h_t1 219 rfl rfl
  | k + 15, hk => exact absurd hk (by omega)
theorem ptX3 : (∃ t0 : Nat → FieldType, ∀ k, k < 15 → parseFieldDescriptor (TX3 k).2.2.1 = some (t0 k)) ∧ (∀ a, a < 15 → ∀ b, b < 15 → a ≠ b → (TX3 a).2.1 ≠ (TX3 b).2.1) := ⟨⟨tyX3, tyX3_ok⟩, nmX3⟩
theorem inX4 : ∀ w ∈ u_ws RX4 TX4 9, w ∈ lw_g := by
  intro w hw
  obtain ⟨k, hk, rfl⟩ := List.mem_map.mp hw
  have hk := List.mem_range.mp hk
  match k, hk with
  | 0, _ => exact h_t1 235 rfl rfl
  | 1, _ => exact h_t1 237 rfl rfl
  | 2, _ => exact h_t1 239 rfl rfl
  | 3, _ => exact h_t2 1 rfl rfl
  | 4, _ => exact h_t2 3 rfl rfl
  | 5, _ => exact h_t2 5 rfl rfl
  | 6, _ => exact h_t2 7 rfl rfl
  | 7, _ => exact h_t2 9 rfl rfl
  | 8, _ => exact h_t2 11 rfl rfl
  | k + 9, hk => exact absurd hk (by omega)
theorem ptX4 : (∃ t0 : Nat → FieldType, ∀ k, k < 9 → parseFieldDescriptor (TX4 k).2.2.1 = some (t0 k)) ∧ (∀ a, a < 9 → ∀ b, b < 9 → a ≠ b → (TX4 a).2.1 ≠ (TX4 b).2.1) := ⟨⟨tyX4, tyX4_ok⟩, nmX4⟩
theorem inX5 : ∀ w ∈ u_ws RX5 TX5 3, w ∈ lw_g := by
  intro w hw
  obtain ⟨k, hk, rfl⟩ := List.mem_map.mp hw
  have hk := List.mem_range.mp hk
  match k, hk with
  | 0, _ => exact h_t2 22 rfl rfl
  | 1, _ => exact h_t2 24 rfl rfl
  | 2, _ => exact h_t2 26 rfl rfl
  | k + 3, hk => exact absurd hk (by omega)
theorem ptX5 : (∃ t0 : Nat → FieldType, ∀ k, k < 3 → parseFieldDescriptor (TX5 k).2.2.1 = some (t0 k)) ∧ (∀ a, a < 3 → ∀ b, b < 3 → a ≠ b → (TX5 a).2.1 ≠ (TX5 b).2.1) := ⟨⟨tyX5, tyX5_ok⟩, nmX5⟩
theorem inX6 : ∀ w ∈ u_ws RX6 TX6 6, w ∈ lw_g := by
  intro w hw
  obtain ⟨k, hk, rfl⟩ := List.mem_map.mp hw
  have hk := List.mem_range.mp hk
  match k, hk with
  | 0, _ => exact h_t2 227 rfl rfl
  | 1, _ => exact h_t2 229 rfl rfl
  | 2, _ => exact h_t2 231 rfl rfl
  | 3, _ => exact h_t2 233 rfl rfl
  | 4, _ => exact h_t2 235 rfl rfl
  | 5, _ => exact h_t2 237 rfl rfl
  | k + 6, hk => exact absurd hk (by omega)
theorem ptX6 : (∃ t0 : Nat → FieldType, ∀ k, k < 6 → parseFieldDescriptor (TX6 k).2.2.1 = some (t0 k)) ∧ (∀ a, a < 6 → ∀ b, b < 6 → a ≠ b → (TX6 a).2.1 ≠ (TX6 b).2.1) := ⟨⟨tyX6, tyX6_ok⟩, nmX6⟩
theorem inX7 : ∀ w ∈ u_ws RX7 TX7 20, w ∈ lw_g := by
  intro w hw
  obtain ⟨k, hk, rfl⟩ := List.mem_map.mp hw
  have hk := List.mem_range.mp hk
  match k, hk with
  | 0, _ => exact h_t3 38 rfl rfl
  | 1, _ => exact h_t3 40 rfl rfl
  | 2, _ => exact h_t3 42 rfl rfl
  | 3, _ => exact h_t3 44 rfl rfl
  | 4, _ => exact h_t3 46 rfl rfl
  | 5, _ => exact h_t3 48 rfl rfl
  | 6, _ => exact h_t3 50 rfl rfl
  | 7, _ => exact h_t3 52 rfl rfl
  | 8, _ => exact h_t3 54 rfl rfl
  | 9, _ => exact h_t3 56 rfl rfl
  | 10, _ => exact h_t3 58 rfl rfl
  | 11, _ => exact h_t3 60 rfl rfl
  | 12, _ => exact h_t3 62 rfl rfl
  | 13, _ => exact h_t3 64 rfl rfl
  | 14, _ => exact h_t3 66 rfl rfl
  | 15, _ => exact h_t3 68 rfl rfl
  | 16, _ => exact h_t3 70 rfl rfl
  | 17, _ => exact h_t3 72 rfl rfl
  | 18, _ => exact h_t3 74 rfl rfl
  | 19, _ => exact h_t3 76 rfl rfl
  | k + 20, hk => exact absurd hk (by omega)
theorem ptX7 : (∃ t0 : Nat → FieldType, ∀ k, k < 20 → parseFieldDescriptor (TX7 k).2.2.1 = some (t0 k)) ∧ (∀ a, a < 20 → ∀ b, b < 20 → a ≠ b → (TX7 a).2.1 ≠ (TX7 b).2.1) := ⟨⟨tyX7, tyX7_ok⟩, nmX7⟩
theorem inX8 : ∀ w ∈ u_ws RX8 TX8 8, w ∈ lw_g := by
  intro w hw
  obtain ⟨k, hk, rfl⟩ := List.mem_map.mp hw
  have hk := List.mem_range.mp hk
  match k, hk with
  | 0, _ => exact h_t2 46 rfl rfl
  | 1, _ => exact h_t2 48 rfl rfl
  | 2, _ => exact h_t2 50 rfl rfl
  | 3, _ => exact h_t2 52 rfl rfl
  | 4, _ => exact h_t2 54 rfl rfl
  | 5, _ => exact h_t2 56 rfl rfl
  | 6, _ => exact h_t2 58 rfl rfl
  | 7, _ => exact h_t2 60 rfl rfl
  | k + 8, hk => exact absurd hk (by omega)
theorem ptX8 : (∃ t0 : Nat → FieldType, ∀ k, k < 8 → parseFieldDescriptor (TX8 k).2.2.1 = some (t0 k)) ∧ (∀ a, a < 8 → ∀ b, b < 8 → a ≠ b → (TX8 a).2.1 ≠ (TX8 b).2.1) := ⟨⟨tyX8, tyX8_ok⟩, nmX8⟩
theorem inX9 : ∀ w ∈ u_ws RX9 TX9 6, w ∈ lw_g := by
  intro w hw
  obtain ⟨k, hk, rfl⟩ := List.mem_map.mp hw
  have hk := List.mem_range.mp hk
  match k, hk with
  | 0, _ => exact h_t1 96 rfl rfl
  | 1, _ => exact h_t1 98 rfl rfl
  | 2, _ => exact h_t1 100 rfl rfl
  | 3, _ => exact h_t1 102 rfl rfl
  | 4, _ => exact h_t1 104 rfl rfl
  | 5, _ => exact h_t1 106 rfl rfl
  | k + 6, hk => exact absurd hk (by omega)
theorem ptX9 : (∃ t0 : Nat → FieldType, ∀ k, k < 6 → parseFieldDescriptor (TX9 k).2.2.1 = some (t0 k)) ∧ (∀ a, a < 6 → ∀ b, b < 6 → a ≠ b → (TX9 a).2.1 ≠ (TX9 b).2.1) := ⟨⟨tyX9, tyX9_ok⟩, nmX9⟩
theorem inX10 : ∀ w ∈ u_ws RX10 TX10 6, w ∈ lw_g := by
  intro w hw
  obtain ⟨k, hk, rfl⟩ := List.mem_map.mp hw
  have hk := List.mem_range.mp hk
  match k, hk with
  | 0, _ => exact h_t2 143 rfl rfl
  | 1, _ => exact h_t2 145 rfl rfl
  | 2, _ => exact h_t2 147 rfl rfl
  | 3, _ => exact h_t2 149 rfl rfl
  | 4, _ => exact h_t2 151 rfl rfl
  | 5, _ => exact h_t2 153 rfl rfl
  | k + 6, hk => exact absurd hk (by omega)
theorem ptX10 : (∃ t0 : Nat → FieldType, ∀ k, k < 6 → parseFieldDescriptor (TX10 k).2.2.1 = some (t0 k)) ∧ (∀ a, a < 6 → ∀ b, b < 6 → a ≠ b → (TX10 a).2.1 ≠ (TX10 b).2.1) := ⟨⟨tyX10, tyX10_ok⟩, nmX10⟩
theorem inX11 : ∀ w ∈ u_ws RX11 TX11 17, w ∈ lw_g := by
  intro w hw
  obtain ⟨k, hk, rfl⟩ := List.mem_map.mp hw
  have hk := List.mem_range.mp hk
  match k, hk with
  | 0, _ => exact h_t3 96 rfl rfl
  | 1, _ => exact h_t3 98 rfl rfl
  | 2, _ => exact h_t3 100 rfl rfl
  | 3, _ => exact h_t3 102 rfl rfl
  | 4, _ => exact h_t3 104 rfl rfl
  | 5, _ => exact h_t3 106 rfl rfl
  | 6, _ => exact h_t3 108 rfl rfl
  | 7, _ => exact h_t3 110 rfl rfl
  | 8, _ => exact h_t3 112 rfl rfl
  | 9, _ => exact h_t3 114 rfl rfl
  | 10, _ => exact h_t3 116 rfl rfl
  | 11, _ => exact h_t3 118 rfl rfl
  | 12, _ => exact h_t3 120 rfl rfl
  | 13, _ => exact h_t3 122 rfl rfl
  | 14, _ => exact h_t3 124 rfl rfl
  | 15, _ => exact h_t3 126 rfl rfl
  | 16, _ => exact h_t3 128 rfl rfl
  | k + 17, hk => exact absurd hk (by omega)
theorem ptX11 : (∃ t0 : Nat → FieldType, ∀ k, k < 17 → parseFieldDescriptor (TX11 k).2.2.1 = some (t0 k)) ∧ (∀ a, a < 17 → ∀ b, b < 17 → a ≠ b → (TX11 a).2.1 ≠ (TX11 b).2.1) := ⟨⟨tyX11, tyX11_ok⟩, nmX11⟩
theorem inX12 : ∀ w ∈ u_ws RX12 TX12 153, w ∈ lw_g := by
  intro w hw
  obtain ⟨k, hk, rfl⟩ := List.mem_map.mp hw
  have hk := List.mem_range.mp hk
  match k, hk with
  | 0, _ => exact h_t12 114 rfl rfl
  | 1, _ => exact h_t12 116 rfl rfl
  | 2, _ => exact h_t12 118 rfl rfl
  | 3, _ => exact h_t12 120 rfl rfl
  | 4, _ => exact h_t12 122 rfl rfl
  | 5, _ => exact h_t12 124 rfl rfl
  | 6, _ => exact h_t12 126 rfl rfl
  | 7, _ => exact h_t12 128 rfl rfl
  | 8, _ => exact h_t12 130 rfl rfl
  | 9, _ => exact h_t12 132 rfl rfl
  | 10, _ => exact h_t12 134 rfl rfl
  | 11, _ => exact h_t12 136 rfl rfl
  | 12, _ => exact h_t12 138 rfl rfl
  | 13, _ => exact h_t12 140 rfl rfl
  | 14, _ => exact h_t12 142 rfl rfl
  | 15, _ => exact h_t12 144 rfl rfl
  | 16, _ => exact h_t12 146 rfl rfl
  | 17, _ => exact h_t12 148 rfl rfl
  | 18, _ => exact h_t12 150 rfl rfl
  | 19, _ => exact h_t12 152 rfl rfl
  | 20, _ => exact h_t12 154 rfl rfl
  | 21, _ => exact h_t12 156 rfl rfl
  | 22, _ => exact h_t12 158 rfl rfl
  | 23, _ => exact h_t12 160 rfl rfl
  | 24, _ => exact h_t12 162 rfl rfl
  | 25, _ => exact h_t12 164 rfl rfl
  | 26, _ => exact h_t12 166 rfl rfl
  | 27, _ => exact h_t12 168 rfl rfl
  | 28, _ => exact h_t12 170 rfl rfl
  | 29, _ => exact h_t12 172 rfl rfl
  | 30, _ => exact h_t12 174 rfl rfl
  | 31, _ => exact h_t12 176 rfl rfl
  | 32, _ => exact h_t12 178 rfl rfl
  | 33, _ => exact h_t12 180 rfl rfl
  | 34, _ => exact h_t12 182 rfl rfl
  | 35, _ => exact h_t12 184 rfl rfl
  | 36, _ => exact h_t12 186 rfl rfl
  | 37, _ => exact h_t12 188 rfl rfl
  | 38, _ => exact h_t12 190 rfl rfl
  | 39, _ => exact h_t12 192 rfl rfl
  | 40, _ => exact h_t12 194 rfl rfl
  | 41, _ => exact h_t12 196 rfl rfl
  | 42, _ => exact h_t12 198 rfl rfl
  | 43, _ => exact h_t12 200 rfl rfl
  | 44, _ => exact h_t12 202 rfl rfl
  | 45, _ => exact h_t12 204 rfl rfl
  | 46, _ => exact h_t12 206 rfl rfl
  | 47, _ => exact h_t12 208 rfl rfl
  | 48, _ => exact h_t12 210 rfl rfl
  | 49, _ => exact h_t12 212 rfl rfl
  | 50, _ => exact h_t12 214 rfl rfl
  | 51, _ => exact h_t12 216 rfl rfl
  | 52, _ => exact h_t12 218 rfl rfl
  | 53, _ => exact h_t12 220 rfl rfl
  | 54, _ => exact h_t12 222 rfl rfl
  | 55, _ => exact h_t12 224 rfl rfl
  | 56, _ => exact h_t12 226 rfl rfl
  | 57, _ => exact h_t12 228 rfl rfl
  | 58, _ => exact h_t12 230 rfl rfl
  | 59, _ => exact h_t12 232 rfl rfl
  | 60, _ => exact h_t12 234 rfl rfl
  | 61, _ => exact h_t12 236 rfl rfl
  | 62, _ => exact h_t12 238 rfl rfl
  | 63, _ => exact h_t13 0 rfl rfl
  | 64, _ => exact h_t13 2 rfl rfl
  | 65, _ => exact h_t13 4 rfl rfl
  | 66, _ => exact h_t13 6 rfl rfl
  | 67, _ => exact h_t13 8 rfl rfl
  | 68, _ => exact h_t13 10 rfl rfl
  | 69, _ => exact h_t13 12 rfl rfl
  | 70, _ => exact h_t13 14 rfl rfl
  | 71, _ => exact h_t13 16 rfl rfl
  | 72, _ => exact h_t13 18 rfl rfl
  | 73, _ => exact h_t13 20 rfl rfl
  | 74, _ => exact h_t13 22 rfl rfl
  | 75, _ => exact h_t13 24 rfl rfl
  | 76, _ => exact h_t13 26 rfl rfl
  | 77, _ => exact h_t13 28 rfl rfl
  | 78, _ => exact h_t13 30 rfl rfl
  | 79, _ => exact h_t13 32 rfl rfl
  | 80, _ => exact h_t13 34 rfl rfl
  | 81, _ => exact h_t13 36 rfl rfl
  | 82, _ => exact h_t13 38 rfl rfl
  | 83, _ => exact h_t13 40 rfl rfl
  | 84, _ => exact h_t13 42 rfl rfl
  | 85, _ => exact h_t13 44 rfl rfl
  | 86, _ => exact h_t13 46 rfl rfl
  | 87, _ => exact h_t13 48 rfl rfl
  | 88, _ => exact h_t13 50 rfl rfl
  | 89, _ => exact h_t13 52 rfl rfl
  | 90, _ => exact h_t13 54 rfl rfl
  | 91, _ => exact h_t13 56 rfl rfl
  | 92, _ => exact h_t13 58 rfl rfl
  | 93, _ => exact h_t13 60 rfl rfl
  | 94, _ => exact h_t13 62 rfl rfl
  | 95, _ => exact h_t13 64 rfl rfl
  | 96, _ => exact h_t13 66 rfl rfl
  | 97, _ => exact h_t13 68 rfl rfl
  | 98, _ => exact h_t13 70 rfl rfl
  | 99, _ => exact h_t13 72 rfl rfl
  | 100, _ => exact h_t13 74 rfl rfl
  | 101, _ => exact h_t13 76 rfl rfl
  | 102, _ => exact h_t13 78 rfl rfl
  | 103, _ => exact h_t13 80 rfl rfl
  | 104, _ => exact h_t13 82 rfl rfl
  | 105, _ => exact h_t13 84 rfl rfl
  | 106, _ => exact h_t13 86 rfl rfl
  | 107, _ => exact h_t13 88 rfl rfl
  | 108, _ => exact h_t13 90 rfl rfl
  | 109, _ => exact h_t13 92 rfl rfl
  | 110, _ => exact h_t13 94 rfl rfl
  | 111, _ => exact h_t13 96 rfl rfl
  | 112, _ => exact h_t13 98 rfl rfl
  | 113, _ => exact h_t13 100 rfl rfl
  | 114, _ => exact h_t13 102 rfl rfl
  | 115, _ => exact h_t13 104 rfl rfl
  | 116, _ => exact h_t13 106 rfl rfl
  | 117, _ => exact h_t13 108 rfl rfl
  | 118, _ => exact h_t13 110 rfl rfl
  | 119, _ => exact h_t13 112 rfl rfl
  | 120, _ => exact h_t13 114 rfl rfl
  | 121, _ => exact h_t13 116 rfl rfl
  | 122, _ => exact h_t13 118 rfl rfl
  | 123, _ => exact h_t13 120 rfl rfl
  | 124, _ => exact h_t13 122 rfl rfl
  | 125, _ => exact h_t13 124 rfl rfl
  | 126, _ => exact h_t13 126 rfl rfl
  | 127, _ => exact h_t13 128 rfl rfl
  | 128, _ => exact h_t13 130 rfl rfl
  | 129, _ => exact h_t13 132 rfl rfl
  | 130, _ => exact h_t13 134 rfl rfl
  | 131, _ => exact h_t13 136 rfl rfl
  | 132, _ => exact h_t13 138 rfl rfl
  | 133, _ => exact h_t13 140 rfl rfl
  | 134, _ => exact h_t13 142 rfl rfl
  | 135, _ => exact h_t13 144 rfl rfl
  | 136, _ => exact h_t13 146 rfl rfl
  | 137, _ => exact h_t13 148 rfl rfl
  | 138, _ => exact h_t13 150 rfl rfl
  | 139, _ => exact h_t13 152 rfl rfl
  | 140, _ => exact h_t13 154 rfl rfl
  | 141, _ => exact h_t13 156 rfl rfl
  | 142, _ => exact h_t13 158 rfl rfl
  | 143, _ => exact h_t13 160 rfl rfl
  | 144, _ => exact h_t13 162 rfl rfl
  | 145, _ => exact h_t13 164 rfl rfl
  | 146, _ => exact h_t13 166 rfl rfl
  | 147, _ => exact h_t13 168 rfl rfl
  | 148, _ => exact h_t13 170 rfl rfl
  | 149, _ => exact h_t13 172 rfl rfl
  | 150, _ => exact h_t13 174 rfl rfl
  | 151, _ => exact h_t13 176 rfl rfl
  | 152, _ => exact h_t13 178 rfl rfl
  | k + 153, hk => exact absurd hk (by omega)
theorem ptX12 : (∃ t0 : Nat → FieldType, ∀ k, k < 153 → parseFieldDescriptor (TX12 k).2.2.1 = some (t0 k)) ∧ (∀ a, a < 153 → ∀ b, b < 153 → a ≠ b → (TX12 a).2.1 ≠ (TX12 b).2.1) := ⟨⟨tyX12, tyX12_ok⟩, nmX12⟩
