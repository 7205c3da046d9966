abbrev mX11_commit : hM := (yX11_commit, cX11_commit, 1, (some (.boolean)))
theorem dX11_commit_0 : decode cX11_commit 0 = .ok (.aload_n 0, 1) := by decide +kernel
theorem dX11_commit_1 : decode cX11_commit 1 = .ok (.getfield 140, 3) := by decide +kernel
theorem dX11_commit_4 : decode cX11_commit 4 = .ok (.iconst 1, 1) := by decide +kernel
theorem dX11_commit_5 : decode cX11_commit 5 = .ok (.if_icmp .ne 14, 3) := by decide +kernel
theorem dX11_commit_8 : decode cX11_commit 8 = .ok (.aload_n 0, 1) := by decide +kernel
theorem dX11_commit_9 : decode cX11_commit 9 = .ok (.iconst 0, 1) := by decide +kernel
theorem dX11_commit_10 : decode cX11_commit 10 = .ok (.putfield 140, 3) := by decide +kernel
theorem dX11_commit_13 : decode cX11_commit 13 = .ok (.aload_n 0, 1) := by decide +kernel
theorem dX11_commit_14 : decode cX11_commit 14 = .ok (.invokevirtual 216, 3) := by decide +kernel
abbrev mX11_losePower : hM := (yX11_losePower, cX11_losePower, 2, none)
theorem kX11_losePower : h_ml mX11_losePower 0 := ⟨h_t6 122 rfl rfl, h_t1 1 rfl rfl, ⟨by decide, by decide, by decide +kernel⟩, by decide⟩
theorem sX11_losePower : Cond.instanceMethod mX11_losePower.1 ∈ lw_g ∧ Cond.selects mX11_losePower.1.cls mX11_losePower.1 mX11_losePower.1 ∈ lw_g := ⟨h_t6 121 rfl rfl, h_ins 69 rfl⟩
theorem lX11_216 : Cond.methodLink RX11 216 mX11_losePower.1 ∈ lw_g := h_t6 119 rfl rfl
theorem dX11_commit_17 : decode cX11_commit 17 = .ok (.iconst 0, 1) := by decide +kernel
theorem dX11_commit_18 : decode cX11_commit 18 = .ok (.ireturn, 1) := by decide +kernel
theorem dX11_commit_19 : decode cX11_commit 19 = .ok (.aload_n 0, 1) := by decide +kernel
theorem dX11_commit_20 : decode cX11_commit 20 = .ok (.iconst 0, 1) := by decide +kernel
theorem dX11_commit_21 : decode cX11_commit 21 = .ok (.aload_n 0, 1) := by decide +kernel
theorem dX11_commit_22 : decode cX11_commit 22 = .ok (.getfield 140, 3) := by decide +kernel
theorem dX11_commit_25 : decode cX11_commit 25 = .ok (.iconst 1, 1) := by decide +kernel
theorem dX11_commit_26 : decode cX11_commit 26 = .ok (.isub, 1) := by decide +kernel
theorem dX11_commit_27 : decode cX11_commit 27 = .ok (.invokestatic 219, 3) := by decide +kernel
theorem lX11_219 : Cond.methodLink RX11 219 Lib.Math.max.name ∈ lw_g := h_t6 129 rfl rfl
theorem dX11_commit_30 : decode cX11_commit 30 = .ok (.putfield 140, 3) := by decide +kernel
theorem dX11_commit_33 : decode cX11_commit 33 = .ok (.aload_n 0, 1) := by decide +kernel
theorem dX11_commit_34 : decode cX11_commit 34 = .ok (.dup, 1) := by decide +kernel
theorem dX11_commit_35 : decode cX11_commit 35 = .ok (.getfield 143, 3) := by decide +kernel
theorem dX11_commit_38 : decode cX11_commit 38 = .ok (.iconst 1, 1) := by decide +kernel
theorem dX11_commit_39 : decode cX11_commit 39 = .ok (.iadd, 1) := by decide +kernel
theorem dX11_commit_40 : decode cX11_commit 40 = .ok (.putfield 143, 3) := by decide +kernel
theorem dX11_commit_43 : decode cX11_commit 43 = .ok (.iconst 1, 1) := by decide +kernel
theorem dX11_commit_44 : decode cX11_commit 44 = .ok (.ireturn, 1) := by decide +kernel
abbrev mX11_tick : hM := (yX11_tick, cX11_tick, 1, (some (.int)))
theorem dX11_tick_0 : decode cX11_tick 0 = .ok (.aload_n 0, 1) := by decide +kernel
theorem dX11_tick_1 : decode cX11_tick 1 = .ok (.getfield 44, 3) := by decide +kernel
theorem dX11_tick_4 : decode cX11_tick 4 = .ok (.ifCond .eq 10, 3) := by decide +kernel
theorem dX11_tick_7 : decode cX11_tick 7 = .ok (.aload_n 0, 1) := by decide +kernel
theorem dX11_tick_8 : decode cX11_tick 8 = .ok (.invokevirtual 133, 3) := by decide +kernel
theorem kX11_commit : h_ml mX11_commit 0 := ⟨h_t6 118 rfl rfl, h_t1 1 rfl rfl, ⟨by decide, by decide, by decide +kernel⟩, by decide⟩
theorem sX11_commit : Cond.instanceMethod mX11_commit.1 ∈ lw_g ∧ Cond.selects mX11_commit.1.cls mX11_commit.1 mX11_commit.1 ∈ lw_g := ⟨h_t6 117 rfl rfl, h_ins 68 rfl⟩
theorem lX11_133 : Cond.methodLink RX11 133 mX11_commit.1 ∈ lw_g := h_t6 115 rfl rfl
theorem dX11_tick_11 : decode cX11_tick 11 = .ok (.ifCond .ne 5, 3) := by decide +kernel
theorem dX11_tick_14 : decode cX11_tick 14 = .ok (.iconst (-1), 1) := by decide +kernel
theorem dX11_tick_15 : decode cX11_tick 15 = .ok (.ireturn, 1) := by decide +kernel
theorem dX11_tick_16 : decode cX11_tick 16 = .ok (.aload_n 0, 1) := by decide +kernel
theorem dX11_tick_17 : decode cX11_tick 17 = .ok (.dup, 1) := by decide +kernel
theorem dX11_tick_18 : decode cX11_tick 18 = .ok (.getfield 137, 3) := by decide +kernel
theorem fX11_137 : h_fl RX11 137 11 13 RX11 TX11 17 := ⟨rfl, by decide, inX11, h_t3 92 rfl rfl⟩
theorem dX11_tick_21 : decode cX11_tick 21 = .ok (.iconst 1, 1) := by decide +kernel
theorem dX11_tick_22 : decode cX11_tick 22 = .ok (.iadd, 1) := by decide +kernel
theorem dX11_tick_23 : decode cX11_tick 23 = .ok (.putfield 137, 3) := by decide +kernel
theorem dX11_tick_26 : decode cX11_tick 26 = .ok (.aload_n 0, 1) := by decide +kernel
theorem dX11_tick_27 : decode cX11_tick 27 = .ok (.getfield 137, 3) := by decide +kernel
theorem dX11_tick_30 : decode cX11_tick 30 = .ok (.ireturn, 1) := by decide +kernel
abbrev mX11_hasBox : hM := (yX11_hasBox, cX11_hasBox, 3, (some (.boolean)))
theorem dX11_hasBox_0 : decode cX11_hasBox 0 = .ok (.iload_n 1, 1) := by decide +kernel
theorem dX11_hasBox_1 : decode cX11_hasBox 1 = .ok (.ifCond .lt 32, 3) := by decide +kernel
theorem dX11_hasBox_4 : decode cX11_hasBox 4 = .ok (.iload_n 1, 1) := by decide +kernel
theorem dX11_hasBox_5 : decode cX11_hasBox 5 = .ok (.iconst 4, 1) := by decide +kernel
theorem dX11_hasBox_6 : decode cX11_hasBox 6 = .ok (.if_icmp .ge 27, 3) := by decide +kernel
theorem dX11_hasBox_9 : decode cX11_hasBox 9 = .ok (.iload_n 2, 1) := by decide +kernel
theorem dX11_hasBox_10 : decode cX11_hasBox 10 = .ok (.ifCond .lt 23, 3) := by decide +kernel
theorem dX11_hasBox_13 : decode cX11_hasBox 13 = .ok (.iload_n 2, 1) := by decide +kernel
theorem dX11_hasBox_14 : decode cX11_hasBox 14 = .ok (.aload_n 0, 1) := by decide +kernel
theorem dX11_hasBox_15 : decode cX11_hasBox 15 = .ok (.getfield 27, 3) := by decide +kernel
theorem dX11_hasBox_18 : decode cX11_hasBox 18 = .ok (.iload_n 1, 1) := by decide +kernel
theorem dX11_hasBox_19 : decode cX11_hasBox 19 = .ok (.aaload, 1) := by decide +kernel
theorem dX11_hasBox_20 : decode cX11_hasBox 20 = .ok (.getfield 176, 3) := by decide +kernel
theorem fX11_176 : h_fl RX11 176 10 2 RX10 TX10 6 := ⟨rfl, by decide, inX10, h_t2 137 rfl rfl⟩
theorem dX11_hasBox_23 : decode cX11_hasBox 23 = .ok (.getfield 207, 3) := by decide +kernel
theorem fX11_207 : h_fl RX11 207 9 3 RX9 TX9 6 := ⟨rfl, by decide, inX9, h_t1 85 rfl rfl⟩
theorem dX11_hasBox_26 : decode cX11_hasBox 26 = .ok (.if_icmp .ge 7, 3) := by decide +kernel
theorem dX11_hasBox_29 : decode cX11_hasBox 29 = .ok (.iconst 1, 1) := by decide +kernel
theorem dX11_hasBox_30 : decode cX11_hasBox 30 = .ok (.goto 4, 3) := by decide +kernel
theorem dX11_hasBox_33 : decode cX11_hasBox 33 = .ok (.iconst 0, 1) := by decide +kernel
theorem dX11_hasBox_34 : decode cX11_hasBox 34 = .ok (.ireturn, 1) := by decide +kernel
theorem hMi : Cond.initialized "java/lang/Math" ∈ lw_g := h_t1 17 rfl rfl
theorem hMxs : Cond.static Lib.Math.max.name ∈ lw_g := h_t3 237 rfl rfl
theorem hMxc : Cond.code Lib.Math.max.name Lib.Math.max.code 2 (some .int) ∈ lw_g := h_t3 238 rfl rfl
theorem hMns : Cond.static Lib.Math.min.name ∈ lw_g := h_t3 183 rfl rfl
theorem hMnc : Cond.code Lib.Math.min.name Lib.Math.min.code 2 (some .int) ∈ lw_g := h_t3 184 rfl rfl
theorem sw_n (x : Int32) (n : Nat) (hn : n < 2 ^ 30) : (∃ j : Nat, j ≤ n ∧ x = nI j) ∨ (x.toInt < 0 ∨ (n : Int) < x.toInt) := by
  by_cases h0 : x < 0
  · right; left
    exact Int32.lt_iff_toInt_lt.mp h0
  · obtain ⟨j, hj, rfl⟩ := nI_of h0
    by_cases hjn : j ≤ n
    · exact Or.inl ⟨j, hjn, rfl⟩
    · right; right
      rw [nI_toInt hj]
      omega
section HJ
variable {l : Launch} {D : va_G} {ty : List (ClassId × FieldType)} {B : Nat} {Z : State → Heap → Prop} {d : Nat} {σ : hS}
theorem g_mmax {M : hM} {σ0 : hS} {P : hS → Option Value → Prop} {pc ix : Nat} {lv : List (Nat × Value)} {st : List Value} {x y : Int32} (hl : Cond.methodLink M.1.cls ix Lib.Math.max.name ∈ lw_g) (h1 : 1 ≤ d) (hcat : (st.map fun v => v.category).sum ≤ 8) (hd : decode M.2.1 pc = .ok (.invokestatic ix, 3)) (k9 : G l D ty B Z M d σ0 P σ (pc + 3) lv (.int (if x < y then y else x) :: st)) : G l D ty B Z M d σ0 P σ pc lv (.int y :: .int x :: st) := by
  intro p e s m args below meth c C9 H locs ls hR hS h3 hl9
  have hf := h_fit (d := d) C9 hR hS h3
  exact va_mmax C9.1 C9.2.1 (by rw [C9.2.2.1]; exact hl9.1.symm) C9.2.2.2.2.1 (C9.2.2.2.2.2.1 _ hl) (C9.2.2.2.2.2.1 _ hMxs) (C9.2.2.2.2.2.1 _ hMi) (C9.2.2.2.2.2.1 _ hMxc) (by show 1 ≤ d; exact h1) (by show _ ≤ 64 * d; omega) (by omega) (by omega) hd (k9 p e s m args below meth c C9 H locs ls hR hS h3 hl9)
theorem g_mmin {M : hM} {σ0 : hS} {P : hS → Option Value → Prop} {pc ix : Nat} {lv : List (Nat × Value)} {st : List Value} {x y : Int32} (hl : Cond.methodLink M.1.cls ix Lib.Math.min.name ∈ lw_g) (h1 : 1 ≤ d) (hcat : (st.map fun v => v.category).sum ≤ 8) (hd : decode M.2.1 pc = .ok (.invokestatic ix, 3)) (k9 : G l D ty B Z M d σ0 P σ (pc + 3) lv (.int (if y < x then y else x) :: st)) : G l D ty B Z M d σ0 P σ pc lv (.int y :: .int x :: st) := by
  intro p e s m args below meth c C9 H locs ls hR hS h3 hl9
  have hf := h_fit (d := d) C9 hR hS h3
  exact va_mmin C9.1 C9.2.1 (by rw [C9.2.2.1]; exact hl9.1.symm) C9.2.2.2.2.1 (C9.2.2.2.2.2.1 _ hl) (C9.2.2.2.2.2.1 _ hMns) (C9.2.2.2.2.2.1 _ hMi) (C9.2.2.2.2.2.1 _ hMnc) (by show 1 ≤ d; exact h1) (by show _ ≤ 64 * d; omega) (by omega) (by omega) hd (k9 p e s m args below meth c C9 H locs ls hR hS h3 hl9)
end HJ
/-- the four users' objects, and their mailboxes' lists -/
def usF (n0 : Nat) : Nat → Option Nat := fun u => if u < 4 then some (n0 + 984 + 16 * u) else none
def usAt (A : Nat → ClassId) (σ : hS) (n0 : Nat) (sc nc bx : Nat → Nat) (ac : Nat → Value) : Prop :=
  σ.1 (n0 + 3) = some (.inl (A 6, 4, .inr (.inr (.inr (.inr (usF n0)))))) ∧ ∀ u : Nat, u < 4 → bx u ≤ 6 ∧ sc u ≤ 4 ∧ nc u ≤ 40 ∧ σ.1 (n0 + 984 + 16 * u) = some (.inr (10, [.ref (n0 + 985 + 16 * u), .ref (n0 + 986 + 16 * u), .ref (n0 + 987 + 16 * u), .int (nI (sc u)), .int (nI (nc u)), ac u])) ∧ ∃ be us : Int32, σ.1 (n0 + 987 + 16 * u) = some (.inr (9, [.ref (n0 + 988 + 16 * u), .ref (n0 + 989 + 16 * u), .ref (n0 + 990 + 16 * u), .int (nI (bx u)), .int be, .int us]))
theorem usF_in {n0 u : Nat} (h : u < 4) : va_rf (usF n0 (nI u).toNatClampNeg) = .ref (n0 + 984 + 16 * u) := by
  rw [nI_clamp (by omega)]
  unfold usF
  rw [if_pos h]
  rfl
/-- is there such a mailbox -/
def bxI (bx : Nat → Nat) (u b : Int32) : Prop := ∃ u' b' : Nat, u' < 4 ∧ b' < bx u' ∧ u = nI u' ∧ b = nI b'

theorem cm_max {ci : Nat} (h : ci ≠ 1) (h2 : ci ≤ 1000) : (if (0 : Int32) < nI ci - 1 then nI ci - 1 else 0) = nI (ci - 1) := by
  by_cases h0 : ci = 0
  · subst h0; rfl
  · obtain ⟨j, rfl⟩ : ∃ j, ci = j + 1 := ⟨ci - 1, by omega⟩
    rw [nI_pred]
    show (if nI 0 < nI j then nI j else nI 0) = nI j
    rw [if_pos (nI_lt (by omega) (by omega))]
set_option maxRecDepth 100000 in
set_option maxHeartbeats 4000000 in
/-- commit(), where the power stays -/
theorem ct_commit1 {l : Launch} {D : va_G} {A : Nat → ClassId} {B : Nat} {Z : State → Heap → Prop} (hZ : h_st B Z) {d : Nat} {σ : hS} {a n0 : Nat} {ts mc oc mb dy cm ci : Nat} {pw : Int32} (ha : σ.1 a = some (smO n0 ts mc oc mb dy cm ci pw)) (hci : ci ≠ 1) (hci2 : ci ≤ 1000) (hd1 : 1 ≤ d) : Ct l D (h_ty A) B Z d mX11_commit σ [.ref a] (fun σ1 v => v = some (.int 1) ∧ σ1.1 a = some (smO n0 ts mc oc mb dy (cm + 1) (ci - 1) pw) ∧ h_fr (fun q => q = a) σ σ1) := by
  refine ct_of rfl hZ (Nat.le_of_ble_eq_true rfl) ?_
  show G _ _ _ _ _ _ _ _ _ _ 0 [(0, .ref a)] []
  refine g_aload_n dX11_commit_0 rfl (List.mem_of_getElem? (i := 0) rfl) ?_
  refine g_get fX11_140 ha (v := .int (nI ci)) rfl dX11_commit_1 ?_
  refine g_iconst (v := 1) dX11_commit_4 (by decide) ?_
  refine g_icmp_ne (tgt := 19) dX11_commit_5 (by decide) (fun c5 => ?_) (fun c5 => absurd c5 (fun h => hci ((nI_eq (a := ci) (b := 1) (by omega) (by decide)).mp h)))
  refine g_aload_n dX11_commit_19 rfl (List.mem_of_getElem? (i := 0) rfl) ?_
  refine g_iconst (v := 0) dX11_commit_20 (by decide) ?_
  refine g_aload_n dX11_commit_21 rfl (List.mem_of_getElem? (i := 0) rfl) ?_
  refine g_get fX11_140 ha (v := .int (nI ci)) rfl dX11_commit_22 ?_
  refine g_iconst (v := 1) dX11_commit_25 (by decide) ?_
  refine g_isub dX11_commit_26 ?_
  refine g_mmax lX11_219 (by omega) (Nat.le_of_ble_eq_true rfl) dX11_commit_27 ?_
  refine g_eqi (nI (ci - 1)) (cm_max hci hci2) ?_
  refine g_put (ft := .int) fX11_140 ptX11 (Or.inl rfl) ha (by decide +kernel) rfl rfl (Nat.le_of_ble_eq_true rfl) dX11_commit_30 ?_
  refine g_aload_n dX11_commit_33 rfl (List.mem_of_getElem? (i := 0) rfl) ?_
  refine g_dup dX11_commit_34 rfl ?_
  refine g_get fX11_143 h_e (v := .int (nI cm)) rfl dX11_commit_35 ?_
  refine g_iconst (v := 1) dX11_commit_38 (by decide) ?_
  refine g_iadd dX11_commit_39 ?_
  refine g_eqi (nI (cm + 1)) (nI_1 cm) ?_
  refine g_put (ft := .int) fX11_143 ptX11 (Or.inl rfl) h_e (by decide +kernel) rfl rfl (Nat.le_of_ble_eq_true rfl) dX11_commit_40 ?_
  refine g_iconst (v := 1) dX11_commit_43 (by decide) ?_
  exact g_zret rfl rfl dX11_commit_44 (⟨rfl, h_e, ⟨fun q hq => h_n hq (h_n hq rfl), rfl⟩⟩)
set_option maxRecDepth 100000 in
set_option maxHeartbeats 4000000 in
/-- tick(), where the commit is not cut -/
theorem ct_tick1 {l : Launch} {D : va_G} {A : Nat → ClassId} {B : Nat} {Z : State → Heap → Prop} (hZ : h_st B Z) {d : Nat} {σ : hS} {a n0 : Nat} {ts mc oc mb dy cm ci : Nat} {pw : Int32} (ha : σ.1 a = some (smO n0 ts mc oc mb dy cm ci pw)) (hci : ci ≠ 1) (hci2 : ci ≤ 1000) (hd1 : 2 ≤ d) : Ct l D (h_ty A) B Z d mX11_tick σ [.ref a] (fun σ1 v => v = some (.int (if pw = 0 then -1 else nI (dy + 1))) ∧ σ1.1 a = some (if pw = 0 then smO n0 ts mc oc mb dy cm ci pw else smO n0 ts mc oc mb (dy + 1) (cm + 1) (ci - 1) pw) ∧ h_fr (fun q => q = a) σ σ1) := by
  refine ct_of rfl hZ (Nat.le_of_ble_eq_true rfl) ?_
  show G _ _ _ _ _ _ _ _ _ _ 0 [(0, .ref a)] []
  refine g_aload_n dX11_tick_0 rfl (List.mem_of_getElem? (i := 0) rfl) ?_
  refine g_get fX11_44 ha (v := .int pw) rfl dX11_tick_1 ?_
  refine g_if_eq (tgt := 14) dX11_tick_4 (by decide) (fun c4 => ?_) (fun c4 => ?_)
  · have c4 := c4
    refine g_iconst (v := -1) dX11_tick_14 (by decide) ?_
    exact g_iret rfl dX11_tick_15 (⟨by rw [if_pos c4], by rw [if_pos c4]; exact ha, h_fr.rf⟩)
  · have c4 := c4
    refine g_aload_n dX11_tick_7 rfl (List.mem_of_getElem? (i := 0) rfl) ?_
    refine g_cv (d1 := 1) (As := []) (st := []) (ct_commit1 hZ ha hci hci2 (by omega)) (h_rcO (r := (RX11, TX11, 17)) ha rfl) kX11_commit lX11_133 sX11_commit (by omega) (Nat.le_of_ble_eq_true rfl) dX11_tick_8 (fun τ8 v8 h8 z8 => ?_)
    obtain ⟨rfl, ga, gf⟩ := h8
    show G _ _ _ _ _ _ _ _ _ _ 11 [(0, .ref a)] [.int 1]
    refine g_if_ne (tgt := 16) dX11_tick_11 (by decide) (fun c11 => ?_) (fun c11 => absurd c11 (by decide))
    refine g_aload_n dX11_tick_16 rfl (List.mem_of_getElem? (i := 0) rfl) ?_
    refine g_dup dX11_tick_17 rfl ?_
    refine g_get fX11_137 ga (v := .int (nI dy)) rfl dX11_tick_18 ?_
    refine g_iconst (v := 1) dX11_tick_21 (by decide) ?_
    refine g_iadd dX11_tick_22 ?_
    refine g_eqi (nI (dy + 1)) (nI_1 dy) ?_
    refine g_put (ft := .int) fX11_137 ptX11 (Or.inl rfl) ga (by decide +kernel) rfl rfl (Nat.le_of_ble_eq_true rfl) dX11_tick_23 ?_
    refine g_aload_n dX11_tick_26 rfl (List.mem_of_getElem? (i := 0) rfl) ?_
    refine g_get fX11_137 h_e (v := .int (nI (dy + 1))) rfl dX11_tick_27 ?_
    exact g_iret rfl dX11_tick_30 (⟨by rw [if_neg c4], by rw [if_neg c4]; exact h_e, gf.tr ⟨fun q hq => h_n hq rfl, rfl⟩⟩)
noncomputable section
set_option maxRecDepth 100000 in
set_option maxHeartbeats 4000000 in
/-- hasBox -/
theorem ct_hasBox {l : Launch} {D : va_G} {A : Nat → ClassId} {B : Nat} {Z : State → Heap → Prop} (hZ : h_st B Z) {d : Nat} {σ : hS} {a n0 : Nat} {ts mc oc mb dy cm ci : Nat} {pw : Int32} (ha : σ.1 a = some (smO n0 ts mc oc mb dy cm ci pw)) {sc nc bx : Nat → Nat} {ac : Nat → Value} (hu : usAt A σ n0 sc nc bx ac) {u b : Int32} : Ct l D (h_ty A) B Z d mX11_hasBox σ [.ref a, .int u, .int b] (fun σ1 v => σ1 = σ ∧ (v = some (.int 1) ∧ bxI bx u b ∨ v = some (.int 0) ∧ ¬ bxI bx u b)) := by
  refine ct_of rfl hZ (Nat.le_of_ble_eq_true rfl) ?_
  show G _ _ _ _ _ _ _ _ _ _ 0 [(0, .ref a), (1, .int u), (2, .int b)] []
  refine g_iload_n dX11_hasBox_0 rfl (List.mem_of_getElem? (i := 1) rfl) ?_
  refine g_if_lt (tgt := 33) dX11_hasBox_1 (by decide) (fun c1 => ?_) (fun c1 => ?_)
  · have hno : ¬ bxI bx u b := fun ⟨u1, b1, h1, h2, h3, h4⟩ => nI_pos (n := u1) (by omega) (h3 ▸ c1)
    refine g_iconst (v := 0) dX11_hasBox_33 (by decide) ?_
    exact g_zret rfl rfl dX11_hasBox_34 (⟨rfl, Or.inr ⟨rfl, hno⟩⟩)
  · have c1 := c1
    refine g_iload_n dX11_hasBox_4 rfl (List.mem_of_getElem? (i := 1) rfl) ?_
    refine g_iconst (v := 4) dX11_hasBox_5 (by decide) ?_
    refine g_icmp_ge (tgt := 33) dX11_hasBox_6 (by decide) (fun c6 => ?_) (fun c6 => ?_)
    · have hno : ¬ bxI bx u b := fun ⟨u1, b1, h1, h2, h3, h4⟩ => by
        subst h3
        have := (nI_leI (a := 4) (b := u1) (by decide) (by omega)).mp c6
        omega
      refine g_iconst (v := 0) dX11_hasBox_33 (by decide) ?_
      exact g_zret rfl rfl dX11_hasBox_34 (⟨rfl, Or.inr ⟨rfl, hno⟩⟩)
    · obtain ⟨u', hu', rfl⟩ : ∃ j : Nat, j < 4 ∧ u = nI j := by
        obtain ⟨j, hj, rfl⟩ := nI_of c1
        exact ⟨j, Nat.lt_of_not_le fun h => c6 ((nI_leI (a := 4) (b := j) (by decide) hj).mpr h), rfl⟩
      obtain ⟨hbx, -, -, hu1, be, us, hu2⟩ := hu.2 u' hu'
      refine g_iload_n dX11_hasBox_9 rfl (List.mem_of_getElem? (i := 2) rfl) ?_
      refine g_if_lt (tgt := 33) dX11_hasBox_10 (by decide) (fun c10 => ?_) (fun c10 => ?_)
      · have hno : ¬ bxI bx (nI u') b := fun ⟨u1, b1, h1, h2, h3, h4⟩ => by
          have hb1 := (hu.2 u1 h1).1
          exact nI_pos (n := b1) (by omega) (h4 ▸ c10)
        refine g_iconst (v := 0) dX11_hasBox_33 (by decide) ?_
        exact g_zret rfl rfl dX11_hasBox_34 (⟨rfl, Or.inr ⟨rfl, hno⟩⟩)
      · obtain ⟨b', hb', rfl⟩ := nI_of c10
        refine g_iload_n dX11_hasBox_13 rfl (List.mem_of_getElem? (i := 2) rfl) ?_
        refine g_aload_n dX11_hasBox_14 rfl (List.mem_of_getElem? (i := 0) rfl) ?_
        refine g_get fX11_27 ha (v := .ref (n0 + 3)) rfl dX11_hasBox_15 ?_
        refine g_iload_n dX11_hasBox_18 rfl (List.mem_of_getElem? (i := 1) rfl) ?_
        refine g_aald (t0 := 6) rfl hu.1 (vp_in_nI hu' (by decide)) dX11_hasBox_19 ?_
        refine g_eqv (.ref (n0 + 984 + 16 * u')) (usF_in hu') ?_
        refine g_get fX11_176 hu1 (v := .ref (n0 + 987 + 16 * u')) rfl dX11_hasBox_20 ?_
        refine g_get fX11_207 hu2 (v := .int (nI (bx u'))) rfl dX11_hasBox_23 ?_
        refine g_icmp_ge (tgt := 33) dX11_hasBox_26 (by decide) (fun c26 => ?_) (fun c26 => ?_)
        · have hno : ¬ bxI bx (nI u') (nI b') := fun ⟨u1, b1, h1, h2, h3, h4⟩ => by
            have e1 := (nI_eq (a := u') (b := u1) (by omega) (by omega)).mp h3
            subst e1
            have e2 := (nI_eq (a := b') (b := b1) (by omega) (by omega)).mp h4
            subst e2
            have := (nI_leI (a := bx u') (b := b') (by omega) (by omega)).mp c26
            omega
          refine g_iconst (v := 0) dX11_hasBox_33 (by decide) ?_
          exact g_zret rfl rfl dX11_hasBox_34 (⟨rfl, Or.inr ⟨rfl, hno⟩⟩)
        · have hyes : bxI bx (nI u') (nI b') := ⟨u', b', hu', Nat.lt_of_not_le fun h => c26 ((nI_leI (a := bx u') (b := b') (by omega) (by omega)).mpr h), rfl, rfl⟩
          refine g_iconst (v := 1) dX11_hasBox_29 (by decide) ?_
          refine g_goto (tgt := 34) dX11_hasBox_30 (by decide) ?_
          exact g_zret rfl rfl dX11_hasBox_34 (⟨rfl, Or.inl ⟨rfl, hyes⟩⟩)
end
