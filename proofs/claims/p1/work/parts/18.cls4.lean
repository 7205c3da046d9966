abbrev mX11_eightBytes : hM := (yX11_eightBytes, cX11_eightBytes, 7, (some (.long)))
theorem dX11_eightBytes_0 : decode cX11_eightBytes 0 = .ok (.lconst 0, 1) := by decide +kernel
theorem dX11_eightBytes_1 : decode cX11_eightBytes 1 = .ok (.lstore_n 3, 1) := by decide +kernel
theorem dX11_eightBytes_2 : decode cX11_eightBytes 2 = .ok (.iconst 0, 1) := by decide +kernel
theorem dX11_eightBytes_3 : decode cX11_eightBytes 3 = .ok (.istore 5, 2) := by decide +kernel
theorem dX11_eightBytes_5 : decode cX11_eightBytes 5 = .ok (.iload 5, 2) := by decide +kernel
theorem dX11_eightBytes_7 : decode cX11_eightBytes 7 = .ok (.bipush 8, 2) := by decide +kernel
theorem dX11_eightBytes_9 : decode cX11_eightBytes 9 = .ok (.if_icmp .ge 42, 3) := by decide +kernel
theorem dX11_eightBytes_12 : decode cX11_eightBytes 12 = .ok (.iload_n 1, 1) := by decide +kernel
theorem dX11_eightBytes_13 : decode cX11_eightBytes 13 = .ok (.iload_n 2, 1) := by decide +kernel
theorem dX11_eightBytes_14 : decode cX11_eightBytes 14 = .ok (.iload 5, 2) := by decide +kernel
theorem dX11_eightBytes_16 : decode cX11_eightBytes 16 = .ok (.isub, 1) := by decide +kernel
theorem dX11_eightBytes_17 : decode cX11_eightBytes 17 = .ok (.if_icmp .ge 16, 3) := by decide +kernel
theorem dX11_eightBytes_20 : decode cX11_eightBytes 20 = .ok (.aload_n 0, 1) := by decide +kernel
theorem dX11_eightBytes_21 : decode cX11_eightBytes 21 = .ok (.iload_n 1, 1) := by decide +kernel
theorem dX11_eightBytes_22 : decode cX11_eightBytes 22 = .ok (.iload 5, 2) := by decide +kernel
theorem dX11_eightBytes_24 : decode cX11_eightBytes 24 = .ok (.iadd, 1) := by decide +kernel
theorem dX11_eightBytes_25 : decode cX11_eightBytes 25 = .ok (.baload, 1) := by decide +kernel
theorem dX11_eightBytes_26 : decode cX11_eightBytes 26 = .ok (.sipush 255, 3) := by decide +kernel
theorem dX11_eightBytes_29 : decode cX11_eightBytes 29 = .ok (.iand, 1) := by decide +kernel
theorem dX11_eightBytes_30 : decode cX11_eightBytes 30 = .ok (.goto 4, 3) := by decide +kernel
theorem dX11_eightBytes_33 : decode cX11_eightBytes 33 = .ok (.iconst 0, 1) := by decide +kernel
theorem dX11_eightBytes_34 : decode cX11_eightBytes 34 = .ok (.istore 6, 2) := by decide +kernel
theorem dX11_eightBytes_36 : decode cX11_eightBytes 36 = .ok (.lload_n 3, 1) := by decide +kernel
theorem dX11_eightBytes_37 : decode cX11_eightBytes 37 = .ok (.bipush 8, 2) := by decide +kernel
theorem dX11_eightBytes_39 : decode cX11_eightBytes 39 = .ok (.lshl, 1) := by decide +kernel
theorem dX11_eightBytes_40 : decode cX11_eightBytes 40 = .ok (.iload 6, 2) := by decide +kernel
theorem dX11_eightBytes_42 : decode cX11_eightBytes 42 = .ok (.i2l, 1) := by decide +kernel
theorem dX11_eightBytes_43 : decode cX11_eightBytes 43 = .ok (.lor, 1) := by decide +kernel
theorem dX11_eightBytes_44 : decode cX11_eightBytes 44 = .ok (.lstore_n 3, 1) := by decide +kernel
theorem dX11_eightBytes_45 : decode cX11_eightBytes 45 = .ok (.iinc 5 1, 3) := by decide +kernel
theorem dX11_eightBytes_48 : decode cX11_eightBytes 48 = .ok (.goto (-43), 3) := by decide +kernel
theorem dX11_eightBytes_51 : decode cX11_eightBytes 51 = .ok (.lload_n 3, 1) := by decide +kernel
theorem dX11_eightBytes_52 : decode cX11_eightBytes 52 = .ok (.lreturn, 1) := by decide +kernel
abbrev mX11_message : hM := (yX11_message, cX11_message, 7, (some (.int)))
theorem dX11_message_0 : decode cX11_message 0 = .ok (.aload_n 0, 1) := by decide +kernel
theorem dX11_message_1 : decode cX11_message 1 = .ok (.iload_n 1, 1) := by decide +kernel
theorem dX11_message_2 : decode cX11_message 2 = .ok (.iload_n 2, 1) := by decide +kernel
theorem dX11_message_3 : decode cX11_message 3 = .ok (.invokevirtual 146, 3) := by decide +kernel
theorem dX11_message_6 : decode cX11_message 6 = .ok (.ifCond .eq 14, 3) := by decide +kernel
theorem dX11_message_9 : decode cX11_message 9 = .ok (.iload 4, 2) := by decide +kernel
theorem dX11_message_11 : decode cX11_message 11 = .ok (.ifCond .lt 9, 3) := by decide +kernel
theorem dX11_message_14 : decode cX11_message 14 = .ok (.iload 4, 2) := by decide +kernel
theorem dX11_message_16 : decode cX11_message 16 = .ok (.iconst 2, 1) := by decide +kernel
theorem dX11_message_17 : decode cX11_message 17 = .ok (.if_icmp .le 5, 3) := by decide +kernel
theorem dX11_message_20 : decode cX11_message 20 = .ok (.iconst (-1), 1) := by decide +kernel
theorem dX11_message_21 : decode cX11_message 21 = .ok (.ireturn, 1) := by decide +kernel
theorem dX11_message_22 : decode cX11_message 22 = .ok (.aload_n 0, 1) := by decide +kernel
theorem dX11_message_23 : decode cX11_message 23 = .ok (.iload_n 1, 1) := by decide +kernel
theorem dX11_message_24 : decode cX11_message 24 = .ok (.iload_n 2, 1) := by decide +kernel
theorem dX11_message_25 : decode cX11_message 25 = .ok (.iload_n 3, 1) := by decide +kernel
theorem dX11_message_26 : decode cX11_message 26 = .ok (.invokevirtual 157, 3) := by decide +kernel
theorem kX11_numberOf : h_ml mX11_numberOf 3 := ⟨h_t7 178 rfl rfl, h_t1 1 rfl rfl, ⟨by decide, by decide, by decide +kernel⟩, by decide⟩
theorem sX11_numberOf : Cond.instanceMethod mX11_numberOf.1 ∈ lw_g ∧ Cond.selects mX11_numberOf.1.cls mX11_numberOf.1 mX11_numberOf.1 ∈ lw_g := ⟨h_t7 177 rfl rfl, h_ins 97 rfl⟩
theorem lX11_157 : Cond.methodLink RX11 157 mX11_numberOf.1 ∈ lw_g := h_t7 175 rfl rfl
theorem dX11_message_29 : decode cX11_message 29 = .ok (.istore 5, 2) := by decide +kernel
theorem dX11_message_31 : decode cX11_message 31 = .ok (.iload 5, 2) := by decide +kernel
theorem dX11_message_33 : decode cX11_message 33 = .ok (.ifCond .ge 5, 3) := by decide +kernel
theorem dX11_message_36 : decode cX11_message 36 = .ok (.iconst (-1), 1) := by decide +kernel
theorem dX11_message_37 : decode cX11_message 37 = .ok (.ireturn, 1) := by decide +kernel
theorem dX11_message_38 : decode cX11_message 38 = .ok (.aload_n 0, 1) := by decide +kernel
theorem dX11_message_39 : decode cX11_message 39 = .ok (.getfield 33, 3) := by decide +kernel
theorem dX11_message_42 : decode cX11_message 42 = .ok (.iload 5, 2) := by decide +kernel
theorem dX11_message_44 : decode cX11_message 44 = .ok (.aaload, 1) := by decide +kernel
theorem dX11_message_45 : decode cX11_message 45 = .ok (.astore 6, 2) := by decide +kernel
theorem dX11_message_47 : decode cX11_message 47 = .ok (.iload 4, 2) := by decide +kernel
theorem dX11_message_49 : decode cX11_message 49 = .ok (.ifCond .ne 12, 3) := by decide +kernel
theorem dX11_message_52 : decode cX11_message 52 = .ok (.aload 6, 2) := by decide +kernel
theorem dX11_message_54 : decode cX11_message 54 = .ok (.getfield 161, 3) := by decide +kernel
theorem fX11_161 : h_fl RX11 161 1 1 RX1 TX1 6 := ⟨rfl, by decide, inX1, h_t6 159 rfl rfl⟩
theorem dX11_message_57 : decode cX11_message 57 = .ok (.arraylength, 1) := by decide +kernel
theorem dX11_message_58 : decode cX11_message 58 = .ok (.goto 19, 3) := by decide +kernel
theorem dX11_message_61 : decode cX11_message 61 = .ok (.iload 4, 2) := by decide +kernel
theorem dX11_message_63 : decode cX11_message 63 = .ok (.iconst 1, 1) := by decide +kernel
theorem dX11_message_64 : decode cX11_message 64 = .ok (.if_icmp .ne 11, 3) := by decide +kernel
theorem dX11_message_67 : decode cX11_message 67 = .ok (.aload 6, 2) := by decide +kernel
theorem dX11_message_69 : decode cX11_message 69 = .ok (.getfield 164, 3) := by decide +kernel
theorem fX11_164 : h_fl RX11 164 1 4 RX1 TX1 6 := ⟨rfl, by decide, inX1, h_t6 163 rfl rfl⟩
theorem dX11_message_72 : decode cX11_message 72 = .ok (.goto 5, 3) := by decide +kernel
theorem dX11_message_75 : decode cX11_message 75 = .ok (.iload 5, 2) := by decide +kernel
theorem dX11_message_77 : decode cX11_message 77 = .ok (.ireturn, 1) := by decide +kernel
/-- bytes put together, the first one highest -/
def e8 (g : Nat → Int32) : Nat → Int64
  | 0 => 0
  | n + 1 => (e8 g n <<< ((8 : Int32).toInt64 &&& 63)) ||| (g n).toInt64
theorem e8_cg {g g' : Nat → Int32} : ∀ n : Nat, (∀ j, j < n → g j = g' j) → e8 g n = e8 g' n
  | 0, _ => rfl
  | n + 1, h => by
    show (e8 g n <<< _) ||| _ = (e8 g' n <<< _) ||| _
    rw [e8_cg n (fun j hj => h j (by omega)), h n (by omega)]
/-- the bytes of f from k on, up to t; 0 behind -/
def by8 (f : Nat → Int32) (k t : Nat) : Nat → Int32 := fun j => if k + j < t then f (k + j) &&& 255 else 0
theorem by8_lt {k t j : Nat} (hk : k < 2 ^ 31) (ht : t < 2 ^ 30) (hj : j < 8) : nI k < nI t - nI j ↔ k + j < t := by
  rw [Int32.lt_iff_toInt_lt, nI_toInt hk, pk_sub_toInt (by omega) (by omega)]
  omega

set_option maxRecDepth 100000 in
set_option maxHeartbeats 4000000 in
theorem ct_e8_loop {l : Launch} {D : va_G} {A : Nat → ClassId} {B : Nat} {Z : State → Heap → Prop} (hZ : h_st B Z) {d : Nat} {σ : hS} {r n : Nat} {f : Nat → Int32} (hr : σ.1 r = some (.inl (A 1, n, .inl f))) {k t : Nat} (hk : k < 2 ^ 31) (ht : t ≤ n) (hn : n < 2 ^ 30) : ∀ (m j : Nat), 9 ≤ j + m → j ≤ 8 → G l D (h_ty A) B Z mX11_eightBytes d σ (fun σ1 v => σ1 = σ ∧ v = some (.long (e8 (by8 f k t) 8))) σ 5 [(3, .long (e8 (by8 f k t) j)), (5, .int (nI j)), (0, .ref r), (1, .int (nI k)), (2, .int (nI t))] [] := by
  intro m
  induction m with
  | zero => intro j h1 h2; omega
  | succ m ih =>
    intro j h1 h2
    refine g_iload dX11_eightBytes_5 (List.mem_of_getElem? (i := 1) rfl) ?_
    refine g_bipush (v := 8) dX11_eightBytes_7 (by decide) ?_
    refine g_icmp_ge (tgt := 51) dX11_eightBytes_9 (by decide) (fun c9 => ?_) (fun c9 => ?_)
    · have c9 : j = 8 := by have := (nI_leI (a := 8) (b := j) (by decide) (by omega)).mp c9; omega
      subst c9
      refine g_lload_n dX11_eightBytes_51 rfl (List.mem_of_getElem? (i := 0) rfl) ?_
      exact g_lret rfl dX11_eightBytes_52 ⟨rfl, rfl⟩
    · have hj : j < 8 := Nat.lt_of_not_le fun h => c9 ((nI_leI (a := 8) (b := j) (by decide) (by omega)).mpr h)
      refine g_iload_n dX11_eightBytes_12 rfl (List.mem_of_getElem? (i := 3) rfl) ?_
      refine g_iload_n dX11_eightBytes_13 rfl (List.mem_of_getElem? (i := 4) rfl) ?_
      refine g_iload dX11_eightBytes_14 (List.mem_of_getElem? (i := 1) rfl) ?_
      refine g_isub dX11_eightBytes_16 ?_
      refine g_icmp_ge (tgt := 33) dX11_eightBytes_17 (by decide) (fun c17 => ?_) (fun c17 => ?_)
      · have hb9 : by8 f k t j = 0 := if_neg (fun h => (Int32.not_lt.mpr c17) ((by8_lt (by omega) (by omega) hj).mpr h))
        refine g_iconst (v := 0) dX11_eightBytes_33 (by decide) ?_
        refine g_istore dX11_eightBytes_34 (by decide) rfl ?_
        refine g_lload_n dX11_eightBytes_36 rfl (List.mem_of_getElem? (i := 1) rfl) ?_
        refine g_bipush (v := 8) dX11_eightBytes_37 (by decide) ?_
        refine g_lshl dX11_eightBytes_39 rfl ?_
        refine g_iload dX11_eightBytes_40 (List.mem_of_getElem? (i := 0) rfl) ?_
        refine g_i2l dX11_eightBytes_42 rfl ?_
        refine g_lor dX11_eightBytes_43 ?_
        refine g_eql (e8 (by8 f k t) (j + 1)) (by show _ = (e8 (by8 f k t) j <<< _) ||| (by8 f k t j).toInt64; rw [hb9]) ?_
        refine g_lstore_n dX11_eightBytes_44 rfl (by decide) rfl ?_
        refine g_iinc (v := nI (j + 1)) dX11_eightBytes_45 (k := 2) rfl (nI_1 j) (by decide) rfl ?_
        refine g_goto (tgt := 5) dX11_eightBytes_48 (by decide) ?_
        refine g_lv [1, 0, 3, 4, 5] rfl ?_
        exact ih (j + 1) (by omega) (by omega)
      · have hin : k + j < t := (by8_lt (by omega) (by omega) hj).mp (Int32.not_le.mp c17)
        have hb9 : by8 f k t j = f (k + j) &&& 255 := if_pos hin
        refine g_aload_n dX11_eightBytes_20 rfl (List.mem_of_getElem? (i := 2) rfl) ?_
        refine g_iload_n dX11_eightBytes_21 rfl (List.mem_of_getElem? (i := 3) rfl) ?_
        refine g_iload dX11_eightBytes_22 (List.mem_of_getElem? (i := 1) rfl) ?_
        refine g_iadd dX11_eightBytes_24 ?_
        refine g_eqi (nI (k + j)) (nI_add k j) ?_
        refine g_bald (t0 := 1) rfl hr (vp_in_nI (by omega) (by omega)) dX11_eightBytes_25 ?_
        refine g_eqi (f (k + j)) (by rw [nI_clamp (by omega)]) ?_
        refine g_sipush (v := 255) dX11_eightBytes_26 (by decide) ?_
        refine g_iand dX11_eightBytes_29 ?_
        refine g_goto (tgt := 34) dX11_eightBytes_30 (by decide) ?_
        refine g_istore dX11_eightBytes_34 (by decide) rfl ?_
        refine g_lload_n dX11_eightBytes_36 rfl (List.mem_of_getElem? (i := 1) rfl) ?_
        refine g_bipush (v := 8) dX11_eightBytes_37 (by decide) ?_
        refine g_lshl dX11_eightBytes_39 rfl ?_
        refine g_iload dX11_eightBytes_40 (List.mem_of_getElem? (i := 0) rfl) ?_
        refine g_i2l dX11_eightBytes_42 rfl ?_
        refine g_lor dX11_eightBytes_43 ?_
        refine g_eql (e8 (by8 f k t) (j + 1)) (by show _ = (e8 (by8 f k t) j <<< _) ||| (by8 f k t j).toInt64; rw [hb9]) ?_
        refine g_lstore_n dX11_eightBytes_44 rfl (by decide) rfl ?_
        refine g_iinc (v := nI (j + 1)) dX11_eightBytes_45 (k := 2) rfl (nI_1 j) (by decide) rfl ?_
        refine g_goto (tgt := 5) dX11_eightBytes_48 (by decide) ?_
        refine g_lv [1, 0, 3, 4, 5] rfl ?_
        exact ih (j + 1) (by omega) (by omega)
set_option maxRecDepth 100000 in
set_option maxHeartbeats 4000000 in
/-- eightBytes -/
theorem ct_e8 {l : Launch} {D : va_G} {A : Nat → ClassId} {B : Nat} {Z : State → Heap → Prop} (hZ : h_st B Z) {d : Nat} {σ : hS} {r n : Nat} {f : Nat → Int32} (hr : σ.1 r = some (.inl (A 1, n, .inl f))) {k t : Nat} (hk : k < 2 ^ 31) (ht : t ≤ n) (hn : n < 2 ^ 30) : Ct l D (h_ty A) B Z d mX11_eightBytes σ [.ref r, .int (nI k), .int (nI t)] (fun σ1 v => σ1 = σ ∧ v = some (.long (e8 (by8 f k t) 8))) := by
  refine ct_of rfl hZ (Nat.le_of_ble_eq_true rfl) ?_
  show G _ _ _ _ _ _ _ _ _ _ 0 [(0, .ref r), (1, .int (nI k)), (2, .int (nI t))] []
  refine g_lconst (v := 0) dX11_eightBytes_0 (by decide) ?_
  refine g_lstore_n dX11_eightBytes_1 rfl (by decide) rfl ?_
  refine g_iconst (v := 0) dX11_eightBytes_2 (by decide) ?_
  refine g_istore dX11_eightBytes_3 (by decide) rfl ?_
  refine g_lv [1, 0, 2, 3, 4] rfl ?_
  exact ct_e8_loop hZ hr hk ht hn 9 0 (by omega) (by omega)
set_option maxRecDepth 100000 in
set_option maxHeartbeats 4000000 in
/-- numberOf -/
theorem ct_numberOf {l : Launch} {D : va_G} {A : Nat → ClassId} {B : Nat} {Z : State → Heap → Prop} (hZ : h_st B Z) {d : Nat} {σ : hS} {a n0 : Nat} {ts mc oc mb dy cm ci : Nat} {pw : Int32} (ha : σ.1 a = some (smO n0 ts mc oc mb dy cm ci pw)) {ea lb tx : Nat → Nat} {eu eb ef ed : Nat → Int32} (hm : mlAt A σ n0 mc ea lb tx eu eb ef ed) (hd1 : 1 ≤ d) {u b i : Int32} : Ct l D (h_ty A) B Z d mX11_numberOf σ [.ref a, .int u, .int b, .int i] (fun σ1 v => σ1 = σ ∧ ((∃ k, k < mc ∧ (eu k = u ∧ eb k = b) ∧ nI (cntM eu eb u b k) = i ∧ v = some (.int (nI k))) ∨ (∀ k, k < mc → eu k = u ∧ eb k = b → nI (cntM eu eb u b k) ≠ i) ∧ v = some (.int (-1)))) := by
  have hmc := hm.1
  refine ct_of rfl hZ (Nat.le_of_ble_eq_true rfl) ?_
  show G _ _ _ _ _ _ _ _ _ _ 0 [(0, .ref a), (1, .int u), (2, .int b), (3, .int i)] []
  by_cases hi : i < 0
  · skip
    refine g_iload_n dX11_numberOf_0 rfl (List.mem_of_getElem? (i := 3) rfl) ?_
    refine g_istore dX11_numberOf_1 (by decide) rfl ?_
    refine g_iconst (v := 0) dX11_numberOf_3 (by decide) ?_
    refine g_istore dX11_numberOf_4 (by decide) rfl ?_
    refine g_iload dX11_numberOf_6 (List.mem_of_getElem? (i := 0) rfl) ?_
    refine g_aload_n dX11_numberOf_8 rfl (List.mem_of_getElem? (i := 2) rfl) ?_
    refine g_get fX11_150 ha (v := .int (nI mc)) rfl dX11_numberOf_9 ?_
    refine g_icmp_ge (tgt := 48) dX11_numberOf_12 (by decide) (fun c12 => ?_) (fun c12 => ?_)
    · have c12 := c12
      refine g_iconst (v := -1) dX11_numberOf_48 (by decide) ?_
      exact g_iret rfl dX11_numberOf_49 (⟨rfl, Or.inr ⟨fun k hk _ e => nI_pos (n := cntM eu eb u b k) (by have := cntM_le eu eb u b k; omega) (by rw [e]; exact hi), rfl⟩⟩)
    · have c12 := c12
      refine g_iload dX11_numberOf_15 (List.mem_of_getElem? (i := 1) rfl) ?_
      refine g_if_lt (tgt := 48) dX11_numberOf_17 (by decide) (fun c17 => ?_) (fun c17 => absurd (hi) c17)
      refine g_iconst (v := -1) dX11_numberOf_48 (by decide) ?_
      exact g_iret rfl dX11_numberOf_49 (⟨rfl, Or.inr ⟨fun k hk _ e => nI_pos (n := cntM eu eb u b k) (by have := cntM_le eu eb u b k; omega) (by rw [e]; exact hi), rfl⟩⟩)
  · obtain ⟨i, hi2, rfl⟩ := nI_of hi
    refine g_iload_n dX11_numberOf_0 rfl (List.mem_of_getElem? (i := 3) rfl) ?_
    refine g_istore dX11_numberOf_1 (by decide) rfl ?_
    refine g_iconst (v := 0) dX11_numberOf_3 (by decide) ?_
    refine g_istore dX11_numberOf_4 (by decide) rfl ?_
    have h0 : nI i - nI (cntM eu eb u b 0) = nI i := Int32.sub_zero _
    refine g_lv (lv' := [(4, .int (nI i - nI (cntM eu eb u b 0))), (5, .int (nI 0)), (0, .ref a), (1, .int u), (2, .int b), (3, .int (nI i))]) [1, 0, 2, 3, 4, 5] (by rw [h0]; rfl) ?_
    exact g_post (ct_numberOf_loop hZ hd1 ha hm hi2 (mc + 1) 0 (by omega) (by omega) ⟨Nat.zero_le _, fun k hk => absurd hk (Nat.not_lt_zero k)⟩) (fun σ1 v h => ⟨h.1, h.2.elim (fun ⟨k, h1, h2, h3, h4⟩ => Or.inl ⟨k, h1, h2, by rw [h3], h4⟩) (fun ⟨h1, h2⟩ => Or.inr ⟨fun k hk hm e => h1 k hk hm ((nI_eq (by have := cntM_le eu eb u b k; omega) hi2).mp e), h2⟩)⟩)
/-- the messages' texts -/
def mtAt (A : Nat → ClassId) (σ : hS) (mc : Nat) (tx tl : Nat → Nat) (tf : Nat → Nat → Int32) : Prop := ∀ j : Nat, j < mc → σ.1 (tx j) = some (.inl (A 1, tl j, .inl (tf j))) ∧ tl j ≤ 10000
set_option maxRecDepth 100000 in
set_option maxHeartbeats 4000000 in
/-- message -/
theorem ct_message {l : Launch} {D : va_G} {A : Nat → ClassId} {B : Nat} {Z : State → Heap → Prop} (hZ : h_st B Z) {d : Nat} {σ : hS} {a n0 : Nat} {ts mc oc mb dy cm ci : Nat} {pw : Int32} (ha : σ.1 a = some (smO n0 ts mc oc mb dy cm ci pw)) {sc nc bx : Nat → Nat} {ac : Nat → Value} (hu : usAt A σ n0 sc nc bx ac) {ea lb tx : Nat → Nat} {eu eb ef ed : Nat → Int32} (hm : mlAt A σ n0 mc ea lb tx eu eb ef ed) {tl : Nat → Nat} {tf : Nat → Nat → Int32} (ht : mtAt A σ mc tx tl tf) (hd1 : 2 ≤ d) {u b i w : Int32} : Ct l D (h_ty A) B Z d mX11_message σ [.ref a, .int u, .int b, .int i, .int w] (fun σ1 v => σ1 = σ ∧ ((bxI bx u b ∧ ∃ k, k < mc ∧ (eu k = u ∧ eb k = b) ∧ nI (cntM eu eb u b k) = i ∧ (w = 0 ∧ v = some (.int (nI (tl k))) ∨ w = 1 ∧ v = some (.int (ef k)) ∨ ¬ w = 0 ∧ ¬ w = 1 ∧ v = some (.int (nI k)))) ∨ ¬ (bxI bx u b ∧ ¬ w < 0 ∧ ¬ ¬ w ≤ 2 ∧ ∃ k, k < mc ∧ (eu k = u ∧ eb k = b) ∧ nI (cntM eu eb u b k) = i) ∧ v = some (.int (-1)))) := by
  refine ct_of rfl hZ (Nat.le_of_ble_eq_true rfl) ?_
  show G _ _ _ _ _ _ _ _ _ _ 0 [(0, .ref a), (1, .int u), (2, .int b), (3, .int i), (4, .int w)] []
  refine g_aload_n dX11_message_0 rfl (List.mem_of_getElem? (i := 0) rfl) ?_
  refine g_iload_n dX11_message_1 rfl (List.mem_of_getElem? (i := 1) rfl) ?_
  refine g_iload_n dX11_message_2 rfl (List.mem_of_getElem? (i := 2) rfl) ?_
  refine g_cv (d1 := 0) (As := [.int u, .int b]) (st := []) (ct_hasBox hZ ha hu (u := u) (b := b)) (h_rcO (r := (RX11, TX11, 17)) ha rfl) kX11_hasBox lX11_146 sX11_hasBox (by omega) (Nat.le_of_ble_eq_true rfl) dX11_message_3 (fun τ3 v3 h3 z3 => ?_)
  obtain ⟨rfl, h3⟩ := h3
  obtain ⟨r3, rfl, k3⟩ : ∃ r : Int32, v3 = some (.int r) ∧ (r = 1 ∧ bxI bx u b ∨ r = 0 ∧ ¬ bxI bx u b) := by
    rcases h3 with ⟨h1, h2⟩ | ⟨h1, h2⟩
    · exact ⟨1, h1, Or.inl ⟨rfl, h2⟩⟩
    · exact ⟨0, h1, Or.inr ⟨rfl, h2⟩⟩
  show G _ _ _ _ _ _ _ _ _ _ 6 [(0, .ref a), (1, .int u), (2, .int b), (3, .int i), (4, .int w)] [.int r3]
  refine g_if_eq (tgt := 20) dX11_message_6 (by decide) (fun c6 => ?_) (fun c6 => ?_)
  · have hno : ¬ bxI bx u b := by
      rcases k3 with ⟨h1, h2⟩ | ⟨h1, h2⟩
      · rw [h1] at c6; exact absurd c6 (by decide)
      · exact h2
    refine g_iconst (v := -1) dX11_message_20 (by decide) ?_
    exact g_iret rfl dX11_message_21 (⟨rfl, Or.inr ⟨fun h => hno h.1, rfl⟩⟩)
  · have hyes : bxI bx u b := by
      rcases k3 with ⟨h1, h2⟩ | ⟨h1, h2⟩
      · exact h2
      · exact absurd h1 c6
    refine g_iload dX11_message_9 (List.mem_of_getElem? (i := 4) rfl) ?_
    refine g_if_lt (tgt := 20) dX11_message_11 (by decide) (fun c11 => ?_) (fun c11 => ?_)
    · have c11 := c11
      refine g_iconst (v := -1) dX11_message_20 (by decide) ?_
      exact g_iret rfl dX11_message_21 (⟨rfl, Or.inr ⟨fun h => h.2.1 c11, rfl⟩⟩)
    · have c11 := c11
      refine g_iload dX11_message_14 (List.mem_of_getElem? (i := 4) rfl) ?_
      refine g_iconst (v := 2) dX11_message_16 (by decide) ?_
      refine g_icmp_le (tgt := 22) dX11_message_17 (by decide) (fun c17 => ?_) (fun c17 => ?_)
      · have c17 := c17
        refine g_aload_n dX11_message_22 rfl (List.mem_of_getElem? (i := 0) rfl) ?_
        refine g_iload_n dX11_message_23 rfl (List.mem_of_getElem? (i := 1) rfl) ?_
        refine g_iload_n dX11_message_24 rfl (List.mem_of_getElem? (i := 2) rfl) ?_
        refine g_iload_n dX11_message_25 rfl (List.mem_of_getElem? (i := 3) rfl) ?_
        refine g_cv (d1 := 1) (As := [.int u, .int b, .int i]) (st := []) (ct_numberOf hZ ha hm (by omega) (u := u) (b := b) (i := i)) (h_rcO (r := (RX11, TX11, 17)) ha rfl) kX11_numberOf lX11_157 sX11_numberOf (by omega) (Nat.le_of_ble_eq_true rfl) dX11_message_26 (fun τ26 v26 h26 z26 => ?_)
        obtain ⟨rfl, h26⟩ := h26
        obtain ⟨r26, rfl, k26⟩ : ∃ r : Int32, v26 = some (.int r) ∧ ((∃ k, k < mc ∧ (eu k = u ∧ eb k = b) ∧ nI (cntM eu eb (u) (b) k) = i ∧ r = nI k) ∨ (∀ k, k < mc → eu k = u ∧ eb k = b → nI (cntM eu eb (u) (b) k) ≠ i) ∧ r = -1) := by
          rcases h26 with ⟨k, h1, h2, h3, h4⟩ | ⟨h1, h2⟩
          · exact ⟨_, h4, Or.inl ⟨k, h1, h2, h3, rfl⟩⟩
          · exact ⟨_, h2, Or.inr ⟨h1, rfl⟩⟩
        show G _ _ _ _ _ _ _ _ _ _ 29 [(0, .ref a), (1, .int u), (2, .int b), (3, .int i), (4, .int w)] [.int r26]
        refine g_istore dX11_message_29 (by decide) rfl ?_
        refine g_iload dX11_message_31 (List.mem_of_getElem? (i := 0) rfl) ?_
        refine g_if_ge (tgt := 38) dX11_message_33 (by decide) (fun c33 => ?_) (fun c33 => ?_)
        · obtain ⟨hmc, g, hgm, hg⟩ := id hm
          obtain ⟨k, hk, hkm, hkc, rfl⟩ : ∃ k, k < mc ∧ (eu k = u ∧ eb k = b) ∧ nI (cntM eu eb u b k) = i ∧ r26 = nI k := by
            rcases k26 with h | ⟨h1, h2⟩
            · exact h
            · rw [h2] at c33; exact absurd c33 (by decide)
          refine g_aload_n dX11_message_38 rfl (List.mem_of_getElem? (i := 1) rfl) ?_
          refine g_get fX11_33 ha (v := .ref (n0 + 4)) rfl dX11_message_39 ?_
          refine g_iload dX11_message_42 (List.mem_of_getElem? (i := 0) rfl) ?_
          refine g_aald (t0 := 7) rfl hgm (vp_in_nI (by omega) (by decide)) dX11_message_44 ?_
          refine g_eqv (.ref (ea k)) (by rw [nI_clamp (by omega), (hg k hk).1]; rfl) ?_
          refine g_astore dX11_message_45 (by decide) rfl ?_
          refine g_iload dX11_message_47 (List.mem_of_getElem? (i := 6) rfl) ?_
          refine g_if_ne (tgt := 61) dX11_message_49 (by decide) (fun c49 => ?_) (fun c49 => ?_)
          · have c49 := c49
            refine g_iload dX11_message_61 (List.mem_of_getElem? (i := 6) rfl) ?_
            refine g_iconst (v := 1) dX11_message_63 (by decide) ?_
            refine g_icmp_ne (tgt := 75) dX11_message_64 (by decide) (fun c64 => ?_) (fun c64 => ?_)
            · have c64 := c64
              refine g_iload dX11_message_75 (List.mem_of_getElem? (i := 1) rfl) ?_
              exact g_iret rfl dX11_message_77 (⟨rfl, Or.inl ⟨hyes, k, hk, hkm, hkc, Or.inr (Or.inr ⟨fun h => c49 h, fun h => c64 h, rfl⟩)⟩⟩)
            · have c64 := c64
              refine g_aload dX11_message_67 (List.mem_of_getElem? (i := 0) rfl) ?_
              refine g_get fX11_164 (hg k hk).2 (v := .int (ef k)) rfl dX11_message_69 ?_
              refine g_goto (tgt := 77) dX11_message_72 (by decide) ?_
              exact g_iret rfl dX11_message_77 (⟨rfl, Or.inl ⟨hyes, k, hk, hkm, hkc, Or.inr (Or.inl ⟨c64, rfl⟩)⟩⟩)
          · have c49 := c49
            refine g_aload dX11_message_52 (List.mem_of_getElem? (i := 0) rfl) ?_
            refine g_get fX11_161 (hg k hk).2 (v := .ref (tx k)) rfl dX11_message_54 ?_
            refine g_aleni (t0 := 1) rfl (ht k hk).1 dX11_message_57 ?_
            refine g_goto (tgt := 77) dX11_message_58 (by decide) ?_
            exact g_iret rfl dX11_message_77 (⟨rfl, Or.inl ⟨hyes, k, hk, hkm, hkc, Or.inl ⟨c49, rfl⟩⟩⟩)
        · have hnk : ∀ k, k < mc → eu k = u ∧ eb k = b → nI (cntM eu eb u b k) ≠ i := by
            rcases k26 with ⟨k, h1, h2, h3, h4⟩ | ⟨h1, h2⟩
            · rw [h4] at c33; exact absurd (nI_pos' (by have := hm.1; omega)) c33
            · exact h1
          refine g_iconst (v := -1) dX11_message_36 (by decide) ?_
          exact g_iret rfl dX11_message_37 (⟨rfl, Or.inr ⟨fun h => h.2.2.2.elim (fun k ⟨h1, h2, h3⟩ => hnk k h1 h2 h3), rfl⟩⟩)
      · have c17 := c17
        refine g_iconst (v := -1) dX11_message_20 (by decide) ?_
        exact g_iret rfl dX11_message_21 (⟨rfl, Or.inr ⟨fun h => h.2.2.1 c17, rfl⟩⟩)
