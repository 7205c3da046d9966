abbrev mX11_eightBytes : hM := (yX11_eightBytes, cX11_eightBytes, 7, (some (.long)))
theorem dX11_eightBytes_0 : decode cX11_eightBytes 0 = .ok (.lconst 0, 1) := by decide +kernel
theorem dX11_eightBytes_1 : decode cX11_eightBytes 1 = .ok (.lstore_n 3, 1) := by decide +kernel
theorem dX11_eightBytes_2 : decode cX11_eightBytes 2 = .ok (.iconst 0, 1) := by decide +kernel
theorem dX11_eightBytes_3 : decode cX11_eightBytes 3 = .ok (.istore 5, 2) := by decide +kernel
theorem dX11_eightBytes_5 : decode cX11_eightBytes 5 = .ok (.iload 5, 2) := by decide +kernel
theorem dX11_eightBytes_7 : decode cX11_eightBytes 7 = .ok (.bipush 8, 2) := by decide +kernel
theorem dX11_eightBytes_9 : decode cX11_eightBytes 9 = .ok (.if_icmp .ge 42, 3) := by decide +kernel
theorem dX11_eightBytes_12 : decode cX11_eightBytes 12 = .ok (.iload_n 1, 1) := by decide +kernel
theorem dX11_eightBytes_13 : decode cX11_eightBytes 13 = .ok (.iload_n 2, 1) := by decide +kernel
theorem dX11_eightBytes_14 : decode cX11_eightBytes 14 = .ok (.iload 5, 2) := by decide +kernel
theorem dX11_eightBytes_16 : decode cX11_eightBytes 16 = .ok (.isub, 1) := by decide +kernel
theorem dX11_eightBytes_17 : decode cX11_eightBytes 17 = .ok (.if_icmp .ge 16, 3) := by decide +kernel
theorem dX11_eightBytes_20 : decode cX11_eightBytes 20 = .ok (.aload_n 0, 1) := by decide +kernel
theorem dX11_eightBytes_21 : decode cX11_eightBytes 21 = .ok (.iload_n 1, 1) := by decide +kernel
theorem dX11_eightBytes_22 : decode cX11_eightBytes 22 = .ok (.iload 5, 2) := by decide +kernel
theorem dX11_eightBytes_24 : decode cX11_eightBytes 24 = .ok (.iadd, 1) := by decide +kernel
theorem dX11_eightBytes_25 : decode cX11_eightBytes 25 = .ok (.baload, 1) := by decide +kernel
theorem dX11_eightBytes_26 : decode cX11_eightBytes 26 = .ok (.sipush 255, 3) := by decide +kernel
theorem dX11_eightBytes_29 : decode cX11_eightBytes 29 = .ok (.iand, 1) := by decide +kernel
theorem dX11_eightBytes_30 : decode cX11_eightBytes 30 = .ok (.goto 4, 3) := by decide +kernel
theorem dX11_eightBytes_33 : decode cX11_eightBytes 33 = .ok (.iconst 0, 1) := by decide +kernel
theorem dX11_eightBytes_34 : decode cX11_eightBytes 34 = .ok (.istore 6, 2) := by decide +kernel
theorem dX11_eightBytes_36 : decode cX11_eightBytes 36 = .ok (.lload_n 3, 1) := by decide +kernel
theorem dX11_eightBytes_37 : decode cX11_eightBytes 37 = .ok (.bipush 8, 2) := by decide +kernel
theorem dX11_eightBytes_39 : decode cX11_eightBytes 39 = .ok (.lshl, 1) := by decide +kernel
theorem dX11_eightBytes_40 : decode cX11_eightBytes 40 = .ok (.iload 6, 2) := by decide +kernel
theorem dX11_eightBytes_42 : decode cX11_eightBytes 42 = .ok (.i2l, 1) := by decide +kernel
theorem dX11_eightBytes_43 : decode cX11_eightBytes 43 = .ok (.lor, 1) := by decide +kernel
theorem dX11_eightBytes_44 : decode cX11_eightBytes 44 = .ok (.lstore_n 3, 1) := by decide +kernel
theorem dX11_eightBytes_45 : decode cX11_eightBytes 45 = .ok (.iinc 5 1, 3) := by decide +kernel
theorem dX11_eightBytes_48 : decode cX11_eightBytes 48 = .ok (.goto (-43), 3) := by decide +kernel
theorem dX11_eightBytes_51 : decode cX11_eightBytes 51 = .ok (.lload_n 3, 1) := by decide +kernel
theorem dX11_eightBytes_52 : decode cX11_eightBytes 52 = .ok (.lreturn, 1) := by decide +kernel
/-- bytes put together, the first one highest -/
def e8 (g : Nat → Int32) : Nat → Int64
  | 0 => 0
  | n + 1 => (e8 g n <<< ((8 : Int32).toInt64 &&& 63)) ||| (g n).toInt64
theorem e8_cg {g g' : Nat → Int32} : ∀ n : Nat, (∀ j, j < n → g j = g' j) → e8 g n = e8 g' n
  | 0, _ => rfl
  | n + 1, h => by
    show (e8 g n <<< _) ||| _ = (e8 g' n <<< _) ||| _
    rw [e8_cg n (fun j hj => h j (by omega)), h n (by omega)]
/-- the bytes of f from k on, up to t; 0 behind -/
def by8 (f : Nat → Int32) (k t : Nat) : Nat → Int32 := fun j => if k + j < t then f (k + j) &&& 255 else 0
theorem by8_lt {k t j : Nat} (hk : k < 2 ^ 31) (ht : t < 2 ^ 30) (hj : j < 8) : nI k < nI t - nI j ↔ k + j < t := by
  rw [Int32.lt_iff_toInt_lt, nI_toInt hk, pk_sub_toInt (by omega) (by omega)]
  omega

set_option maxRecDepth 100000 in
set_option maxHeartbeats 4000000 in
theorem ct_e8_loop {l : Launch} {D : va_G} {A : Nat → ClassId} {B : Nat} {Z : State → Heap → Prop} (hZ : h_st B Z) {d : Nat} {σ : hS} {r n : Nat} {f : Nat → Int32} (hr : σ.1 r = some (.inl (A 1, n, .inl f))) {k t : Nat} (hk : k < 2 ^ 31) (ht : t ≤ n) (hn : n < 2 ^ 30) : ∀ (m j : Nat), 9 ≤ j + m → j ≤ 8 → G l D (h_ty A) B Z mX11_eightBytes d σ (fun σ1 v => σ1 = σ ∧ v = some (.long (e8 (by8 f k t) 8))) σ 5 [(3, .long (e8 (by8 f k t) j)), (5, .int (nI j)), (0, .ref r), (1, .int (nI k)), (2, .int (nI t))] [] := by
  intro m
  induction m with
  | zero => intro j h1 h2; omega
  | succ m ih =>
    intro j h1 h2
    refine g_iload dX11_eightBytes_5 (List.mem_of_getElem? (i := 1) rfl) ?_
    refine g_bipush (v := 8) dX11_eightBytes_7 (by decide) ?_
    refine g_icmp_ge (tgt := 51) dX11_eightBytes_9 (by decide) (fun c9 => ?_) (fun c9 => ?_)
    · have c9 : j = 8 := by have := (nI_leI (a := 8) (b := j) (by decide) (by omega)).mp c9; omega
      subst c9
      refine g_lload_n dX11_eightBytes_51 rfl (List.mem_of_getElem? (i := 0) rfl) ?_
      exact g_lret rfl dX11_eightBytes_52 ⟨rfl, rfl⟩
    · have hj : j < 8 := Nat.lt_of_not_le fun h => c9 ((nI_leI (a := 8) (b := j) (by decide) (by omega)).mpr h)
      refine g_iload_n dX11_eightBytes_12 rfl (List.mem_of_getElem? (i := 3) rfl) ?_
      refine g_iload_n dX11_eightBytes_13 rfl (List.mem_of_getElem? (i := 4) rfl) ?_
      refine g_iload dX11_eightBytes_14 (List.mem_of_getElem? (i := 1) rfl) ?_
      refine g_isub dX11_eightBytes_16 ?_
      refine g_icmp_ge (tgt := 33) dX11_eightBytes_17 (by decide) (fun c17 => ?_) (fun c17 => ?_)
      · have hb9 : by8 f k t j = 0 := if_neg (fun h => (Int32.not_lt.mpr c17) ((by8_lt (by omega) (by omega) hj).mpr h))
        refine g_iconst (v := 0) dX11_eightBytes_33 (by decide) ?_
        refine g_istore dX11_eightBytes_34 (by decide) rfl ?_
        refine g_lload_n dX11_eightBytes_36 rfl (List.mem_of_getElem? (i := 1) rfl) ?_
        refine g_bipush (v := 8) dX11_eightBytes_37 (by decide) ?_
        refine g_lshl dX11_eightBytes_39 rfl ?_
        refine g_iload dX11_eightBytes_40 (List.mem_of_getElem? (i := 0) rfl) ?_
        refine g_i2l dX11_eightBytes_42 rfl ?_
        refine g_lor dX11_eightBytes_43 ?_
        refine g_eql (e8 (by8 f k t) (j + 1)) (by show _ = (e8 (by8 f k t) j <<< _) ||| (by8 f k t j).toInt64; rw [hb9]) ?_
        refine g_lstore_n dX11_eightBytes_44 rfl (by decide) rfl ?_
        refine g_iinc (v := nI (j + 1)) dX11_eightBytes_45 (k := 2) rfl (nI_1 j) (by decide) rfl ?_
        refine g_goto (tgt := 5) dX11_eightBytes_48 (by decide) ?_
        refine g_lv [1, 0, 3, 4, 5] rfl ?_
        exact ih (j + 1) (by omega) (by omega)
      · have hin : k + j < t := (by8_lt (by omega) (by omega) hj).mp (Int32.not_le.mp c17)
        have hb9 : by8 f k t j = f (k + j) &&& 255 := if_pos hin
        refine g_aload_n dX11_eightBytes_20 rfl (List.mem_of_getElem? (i := 2) rfl) ?_
        refine g_iload_n dX11_eightBytes_21 rfl (List.mem_of_getElem? (i := 3) rfl) ?_
        refine g_iload dX11_eightBytes_22 (List.mem_of_getElem? (i := 1) rfl) ?_
        refine g_iadd dX11_eightBytes_24 ?_
        refine g_eqi (nI (k + j)) (nI_add k j) ?_
        refine g_bald (t0 := 1) rfl hr (vp_in_nI (by omega) (by omega)) dX11_eightBytes_25 ?_
        refine g_eqi (f (k + j)) (by rw [nI_clamp (by omega)]) ?_
        refine g_sipush (v := 255) dX11_eightBytes_26 (by decide) ?_
        refine g_iand dX11_eightBytes_29 ?_
        refine g_goto (tgt := 34) dX11_eightBytes_30 (by decide) ?_
        refine g_istore dX11_eightBytes_34 (by decide) rfl ?_
        refine g_lload_n dX11_eightBytes_36 rfl (List.mem_of_getElem? (i := 1) rfl) ?_
        refine g_bipush (v := 8) dX11_eightBytes_37 (by decide) ?_
        refine g_lshl dX11_eightBytes_39 rfl ?_
        refine g_iload dX11_eightBytes_40 (List.mem_of_getElem? (i := 0) rfl) ?_
        refine g_i2l dX11_eightBytes_42 rfl ?_
        refine g_lor dX11_eightBytes_43 ?_
        refine g_eql (e8 (by8 f k t) (j + 1)) (by show _ = (e8 (by8 f k t) j <<< _) ||| (by8 f k t j).toInt64; rw [hb9]) ?_
        refine g_lstore_n dX11_eightBytes_44 rfl (by decide) rfl ?_
        refine g_iinc (v := nI (j + 1)) dX11_eightBytes_45 (k := 2) rfl (nI_1 j) (by decide) rfl ?_
        refine g_goto (tgt := 5) dX11_eightBytes_48 (by decide) ?_
        refine g_lv [1, 0, 3, 4, 5] rfl ?_
        exact ih (j + 1) (by omega) (by omega)
set_option maxRecDepth 100000 in
set_option maxHeartbeats 4000000 in
/-- eightBytes -/
theorem ct_e8 {l : Launch} {D : va_G} {A : Nat → ClassId} {B : Nat} {Z : State → Heap → Prop} (hZ : h_st B Z) {d : Nat} {σ : hS} {r n : Nat} {f : Nat → Int32} (hr : σ.1 r = some (.inl (A 1, n, .inl f))) {k t : Nat} (hk : k < 2 ^ 31) (ht : t ≤ n) (hn : n < 2 ^ 30) : Ct l D (h_ty A) B Z d mX11_eightBytes σ [.ref r, .int (nI k), .int (nI t)] (fun σ1 v => σ1 = σ ∧ v = some (.long (e8 (by8 f k t) 8))) := by
  refine ct_of rfl hZ (Nat.le_of_ble_eq_true rfl) ?_
  show G _ _ _ _ _ _ _ _ _ _ 0 [(0, .ref r), (1, .int (nI k)), (2, .int (nI t))] []
  refine g_lconst (v := 0) dX11_eightBytes_0 (by decide) ?_
  refine g_lstore_n dX11_eightBytes_1 rfl (by decide) rfl ?_
  refine g_iconst (v := 0) dX11_eightBytes_2 (by decide) ?_
  refine g_istore dX11_eightBytes_3 (by decide) rfl ?_
  refine g_lv [1, 0, 2, 3, 4] rfl ?_
  exact ct_e8_loop hZ hr hk ht hn 9 0 (by omega) (by omega)
