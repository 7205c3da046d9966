abbrev mX5_take : hM := (yX5_take, cX5_take, 6, (some (.long)))
theorem dX5_take_0 : decode cX5_take 0 = .ok (.bipush 7, 2) := by decide +kernel
theorem dX5_take_2 : decode cX5_take 2 = .ok (.aload_n 0, 1) := by decide +kernel
theorem dX5_take_3 : decode cX5_take 3 = .ok (.getfield 13, 3) := by decide +kernel
theorem fX5_13 : h_fl RX5 13 5 2 RX5 TX5 3 := ⟨rfl, by decide, inX5, h_t2 21 rfl rfl⟩
theorem dX5_take_6 : decode cX5_take 6 = .ok (.invokestatic 58, 3) := by decide +kernel
theorem lX5_58 : Cond.methodLink RX5 58 Lib.Math.min.name ∈ lw_g := h_t7 146 rfl rfl
theorem dX5_take_9 : decode cX5_take 9 = .ok (.istore_n 1, 1) := by decide +kernel
theorem dX5_take_10 : decode cX5_take 10 = .ok (.iload_n 1, 1) := by decide +kernel
theorem dX5_take_11 : decode cX5_take 11 = .ok (.i2l, 1) := by decide +kernel
theorem dX5_take_12 : decode cX5_take 12 = .ok (.lstore_n 2, 1) := by decide +kernel
theorem dX5_take_13 : decode cX5_take 13 = .ok (.iconst 0, 1) := by decide +kernel
theorem dX5_take_14 : decode cX5_take 14 = .ok (.istore 4, 2) := by decide +kernel
theorem dX5_take_16 : decode cX5_take 16 = .ok (.iload 4, 2) := by decide +kernel
theorem dX5_take_18 : decode cX5_take 18 = .ok (.bipush 7, 2) := by decide +kernel
theorem dX5_take_20 : decode cX5_take 20 = .ok (.if_icmp .ge 50, 3) := by decide +kernel
theorem dX5_take_23 : decode cX5_take 23 = .ok (.iload 4, 2) := by decide +kernel
theorem dX5_take_25 : decode cX5_take 25 = .ok (.iload_n 1, 1) := by decide +kernel
theorem dX5_take_26 : decode cX5_take 26 = .ok (.if_icmp .ge 26, 3) := by decide +kernel
theorem dX5_take_29 : decode cX5_take 29 = .ok (.aload_n 0, 1) := by decide +kernel
theorem dX5_take_30 : decode cX5_take 30 = .ok (.getfield 9, 3) := by decide +kernel
theorem dX5_take_33 : decode cX5_take 33 = .ok (.aload_n 0, 1) := by decide +kernel
theorem dX5_take_34 : decode cX5_take 34 = .ok (.getfield 17, 3) := by decide +kernel
theorem fX5_17 : h_fl RX5 17 5 1 RX5 TX5 3 := ⟨rfl, by decide, inX5, h_t2 20 rfl rfl⟩
theorem dX5_take_37 : decode cX5_take 37 = .ok (.iload 4, 2) := by decide +kernel
theorem dX5_take_39 : decode cX5_take 39 = .ok (.iadd, 1) := by decide +kernel
theorem dX5_take_40 : decode cX5_take 40 = .ok (.sipush 10000, 3) := by decide +kernel
theorem dX5_take_43 : decode cX5_take 43 = .ok (.irem, 1) := by decide +kernel
theorem dX5_take_44 : decode cX5_take 44 = .ok (.baload, 1) := by decide +kernel
theorem dX5_take_45 : decode cX5_take 45 = .ok (.sipush 255, 3) := by decide +kernel
theorem dX5_take_48 : decode cX5_take 48 = .ok (.iand, 1) := by decide +kernel
theorem dX5_take_49 : decode cX5_take 49 = .ok (.goto 4, 3) := by decide +kernel
theorem dX5_take_52 : decode cX5_take 52 = .ok (.iconst 0, 1) := by decide +kernel
theorem dX5_take_53 : decode cX5_take 53 = .ok (.istore 5, 2) := by decide +kernel
theorem dX5_take_55 : decode cX5_take 55 = .ok (.lload_n 2, 1) := by decide +kernel
theorem dX5_take_56 : decode cX5_take 56 = .ok (.bipush 8, 2) := by decide +kernel
theorem dX5_take_58 : decode cX5_take 58 = .ok (.lshl, 1) := by decide +kernel
theorem dX5_take_59 : decode cX5_take 59 = .ok (.iload 5, 2) := by decide +kernel
theorem dX5_take_61 : decode cX5_take 61 = .ok (.i2l, 1) := by decide +kernel
theorem dX5_take_62 : decode cX5_take 62 = .ok (.lor, 1) := by decide +kernel
theorem dX5_take_63 : decode cX5_take 63 = .ok (.lstore_n 2, 1) := by decide +kernel
theorem dX5_take_64 : decode cX5_take 64 = .ok (.iinc 4 1, 3) := by decide +kernel
theorem dX5_take_67 : decode cX5_take 67 = .ok (.goto (-51), 3) := by decide +kernel
theorem dX5_take_70 : decode cX5_take 70 = .ok (.aload_n 0, 1) := by decide +kernel
theorem dX5_take_71 : decode cX5_take 71 = .ok (.aload_n 0, 1) := by decide +kernel
theorem dX5_take_72 : decode cX5_take 72 = .ok (.getfield 17, 3) := by decide +kernel
theorem dX5_take_75 : decode cX5_take 75 = .ok (.iload_n 1, 1) := by decide +kernel
theorem dX5_take_76 : decode cX5_take 76 = .ok (.iadd, 1) := by decide +kernel
theorem dX5_take_77 : decode cX5_take 77 = .ok (.sipush 10000, 3) := by decide +kernel
theorem dX5_take_80 : decode cX5_take 80 = .ok (.irem, 1) := by decide +kernel
theorem dX5_take_81 : decode cX5_take 81 = .ok (.putfield 17, 3) := by decide +kernel
theorem dX5_take_84 : decode cX5_take 84 = .ok (.aload_n 0, 1) := by decide +kernel
theorem dX5_take_85 : decode cX5_take 85 = .ok (.dup, 1) := by decide +kernel
theorem dX5_take_86 : decode cX5_take 86 = .ok (.getfield 13, 3) := by decide +kernel
theorem dX5_take_89 : decode cX5_take 89 = .ok (.iload_n 1, 1) := by decide +kernel
theorem dX5_take_90 : decode cX5_take 90 = .ok (.isub, 1) := by decide +kernel
theorem dX5_take_91 : decode cX5_take 91 = .ok (.putfield 13, 3) := by decide +kernel
theorem dX5_take_94 : decode cX5_take 94 = .ok (.lload_n 2, 1) := by decide +kernel
theorem dX5_take_95 : decode cX5_take 95 = .ok (.lreturn, 1) := by decide +kernel
abbrev mX11_reply : hM := (yX11_reply, cX11_reply, 2, (some (.long)))
theorem dX11_reply_0 : decode cX11_reply 0 = .ok (.iload_n 1, 1) := by decide +kernel
theorem dX11_reply_1 : decode cX11_reply 1 = .ok (.ifCond .lt 8, 3) := by decide +kernel
theorem dX11_reply_4 : decode cX11_reply 4 = .ok (.iload_n 1, 1) := by decide +kernel
theorem dX11_reply_5 : decode cX11_reply 5 = .ok (.iconst 4, 1) := by decide +kernel
theorem dX11_reply_6 : decode cX11_reply 6 = .ok (.if_icmp .le 7, 3) := by decide +kernel
theorem dX11_reply_9 : decode cX11_reply 9 = .ok (.lconst 0, 1) := by decide +kernel
theorem dX11_reply_10 : decode cX11_reply 10 = .ok (.goto 12, 3) := by decide +kernel
theorem dX11_reply_13 : decode cX11_reply 13 = .ok (.aload_n 0, 1) := by decide +kernel
theorem dX11_reply_14 : decode cX11_reply 14 = .ok (.getfield 15, 3) := by decide +kernel
theorem dX11_reply_17 : decode cX11_reply 17 = .ok (.iload_n 1, 1) := by decide +kernel
theorem dX11_reply_18 : decode cX11_reply 18 = .ok (.aaload, 1) := by decide +kernel
theorem dX11_reply_19 : decode cX11_reply 19 = .ok (.invokevirtual 130, 3) := by decide +kernel
theorem kX5_take : h_ml mX5_take 0 := ⟨h_t7 145 rfl rfl, h_t1 6 rfl rfl, ⟨by decide, by decide, by decide +kernel⟩, by decide⟩
theorem sX5_take : Cond.instanceMethod mX5_take.1 ∈ lw_g ∧ Cond.selects mX5_take.1.cls mX5_take.1 mX5_take.1 ∈ lw_g := ⟨h_t7 143 rfl rfl, h_t7 144 rfl rfl⟩
theorem lX11_130 : Cond.methodLink RX11 130 mX5_take.1 ∈ lw_g := h_t7 142 rfl rfl
theorem dX11_reply_22 : decode cX11_reply 22 = .ok (.lreturn, 1) := by decide +kernel
/-- bytes put behind a number that was there -/
def eS (s : Int64) (g : Nat → Int32) : Nat → Int64
  | 0 => s
  | n + 1 => (eS s g n <<< ((8 : Int32).toInt64 &&& 63)) ||| (g n).toInt64
/-- the bytes that a queue gives: the first t, then 0 -/
def qby (xs : List Int32) (t : Nat) : Nat → Int32 := fun j => if j < t then xs.getD j 0 &&& 255 else 0
def q_t (xs : List Int32) : Nat := if xs.length < 7 then xs.length else 7
theorem q_t_le (xs : List Int32) : q_t xs ≤ 7 ∧ q_t xs ≤ xs.length := by
  unfold q_t
  by_cases h : xs.length < 7
  · rw [if_pos h]; omega
  · rw [if_neg h]; omega
theorem q_tI {xs : List Int32} (h : xs.length ≤ 10000) : (if nI xs.length < 7 then nI xs.length else 7) = nI (q_t xs) := by
  show (if nI xs.length < nI 7 then nI xs.length else nI 7) = nI (q_t xs)
  unfold q_t
  by_cases hx : xs.length < 7
  · rw [if_pos hx, if_pos ((nI_ltI (a := xs.length) (b := 7) (by omega) (by decide)).mpr hx)]
  · rw [if_neg hx, if_neg (fun x => hx ((nI_ltI (a := xs.length) (b := 7) (by omega) (by decide)).mp x))]
theorem q_drop {A : Nat → ClassId} {σ1 : hS} {a row fi : Nat} {xs : List Int32} {f : Nat → Int32} (h1 : fi < 10000) (hx : xs.length ≤ 10000) (hf : ∀ j : Nat, j < xs.length → f ((fi + j) % 10000) = xs.getD j 0) (e1 : σ1.1 a = some (.inr (5, [.ref row, .int (nI ((fi + q_t xs) % 10000)), .int (nI (xs.length - q_t xs))]))) (e2 : σ1.1 row = some (.inl (A 1, 10000, .inl f))) : qAt A σ1 a row (xs.drop (q_t xs)) := by
  have ht := q_t_le xs
  refine ⟨(fi + q_t xs) % 10000, f, Nat.mod_lt _ (by decide), by rw [List.length_drop]; omega, by rw [List.length_drop]; exact e1, e2, fun j hj => ?_⟩
  rw [List.length_drop] at hj
  have := hf (q_t xs + j) (by omega)
  rw [List.getD_eq_getElem?_getD, List.getElem?_drop, ← List.getD_eq_getElem?_getD, ← this]
  congr 1
  omega

set_option maxRecDepth 100000 in
set_option maxHeartbeats 4000000 in
theorem ct_take_loop {l : Launch} {D : va_G} {A : Nat → ClassId} {B : Nat} {Z : State → Heap → Prop} (hZ : h_st B Z) {d : Nat} {σ : hS} {P : hS → Option Value → Prop} {s0 : Int64} {a row fi : Nat} {xs : List Int32} {f : Nat → Int32} (h1 : fi < 10000) (hx : xs.length ≤ 10000) (ha : σ.1 a = some (.inr (5, [.ref row, .int (nI fi), .int (nI xs.length)]))) (hr : σ.1 row = some (.inl (A 1, 10000, .inl f))) (hf : ∀ j : Nat, j < xs.length → f ((fi + j) % 10000) = xs.getD j 0) (hk : G l D (h_ty A) B Z mX5_take d σ P σ 70 [(2, .long (eS s0 (qby xs (q_t xs)) 7)), (4, .int (nI 7)), (0, .ref a), (1, .int (nI (q_t xs)))] []) : ∀ (m j : Nat), 8 ≤ j + m → j ≤ 7 → G l D (h_ty A) B Z mX5_take d σ P σ 16 [(2, .long (eS s0 (qby xs (q_t xs)) j)), (4, .int (nI j)), (0, .ref a), (1, .int (nI (q_t xs)))] [] := by
  have ht := q_t_le xs
  intro m
  induction m with
  | zero => intro j h1 h2; omega
  | succ m ih =>
    intro j h3 h4
    refine g_iload dX5_take_16 (List.mem_of_getElem? (i := 1) rfl) ?_
    refine g_bipush (v := 7) dX5_take_18 (by decide) ?_
    refine g_icmp_ge (tgt := 70) dX5_take_20 (by decide) (fun c20 => ?_) (fun c20 => ?_)
    · have c20 : j = 7 := by have := (nI_leI (a := 7) (b := j) (by decide) (by omega)).mp c20; omega
      subst c20
      exact hk
    · have hj : j < 7 := Nat.lt_of_not_le fun h => c20 ((nI_leI (a := 7) (b := j) (by decide) (by omega)).mpr h)
      refine g_iload dX5_take_23 (List.mem_of_getElem? (i := 1) rfl) ?_
      refine g_iload_n dX5_take_25 rfl (List.mem_of_getElem? (i := 3) rfl) ?_
      refine g_icmp_ge (tgt := 52) dX5_take_26 (by decide) (fun c26 => ?_) (fun c26 => ?_)
      · have c26 : q_t xs ≤ j := (nI_leI (by omega) (by omega)).mp c26
        have hb9 : qby xs (q_t xs) j = 0 := if_neg (by omega)
        refine g_iconst (v := 0) dX5_take_52 (by decide) ?_
        refine g_istore dX5_take_53 (by decide) rfl ?_
        refine g_lload_n dX5_take_55 rfl (List.mem_of_getElem? (i := 1) rfl) ?_
        refine g_bipush (v := 8) dX5_take_56 (by decide) ?_
        refine g_lshl dX5_take_58 rfl ?_
        refine g_iload dX5_take_59 (List.mem_of_getElem? (i := 0) rfl) ?_
        refine g_i2l dX5_take_61 rfl ?_
        refine g_lor dX5_take_62 ?_
        refine g_eql (eS s0 (qby xs (q_t xs)) (j + 1)) (by show _ = (eS s0 (qby xs (q_t xs)) j <<< _) ||| (qby xs (q_t xs) j).toInt64; rw [hb9]) ?_
        refine g_lstore_n dX5_take_63 rfl (by decide) rfl ?_
        refine g_iinc (v := nI (j + 1)) dX5_take_64 (k := 2) rfl (nI_1 j) (by decide) rfl ?_
        refine g_goto (tgt := 16) dX5_take_67 (by decide) ?_
        refine g_lv [1, 0, 3, 4] rfl ?_
        exact ih (j + 1) (by omega) (by omega)
      · have c26 : j < q_t xs := Nat.lt_of_not_le fun h => c26 ((nI_leI (by omega) (by omega)).mpr h)
        have hb9 : qby xs (q_t xs) j = xs.getD j 0 &&& 255 := if_pos c26
        refine g_aload_n dX5_take_29 rfl (List.mem_of_getElem? (i := 2) rfl) ?_
        refine g_get fX5_9 ha (v := .ref row) rfl dX5_take_30 ?_
        refine g_aload_n dX5_take_33 rfl (List.mem_of_getElem? (i := 2) rfl) ?_
        refine g_get fX5_17 ha (v := .int (nI fi)) rfl dX5_take_34 ?_
        refine g_iload dX5_take_37 (List.mem_of_getElem? (i := 1) rfl) ?_
        refine g_iadd dX5_take_39 ?_
        refine g_sipush (v := 10000) dX5_take_40 (by decide) ?_
        refine g_irem dX5_take_43 (by decide) ?_
        refine g_eqi (nI ((fi + j) % 10000)) (by rw [nI_add]; exact pk_rem (by omega) (by decide) (by decide)) ?_
        refine g_bald (t0 := 1) rfl hr (vp_in_nI (Nat.mod_lt _ (by decide)) (by decide)) dX5_take_44 ?_
        refine g_eqi (xs.getD j 0) (by rw [nI_clamp (Nat.lt_trans (Nat.mod_lt _ (by decide)) (by decide)), hf j (by omega)]) ?_
        refine g_sipush (v := 255) dX5_take_45 (by decide) ?_
        refine g_iand dX5_take_48 ?_
        refine g_goto (tgt := 53) dX5_take_49 (by decide) ?_
        refine g_istore dX5_take_53 (by decide) rfl ?_
        refine g_lload_n dX5_take_55 rfl (List.mem_of_getElem? (i := 1) rfl) ?_
        refine g_bipush (v := 8) dX5_take_56 (by decide) ?_
        refine g_lshl dX5_take_58 rfl ?_
        refine g_iload dX5_take_59 (List.mem_of_getElem? (i := 0) rfl) ?_
        refine g_i2l dX5_take_61 rfl ?_
        refine g_lor dX5_take_62 ?_
        refine g_eql (eS s0 (qby xs (q_t xs)) (j + 1)) (by show _ = (eS s0 (qby xs (q_t xs)) j <<< _) ||| (qby xs (q_t xs) j).toInt64; rw [hb9]) ?_
        refine g_lstore_n dX5_take_63 rfl (by decide) rfl ?_
        refine g_iinc (v := nI (j + 1)) dX5_take_64 (k := 2) rfl (nI_1 j) (by decide) rfl ?_
        refine g_goto (tgt := 16) dX5_take_67 (by decide) ?_
        refine g_lv [1, 0, 3, 4] rfl ?_
        exact ih (j + 1) (by omega) (by omega)
set_option maxRecDepth 100000 in
set_option maxHeartbeats 4000000 in
/-- Queue.take -/
theorem ct_take {l : Launch} {D : va_G} {A : Nat → ClassId} {B : Nat} {Z : State → Heap → Prop} (hZ : h_st B Z) {d : Nat} {σ : hS} {a row : Nat} {xs : List Int32} (hq : qAt A σ a row xs) (hd1 : 1 ≤ d) : Ct l D (h_ty A) B Z d mX5_take σ [.ref a] (fun σ1 v => v = some (.long (eS (nI (q_t xs)).toInt64 (qby xs (q_t xs)) 7)) ∧ qAt A σ1 a row (xs.drop (q_t xs)) ∧ h_fr (fun q => q = a ∨ q = row) σ σ1) := by
  have hne := q_ne hq
  obtain ⟨fi, f, h1, hx, ha, hr, hf⟩ := id hq
  have ht := q_t_le xs
  refine ct_of rfl hZ (Nat.le_of_ble_eq_true rfl) ?_
  show G _ _ _ _ _ _ _ _ _ _ 0 [(0, .ref a)] []
  refine g_bipush (v := 7) dX5_take_0 (by decide) ?_
  refine g_aload_n dX5_take_2 rfl (List.mem_of_getElem? (i := 0) rfl) ?_
  refine g_get fX5_13 ha (v := .int (nI xs.length)) rfl dX5_take_3 ?_
  refine g_mmin lX5_58 (by omega) (Nat.le_of_ble_eq_true rfl) dX5_take_6 ?_
  refine g_eqi (nI (q_t xs)) (q_tI hx) ?_
  refine g_istore_n dX5_take_9 rfl (by decide) rfl ?_
  refine g_iload_n dX5_take_10 rfl (List.mem_of_getElem? (i := 0) rfl) ?_
  refine g_i2l dX5_take_11 rfl ?_
  refine g_lstore_n dX5_take_12 rfl (by decide) rfl ?_
  refine g_iconst (v := 0) dX5_take_13 (by decide) ?_
  refine g_istore dX5_take_14 (by decide) rfl ?_
  refine g_lv [1, 0, 3, 2] rfl ?_
  refine ct_take_loop hZ (s0 := (nI (q_t xs)).toInt64) h1 hx ha hr hf ?_ 8 0 (by omega) (by omega)
  refine g_aload_n dX5_take_70 rfl (List.mem_of_getElem? (i := 2) rfl) ?_
  refine g_aload_n dX5_take_71 rfl (List.mem_of_getElem? (i := 2) rfl) ?_
  refine g_get fX5_17 ha (v := .int (nI fi)) rfl dX5_take_72 ?_
  refine g_iload_n dX5_take_75 rfl (List.mem_of_getElem? (i := 3) rfl) ?_
  refine g_iadd dX5_take_76 ?_
  refine g_sipush (v := 10000) dX5_take_77 (by decide) ?_
  refine g_irem dX5_take_80 (by decide) ?_
  refine g_eqi (nI ((fi + q_t xs) % 10000)) (by rw [nI_add]; exact pk_rem (by omega) (by decide) (by decide)) ?_
  refine g_put (ft := .int) fX5_17 ptX5 (Or.inl rfl) ha (by decide +kernel) rfl rfl (Nat.le_of_ble_eq_true rfl) dX5_take_81 ?_
  refine g_aload_n dX5_take_84 rfl (List.mem_of_getElem? (i := 2) rfl) ?_
  refine g_dup dX5_take_85 rfl ?_
  refine g_get fX5_13 h_e (v := .int (nI xs.length)) rfl dX5_take_86 ?_
  refine g_iload_n dX5_take_89 rfl (List.mem_of_getElem? (i := 3) rfl) ?_
  refine g_isub dX5_take_90 ?_
  refine g_eqi (nI (xs.length - q_t xs)) (pk_sub ht.2) ?_
  refine g_put (ft := .int) fX5_13 ptX5 (Or.inl rfl) h_e (by decide +kernel) rfl rfl (Nat.le_of_ble_eq_true rfl) dX5_take_91 ?_
  refine g_lload_n dX5_take_94 rfl (List.mem_of_getElem? (i := 0) rfl) ?_
  exact g_lret rfl dX5_take_95 (⟨rfl, q_drop h1 hx hf h_e (h_n (Ne.symm hne) (h_n (Ne.symm hne) hr)), ⟨fun q hq => h_n (fun h => hq (Or.inl h)) (h_n (fun h => hq (Or.inl h)) rfl), rfl⟩⟩)
/-- the queues: 0 .. 3 of the users, 4 of delivery -/
def quA (n0 s : Nat) : Nat := if s < 4 then n0 + 975 + 16 * s else n0 + 1039
def quF (n0 : Nat) : Nat → Option Nat := fun s => if s < 5 then some (quA n0 s) else none
def quAt (A : Nat → ClassId) (σ : hS) (n0 : Nat) (qs : Nat → List Int32) : Prop := σ.1 (n0 + 1) = some (.inl (A 4, 5, .inr (.inr (.inr (.inr (quF n0)))))) ∧ ∀ s : Nat, s < 5 → qAt A σ (quA n0 s) (quA n0 s + 1) (qs s)
theorem quF_in {n0 s : Nat} (h : s < 5) : va_rf (quF n0 (nI s).toNatClampNeg) = .ref (quA n0 s) := by
  rw [nI_clamp (by omega)]
  unfold quF
  rw [if_pos h]
  rfl
theorem q_ob {A : Nat → ClassId} {σ : hS} {a row : Nat} {xs : List Int32} (h : qAt A σ a row xs) : ∃ fs, σ.1 a = some (.inr (5, fs)) := by
  obtain ⟨fi, f, -, -, h3, -⟩ := h
  exact ⟨_, h3⟩
set_option maxRecDepth 100000 in
set_option maxHeartbeats 4000000 in
/-- reply -/
theorem ct_reply {l : Launch} {D : va_G} {A : Nat → ClassId} {B : Nat} {Z : State → Heap → Prop} (hZ : h_st B Z) {d : Nat} {σ : hS} {a n0 : Nat} {ts mc oc mb dy cm ci : Nat} {pw : Int32} (ha : σ.1 a = some (smO n0 ts mc oc mb dy cm ci pw)) {qs : Nat → List Int32} (hq : quAt A σ n0 qs) (hd1 : 2 ≤ d) {k : Int32} : Ct l D (h_ty A) B Z d mX11_reply σ [.ref a, .int k] (fun σ1 v => (∃ s : Nat, s < 5 ∧ k = nI s ∧ v = some (.long (eS (nI (q_t (qs s))).toInt64 (qby (qs s) (q_t (qs s))) 7)) ∧ qAt A σ1 (quA n0 s) (quA n0 s + 1) ((qs s).drop (q_t (qs s))) ∧ h_fr (fun q => q = quA n0 s ∨ q = quA n0 s + 1) σ σ1) ∨ (∀ s : Nat, s < 5 → k ≠ nI s) ∧ v = some (.long 0) ∧ σ1 = σ) := by
  refine ct_of rfl hZ (Nat.le_of_ble_eq_true rfl) ?_
  show G _ _ _ _ _ _ _ _ _ _ 0 [(0, .ref a), (1, .int k)] []
  refine g_iload_n dX11_reply_0 rfl (List.mem_of_getElem? (i := 1) rfl) ?_
  refine g_if_lt (tgt := 9) dX11_reply_1 (by decide) (fun c1 => ?_) (fun c1 => ?_)
  · have c1 := c1
    refine g_lconst (v := 0) dX11_reply_9 (by decide) ?_
    refine g_goto (tgt := 22) dX11_reply_10 (by decide) ?_
    exact g_lret rfl dX11_reply_22 (Or.inr ⟨fun s hs e => by subst e; exact nI_pos (by omega) c1, rfl, rfl⟩)
  · have c1 := c1
    refine g_iload_n dX11_reply_4 rfl (List.mem_of_getElem? (i := 1) rfl) ?_
    refine g_iconst (v := 4) dX11_reply_5 (by decide) ?_
    refine g_icmp_le (tgt := 13) dX11_reply_6 (by decide) (fun c6 => ?_) (fun c6 => ?_)
    · obtain ⟨s, hs2, rfl⟩ := nI_of c1
      have hs : s < 5 := by have := (nI_leI (a := s) (b := 4) hs2 (by decide)).mp c6; omega
      obtain ⟨fs, hqo⟩ := q_ob (hq.2 s hs)
      refine g_aload_n dX11_reply_13 rfl (List.mem_of_getElem? (i := 0) rfl) ?_
      refine g_get fX11_15 ha (v := .ref (n0 + 1)) rfl dX11_reply_14 ?_
      refine g_iload_n dX11_reply_17 rfl (List.mem_of_getElem? (i := 1) rfl) ?_
      refine g_aald (t0 := 4) rfl hq.1 (vp_in_nI hs (by decide)) dX11_reply_18 ?_
      refine g_eqv (.ref (quA n0 s)) (quF_in hs) ?_
      refine g_cv (d1 := 1) (As := []) (st := []) (ct_take hZ (hq.2 s hs) (by omega)) (h_rcO (r := (RX5, TX5, 3)) hqo rfl) kX5_take lX11_130 sX5_take (by omega) (Nat.le_of_ble_eq_true rfl) dX11_reply_19 (fun τ19 v19 h19 z19 => ?_)
      obtain ⟨rfl, gq, gf⟩ := h19
      show G _ _ _ _ _ _ _ _ _ _ 22 [(0, .ref a), (1, .int (nI s))] [.long (eS (nI (q_t (qs s))).toInt64 (qby (qs s) (q_t (qs s))) 7)]
      exact g_lret rfl dX11_reply_22 (Or.inl ⟨s, hs, rfl, rfl, gq, gf⟩)
    · have c6 := c6
      refine g_lconst (v := 0) dX11_reply_9 (by decide) ?_
      refine g_goto (tgt := 22) dX11_reply_10 (by decide) ?_
      exact g_lret rfl dX11_reply_22 (Or.inr ⟨fun s hs e => by subst e; exact c6 ((nI_leI (a := s) (b := 4) (by omega) (by decide)).mpr (by omega)), rfl, rfl⟩)
