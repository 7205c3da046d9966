abbrev mX11_bytes : hM := (yX11_bytes, cX11_bytes, 4, (some (.long)))
theorem dX11_bytes_0 : decode cX11_bytes 0 = .ok (.iload_n 1, 1) := by decide +kernel
theorem dX11_bytes_1 : decode cX11_bytes 1 = .ok (.ifCond .lt 15, 3) := by decide +kernel
theorem dX11_bytes_4 : decode cX11_bytes 4 = .ok (.iload_n 1, 1) := by decide +kernel
theorem dX11_bytes_5 : decode cX11_bytes 5 = .ok (.aload_n 0, 1) := by decide +kernel
theorem dX11_bytes_6 : decode cX11_bytes 6 = .ok (.getfield 150, 3) := by decide +kernel
theorem dX11_bytes_9 : decode cX11_bytes 9 = .ok (.if_icmp .ge 7, 3) := by decide +kernel
theorem dX11_bytes_12 : decode cX11_bytes 12 = .ok (.iload_n 2, 1) := by decide +kernel
theorem dX11_bytes_13 : decode cX11_bytes 13 = .ok (.ifCond .ge 7, 3) := by decide +kernel
theorem dX11_bytes_16 : decode cX11_bytes 16 = .ok (.ldc2_w 167, 3) := by decide +kernel
theorem cX11_167 : Cond.constantLong RX11 167 (-1) ∈ lw_g := h_t7 183 rfl rfl
theorem dX11_bytes_19 : decode cX11_bytes 19 = .ok (.lreturn, 1) := by decide +kernel
theorem dX11_bytes_20 : decode cX11_bytes 20 = .ok (.aload_n 0, 1) := by decide +kernel
theorem dX11_bytes_21 : decode cX11_bytes 21 = .ok (.getfield 33, 3) := by decide +kernel
theorem dX11_bytes_24 : decode cX11_bytes 24 = .ok (.iload_n 1, 1) := by decide +kernel
theorem dX11_bytes_25 : decode cX11_bytes 25 = .ok (.aaload, 1) := by decide +kernel
theorem dX11_bytes_26 : decode cX11_bytes 26 = .ok (.getfield 161, 3) := by decide +kernel
theorem dX11_bytes_29 : decode cX11_bytes 29 = .ok (.astore_n 3, 1) := by decide +kernel
theorem dX11_bytes_30 : decode cX11_bytes 30 = .ok (.aload_n 3, 1) := by decide +kernel
theorem dX11_bytes_31 : decode cX11_bytes 31 = .ok (.iload_n 2, 1) := by decide +kernel
theorem dX11_bytes_32 : decode cX11_bytes 32 = .ok (.aload_n 3, 1) := by decide +kernel
theorem dX11_bytes_33 : decode cX11_bytes 33 = .ok (.arraylength, 1) := by decide +kernel
theorem dX11_bytes_34 : decode cX11_bytes 34 = .ok (.invokestatic 169, 3) := by decide +kernel
theorem kX11_eightBytes : h_ml mX11_eightBytes 3 := ⟨h_t7 186 rfl rfl, h_t1 1 rfl rfl, ⟨by decide, by decide, by decide +kernel⟩, by decide⟩
theorem sX11_eightBytes : Cond.static mX11_eightBytes.1 ∈ lw_g := h_t7 185 rfl rfl
theorem lX11_169 : Cond.methodLink RX11 169 mX11_eightBytes.1 ∈ lw_g := h_t7 184 rfl rfl
theorem dX11_bytes_37 : decode cX11_bytes 37 = .ok (.lreturn, 1) := by decide +kernel
abbrev mX11_countOfUser : hM := (yX11_countOfUser, cX11_countOfUser, 3, (some (.int)))
theorem dX11_countOfUser_0 : decode cX11_countOfUser 0 = .ok (.iload_n 2, 1) := by decide +kernel
theorem dX11_countOfUser_1 : decode cX11_countOfUser 1 = .ok (.ifCond .lt 8, 3) := by decide +kernel
theorem dX11_countOfUser_4 : decode cX11_countOfUser 4 = .ok (.iload_n 2, 1) := by decide +kernel
theorem dX11_countOfUser_5 : decode cX11_countOfUser 5 = .ok (.iconst 4, 1) := by decide +kernel
theorem dX11_countOfUser_6 : decode cX11_countOfUser 6 = .ok (.if_icmp .lt 5, 3) := by decide +kernel
theorem dX11_countOfUser_9 : decode cX11_countOfUser 9 = .ok (.iconst (-1), 1) := by decide +kernel
theorem dX11_countOfUser_10 : decode cX11_countOfUser 10 = .ok (.ireturn, 1) := by decide +kernel
theorem dX11_countOfUser_11 : decode cX11_countOfUser 11 = .ok (.iload_n 1, 1) := by decide +kernel
theorem dX11_countOfUser_12 : decode cX11_countOfUser 12 = .ok (.tableswitch 61 1 3 #[28, 38, 48], 28) := by decide +kernel
theorem dX11_countOfUser_40 : decode cX11_countOfUser 40 = .ok (.aload_n 0, 1) := by decide +kernel
theorem dX11_countOfUser_41 : decode cX11_countOfUser 41 = .ok (.getfield 27, 3) := by decide +kernel
theorem dX11_countOfUser_44 : decode cX11_countOfUser 44 = .ok (.iload_n 2, 1) := by decide +kernel
theorem dX11_countOfUser_45 : decode cX11_countOfUser 45 = .ok (.aaload, 1) := by decide +kernel
theorem dX11_countOfUser_46 : decode cX11_countOfUser 46 = .ok (.getfield 201, 3) := by decide +kernel
theorem fX11_201 : h_fl RX11 201 10 3 RX10 TX10 6 := ⟨rfl, by decide, inX10, h_t2 139 rfl rfl⟩
theorem dX11_countOfUser_49 : decode cX11_countOfUser 49 = .ok (.ireturn, 1) := by decide +kernel
theorem dX11_countOfUser_50 : decode cX11_countOfUser 50 = .ok (.aload_n 0, 1) := by decide +kernel
theorem dX11_countOfUser_51 : decode cX11_countOfUser 51 = .ok (.getfield 27, 3) := by decide +kernel
theorem dX11_countOfUser_54 : decode cX11_countOfUser 54 = .ok (.iload_n 2, 1) := by decide +kernel
theorem dX11_countOfUser_55 : decode cX11_countOfUser 55 = .ok (.aaload, 1) := by decide +kernel
theorem dX11_countOfUser_56 : decode cX11_countOfUser 56 = .ok (.getfield 204, 3) := by decide +kernel
theorem fX11_204 : h_fl RX11 204 10 4 RX10 TX10 6 := ⟨rfl, by decide, inX10, h_t2 141 rfl rfl⟩
theorem dX11_countOfUser_59 : decode cX11_countOfUser 59 = .ok (.ireturn, 1) := by decide +kernel
theorem dX11_countOfUser_60 : decode cX11_countOfUser 60 = .ok (.aload_n 0, 1) := by decide +kernel
theorem dX11_countOfUser_61 : decode cX11_countOfUser 61 = .ok (.getfield 27, 3) := by decide +kernel
theorem dX11_countOfUser_64 : decode cX11_countOfUser 64 = .ok (.iload_n 2, 1) := by decide +kernel
theorem dX11_countOfUser_65 : decode cX11_countOfUser 65 = .ok (.aaload, 1) := by decide +kernel
theorem dX11_countOfUser_66 : decode cX11_countOfUser 66 = .ok (.getfield 176, 3) := by decide +kernel
theorem dX11_countOfUser_69 : decode cX11_countOfUser 69 = .ok (.getfield 207, 3) := by decide +kernel
theorem dX11_countOfUser_72 : decode cX11_countOfUser 72 = .ok (.ireturn, 1) := by decide +kernel
theorem dX11_countOfUser_73 : decode cX11_countOfUser 73 = .ok (.iconst (-1), 1) := by decide +kernel
theorem dX11_countOfUser_74 : decode cX11_countOfUser 74 = .ok (.ireturn, 1) := by decide +kernel
abbrev mX11_count : hM := (yX11_count, cX11_count, 2, (some (.int)))
theorem dX11_count_0 : decode cX11_count 0 = .ok (.iload_n 1, 1) := by decide +kernel
theorem dX11_count_1 : decode cX11_count 1 = .ok (.tableswitch 106 0 7 #[47, 52, 57, 62, 67, 72, 77, 90], 47) := by decide +kernel
theorem dX11_count_48 : decode cX11_count 48 = .ok (.aload_n 0, 1) := by decide +kernel
theorem dX11_count_49 : decode cX11_count 49 = .ok (.getfield 150, 3) := by decide +kernel
theorem dX11_count_52 : decode cX11_count 52 = .ok (.ireturn, 1) := by decide +kernel
theorem dX11_count_53 : decode cX11_count 53 = .ok (.aload_n 0, 1) := by decide +kernel
theorem dX11_count_54 : decode cX11_count 54 = .ok (.getfield 191, 3) := by decide +kernel
theorem fX11_191 : h_fl RX11 191 11 11 RX11 TX11 17 := ⟨rfl, by decide, inX11, h_t3 90 rfl rfl⟩
theorem dX11_count_57 : decode cX11_count 57 = .ok (.ireturn, 1) := by decide +kernel
theorem dX11_count_58 : decode cX11_count 58 = .ok (.aload_n 0, 1) := by decide +kernel
theorem dX11_count_59 : decode cX11_count 59 = .ok (.getfield 194, 3) := by decide +kernel
theorem fX11_194 : h_fl RX11 194 11 12 RX11 TX11 17 := ⟨rfl, by decide, inX11, h_t3 91 rfl rfl⟩
theorem dX11_count_62 : decode cX11_count 62 = .ok (.ireturn, 1) := by decide +kernel
theorem dX11_count_63 : decode cX11_count 63 = .ok (.aload_n 0, 1) := by decide +kernel
theorem dX11_count_64 : decode cX11_count 64 = .ok (.getfield 137, 3) := by decide +kernel
theorem dX11_count_67 : decode cX11_count 67 = .ok (.ireturn, 1) := by decide +kernel
theorem dX11_count_68 : decode cX11_count 68 = .ok (.aload_n 0, 1) := by decide +kernel
theorem dX11_count_69 : decode cX11_count 69 = .ok (.getfield 143, 3) := by decide +kernel
theorem dX11_count_72 : decode cX11_count 72 = .ok (.ireturn, 1) := by decide +kernel
theorem dX11_count_73 : decode cX11_count 73 = .ok (.aload_n 0, 1) := by decide +kernel
theorem dX11_count_74 : decode cX11_count 74 = .ok (.getfield 88, 3) := by decide +kernel
theorem dX11_count_77 : decode cX11_count 77 = .ok (.ireturn, 1) := by decide +kernel
theorem dX11_count_78 : decode cX11_count 78 = .ok (.aload_n 0, 1) := by decide +kernel
theorem dX11_count_79 : decode cX11_count 79 = .ok (.getfield 44, 3) := by decide +kernel
theorem dX11_count_82 : decode cX11_count 82 = .ok (.ifCond .eq 7, 3) := by decide +kernel
theorem dX11_count_85 : decode cX11_count 85 = .ok (.iconst 1, 1) := by decide +kernel
theorem dX11_count_86 : decode cX11_count 86 = .ok (.goto 4, 3) := by decide +kernel
theorem dX11_count_89 : decode cX11_count 89 = .ok (.iconst 0, 1) := by decide +kernel
theorem dX11_count_90 : decode cX11_count 90 = .ok (.ireturn, 1) := by decide +kernel
theorem dX11_count_91 : decode cX11_count 91 = .ok (.aload_n 0, 1) := by decide +kernel
theorem dX11_count_92 : decode cX11_count 92 = .ok (.getfield 56, 3) := by decide +kernel
theorem dX11_count_95 : decode cX11_count 95 = .ok (.getfield 99, 3) := by decide +kernel
theorem fX11_99 : h_fl RX11 99 0 4 RX0 TX0 12 := ⟨rfl, by decide, inX0, h_t2 178 rfl rfl⟩
theorem dX11_count_98 : decode cX11_count 98 = .ok (.ifCond .eq 7, 3) := by decide +kernel
theorem dX11_count_101 : decode cX11_count 101 = .ok (.iconst 1, 1) := by decide +kernel
theorem dX11_count_102 : decode cX11_count 102 = .ok (.goto 4, 3) := by decide +kernel
theorem dX11_count_105 : decode cX11_count 105 = .ok (.iconst 0, 1) := by decide +kernel
theorem dX11_count_106 : decode cX11_count 106 = .ok (.ireturn, 1) := by decide +kernel
theorem dX11_count_107 : decode cX11_count 107 = .ok (.aload_n 0, 1) := by decide +kernel
theorem dX11_count_108 : decode cX11_count 108 = .ok (.iload_n 1, 1) := by decide +kernel
theorem dX11_count_109 : decode cX11_count 109 = .ok (.bipush 10, 2) := by decide +kernel
theorem dX11_count_111 : decode cX11_count 111 = .ok (.idiv, 1) := by decide +kernel
theorem dX11_count_112 : decode cX11_count 112 = .ok (.iload_n 1, 1) := by decide +kernel
theorem dX11_count_113 : decode cX11_count 113 = .ok (.bipush 10, 2) := by decide +kernel
theorem dX11_count_115 : decode cX11_count 115 = .ok (.irem, 1) := by decide +kernel
theorem dX11_count_116 : decode cX11_count 116 = .ok (.invokevirtual 197, 3) := by decide +kernel
theorem kX11_countOfUser : h_ml mX11_countOfUser 2 := ⟨h_t7 198 rfl rfl, h_t1 1 rfl rfl, ⟨by decide, by decide, by decide +kernel⟩, by decide⟩
theorem sX11_countOfUser : Cond.instanceMethod mX11_countOfUser.1 ∈ lw_g ∧ Cond.selects mX11_countOfUser.1.cls mX11_countOfUser.1 mX11_countOfUser.1 ∈ lw_g := ⟨h_t7 197 rfl rfl, h_ins 98 rfl⟩
theorem lX11_197 : Cond.methodLink RX11 197 mX11_countOfUser.1 ∈ lw_g := h_t7 195 rfl rfl
theorem dX11_count_119 : decode cX11_count 119 = .ok (.ireturn, 1) := by decide +kernel
set_option maxRecDepth 100000 in
set_option maxHeartbeats 4000000 in
/-- bytes -/
theorem ct_bytes {l : Launch} {D : va_G} {A : Nat → ClassId} {B : Nat} {Z : State → Heap → Prop} (hZ : h_st B Z) {d : Nat} {σ : hS} {a n0 : Nat} {ts mc oc mb dy cm ci : Nat} {pw : Int32} (ha : σ.1 a = some (smO n0 ts mc oc mb dy cm ci pw)) {ea lb tx : Nat → Nat} {eu eb ef ed : Nat → Int32} (hm : mlAt A σ n0 mc ea lb tx eu eb ef ed) {tl : Nat → Nat} {tf : Nat → Nat → Int32} (ht : mtAt A σ mc tx tl tf) (hd1 : 1 ≤ d) {n i : Int32} : Ct l D (h_ty A) B Z d mX11_bytes σ [.ref a, .int n, .int i] (fun σ1 v => σ1 = σ ∧ ((∃ k j : Nat, k < mc ∧ j < 2 ^ 31 ∧ n = nI k ∧ i = nI j ∧ v = some (.long (e8 (by8 (tf k) j (tl k)) 8))) ∨ ¬ (∃ k j : Nat, k < mc ∧ j < 2 ^ 31 ∧ n = nI k ∧ i = nI j) ∧ v = some (.long (-1)))) := by
  refine ct_of rfl hZ (Nat.le_of_ble_eq_true rfl) ?_
  show G _ _ _ _ _ _ _ _ _ _ 0 [(0, .ref a), (1, .int n), (2, .int i)] []
  refine g_iload_n dX11_bytes_0 rfl (List.mem_of_getElem? (i := 1) rfl) ?_
  refine g_if_lt (tgt := 16) dX11_bytes_1 (by decide) (fun c1 => ?_) (fun c1 => ?_)
  · have c1 := c1
    refine g_ldc2 cX11_167 dX11_bytes_16 ?_
    exact g_lret rfl dX11_bytes_19 (⟨rfl, Or.inr ⟨fun ⟨k, j, h1, h2, h3, h4⟩ => by subst h3; exact nI_pos (by have := hm.1; omega) c1, rfl⟩⟩)
  · have c1 := c1
    refine g_iload_n dX11_bytes_4 rfl (List.mem_of_getElem? (i := 1) rfl) ?_
    refine g_aload_n dX11_bytes_5 rfl (List.mem_of_getElem? (i := 0) rfl) ?_
    refine g_get fX11_150 ha (v := .int (nI mc)) rfl dX11_bytes_6 ?_
    refine g_icmp_ge (tgt := 16) dX11_bytes_9 (by decide) (fun c9 => ?_) (fun c9 => ?_)
    · have c9 := c9
      refine g_ldc2 cX11_167 dX11_bytes_16 ?_
      exact g_lret rfl dX11_bytes_19 (⟨rfl, Or.inr ⟨fun ⟨k, j, h1, h2, h3, h4⟩ => by subst h3; have := (nI_leI (a := mc) (b := k) (by have := hm.1; omega) (by have := hm.1; omega)).mp c9; omega, rfl⟩⟩)
    · obtain ⟨k, hk2, rfl⟩ := nI_of c1
      have hk : k < mc := Nat.lt_of_not_le fun h => c9 ((nI_leI (a := mc) (b := k) (by have := hm.1; omega) hk2).mpr h)
      refine g_iload_n dX11_bytes_12 rfl (List.mem_of_getElem? (i := 2) rfl) ?_
      refine g_if_ge (tgt := 20) dX11_bytes_13 (by decide) (fun c13 => ?_) (fun c13 => ?_)
      · obtain ⟨hmc, g, hgm, hg⟩ := id hm
        obtain ⟨j, hj, rfl⟩ := nI_of (Int32.not_lt.mpr c13)
        have htl := (ht k hk).2
        refine g_aload_n dX11_bytes_20 rfl (List.mem_of_getElem? (i := 0) rfl) ?_
        refine g_get fX11_33 ha (v := .ref (n0 + 4)) rfl dX11_bytes_21 ?_
        refine g_iload_n dX11_bytes_24 rfl (List.mem_of_getElem? (i := 1) rfl) ?_
        refine g_aald (t0 := 7) rfl hgm (vp_in_nI (by omega) (by decide)) dX11_bytes_25 ?_
        refine g_eqv (.ref (ea k)) (by rw [nI_clamp (by omega), (hg k hk).1]; rfl) ?_
        refine g_get fX11_161 (hg k hk).2 (v := .ref (tx k)) rfl dX11_bytes_26 ?_
        refine g_astore_n dX11_bytes_29 rfl (by decide) rfl ?_
        refine g_aload_n dX11_bytes_30 rfl (List.mem_of_getElem? (i := 0) rfl) ?_
        refine g_iload_n dX11_bytes_31 rfl (List.mem_of_getElem? (i := 3) rfl) ?_
        refine g_aload_n dX11_bytes_32 rfl (List.mem_of_getElem? (i := 0) rfl) ?_
        refine g_aleni (t0 := 1) rfl (ht k hk).1 dX11_bytes_33 ?_
        refine g_cs (d1 := 0) (As := [.ref (tx k), .int (nI j), .int (nI (tl k))]) (st := []) (ct_e8 hZ (ht k hk).1 (by omega) (by omega) (by omega)) kX11_eightBytes lX11_169 sX11_eightBytes (by omega) (Nat.le_of_ble_eq_true rfl) dX11_bytes_34 (fun τ34 v34 h34 z34 => ?_)
        obtain ⟨rfl, rfl⟩ := h34
        obtain ⟨r34, hr34⟩ : ∃ r, r = e8 (by8 (tf k) j (tl k)) 8 := ⟨_, rfl⟩
        rw [← hr34]
        show G _ _ _ _ _ _ _ _ _ _ 37 [(3, .ref (tx k)), (0, .ref a), (1, .int (nI k)), (2, .int (nI j))] [.long r34]
        exact g_lret rfl dX11_bytes_37 (⟨rfl, Or.inl ⟨k, j, hk, hj, rfl, rfl, by rw [hr34]⟩⟩)
      · have c13 := c13
        refine g_ldc2 cX11_167 dX11_bytes_16 ?_
        exact g_lret rfl dX11_bytes_19 (⟨rfl, Or.inr ⟨fun ⟨k, j, h1, h2, h3, h4⟩ => by subst h4; exact c13 (nI_pos' h2), rfl⟩⟩)
set_option maxRecDepth 100000 in
set_option maxHeartbeats 4000000 in
/-- countOfUser -/
theorem ct_cou {l : Launch} {D : va_G} {A : Nat → ClassId} {B : Nat} {Z : State → Heap → Prop} (hZ : h_st B Z) {d : Nat} {σ : hS} {a n0 : Nat} {ts mc oc mb dy cm ci : Nat} {pw : Int32} (ha : σ.1 a = some (smO n0 ts mc oc mb dy cm ci pw)) {sc nc bx : Nat → Nat} {ac : Nat → Value} (hu : usAt A σ n0 sc nc bx ac) {g u : Int32} : Ct l D (h_ty A) B Z d mX11_countOfUser σ [.ref a, .int g, .int u] (fun σ1 v => σ1 = σ ∧ ((∃ w : Nat, w < 4 ∧ u = nI w ∧ (g = nI 1 ∧ v = some (.int (nI (sc w))) ∨ g = nI 2 ∧ v = some (.int (nI (nc w))) ∨ g = nI 3 ∧ v = some (.int (nI (bx w))))) ∨ ¬ (∃ w : Nat, w < 4 ∧ u = nI w ∧ (g = nI 1 ∨ g = nI 2 ∨ g = nI 3)) ∧ v = some (.int (-1)))) := by
  refine ct_of rfl hZ (Nat.le_of_ble_eq_true rfl) ?_
  show G _ _ _ _ _ _ _ _ _ _ 0 [(0, .ref a), (1, .int g), (2, .int u)] []
  refine g_iload_n dX11_countOfUser_0 rfl (List.mem_of_getElem? (i := 2) rfl) ?_
  refine g_if_lt (tgt := 9) dX11_countOfUser_1 (by decide) (fun c1 => ?_) (fun c1 => ?_)
  · have c1 := c1
    refine g_iconst (v := -1) dX11_countOfUser_9 (by decide) ?_
    exact g_iret rfl dX11_countOfUser_10 (⟨rfl, Or.inr ⟨fun ⟨u1, h1, h2, h3⟩ => nI_pos (n := u1) (by omega) (h2 ▸ c1), rfl⟩⟩)
  · have c1 := c1
    refine g_iload_n dX11_countOfUser_4 rfl (List.mem_of_getElem? (i := 2) rfl) ?_
    refine g_iconst (v := 4) dX11_countOfUser_5 (by decide) ?_
    refine g_icmp_lt (tgt := 11) dX11_countOfUser_6 (by decide) (fun c6 => ?_) (fun c6 => ?_)
    · obtain ⟨u', hu', rfl⟩ : ∃ j : Nat, j < 4 ∧ u = nI j := by
        obtain ⟨j, hj, rfl⟩ := nI_of c1
        exact ⟨j, (nI_ltI (a := j) (b := 4) hj (by decide)).mp c6, rfl⟩
      obtain ⟨hbx, -, -, hu1, be, us, hu2⟩ := hu.2 u' hu'
      refine g_iload_n dX11_countOfUser_11 rfl (List.mem_of_getElem? (i := 1) rfl) ?_
      rcases sw_n g 3 (by decide) with ⟨j12, hj12, rfl⟩ | hout12
      · rcases (show j12 = 0 ∨ j12 = 1 ∨ j12 = 2 ∨ j12 = 3 by omega) with rfl | rfl | rfl | rfl
        · refine g_tableOut (tgt := 73) dX11_countOfUser_12 (by decide) (by decide) ?_
          refine g_iconst (v := -1) dX11_countOfUser_73 (by decide) ?_
          exact g_iret rfl dX11_countOfUser_74 (⟨rfl, Or.inr ⟨fun ⟨u1, h1, h2, h3⟩ => by rcases h3 with h | h | h <;> exact absurd h (by decide), rfl⟩⟩)
        · refine g_tableIn (tgt := 40) (off := 28) dX11_countOfUser_12 (by decide) (by decide) rfl (by decide) ?_
          refine g_aload_n dX11_countOfUser_40 rfl (List.mem_of_getElem? (i := 0) rfl) ?_
          refine g_get fX11_27 ha (v := .ref (n0 + 3)) rfl dX11_countOfUser_41 ?_
          refine g_iload_n dX11_countOfUser_44 rfl (List.mem_of_getElem? (i := 2) rfl) ?_
          refine g_aald (t0 := 6) rfl hu.1 (vp_in_nI hu' (by decide)) dX11_countOfUser_45 ?_
          refine g_eqv (.ref (n0 + 984 + 16 * u')) (usF_in hu') ?_
          refine g_get fX11_201 hu1 (v := .int (nI (sc u'))) rfl dX11_countOfUser_46 ?_
          exact g_iret rfl dX11_countOfUser_49 (⟨rfl, Or.inl ⟨u', hu', rfl, Or.inl ⟨rfl, rfl⟩⟩⟩)
        · refine g_tableIn (tgt := 50) (off := 38) dX11_countOfUser_12 (by decide) (by decide) rfl (by decide) ?_
          refine g_aload_n dX11_countOfUser_50 rfl (List.mem_of_getElem? (i := 0) rfl) ?_
          refine g_get fX11_27 ha (v := .ref (n0 + 3)) rfl dX11_countOfUser_51 ?_
          refine g_iload_n dX11_countOfUser_54 rfl (List.mem_of_getElem? (i := 2) rfl) ?_
          refine g_aald (t0 := 6) rfl hu.1 (vp_in_nI hu' (by decide)) dX11_countOfUser_55 ?_
          refine g_eqv (.ref (n0 + 984 + 16 * u')) (usF_in hu') ?_
          refine g_get fX11_204 hu1 (v := .int (nI (nc u'))) rfl dX11_countOfUser_56 ?_
          exact g_iret rfl dX11_countOfUser_59 (⟨rfl, Or.inl ⟨u', hu', rfl, Or.inr (Or.inl ⟨rfl, rfl⟩)⟩⟩)
        · refine g_tableIn (tgt := 60) (off := 48) dX11_countOfUser_12 (by decide) (by decide) rfl (by decide) ?_
          refine g_aload_n dX11_countOfUser_60 rfl (List.mem_of_getElem? (i := 0) rfl) ?_
          refine g_get fX11_27 ha (v := .ref (n0 + 3)) rfl dX11_countOfUser_61 ?_
          refine g_iload_n dX11_countOfUser_64 rfl (List.mem_of_getElem? (i := 2) rfl) ?_
          refine g_aald (t0 := 6) rfl hu.1 (vp_in_nI hu' (by decide)) dX11_countOfUser_65 ?_
          refine g_eqv (.ref (n0 + 984 + 16 * u')) (usF_in hu') ?_
          refine g_get fX11_176 hu1 (v := .ref (n0 + 987 + 16 * u')) rfl dX11_countOfUser_66 ?_
          refine g_get fX11_207 hu2 (v := .int (nI (bx u'))) rfl dX11_countOfUser_69 ?_
          exact g_iret rfl dX11_countOfUser_72 (⟨rfl, Or.inl ⟨u', hu', rfl, Or.inr (Or.inr ⟨rfl, rfl⟩)⟩⟩)
      · refine g_tableOut (tgt := 73) dX11_countOfUser_12 (by omega) (by decide) ?_
        refine g_iconst (v := -1) dX11_countOfUser_73 (by decide) ?_
        exact g_iret rfl dX11_countOfUser_74 (⟨rfl, Or.inr ⟨fun ⟨u1, h1, h2, h3⟩ => by rcases h3 with h | h | h <;> (rw [h] at hout12; revert hout12; decide), rfl⟩⟩)
    · have c6 := c6
      refine g_iconst (v := -1) dX11_countOfUser_9 (by decide) ?_
      exact g_iret rfl dX11_countOfUser_10 (⟨rfl, Or.inr ⟨fun ⟨u1, h1, h2, h3⟩ => c6 (by subst h2; exact (nI_ltI (a := u1) (b := 4) (by omega) (by decide)).mpr h1), rfl⟩⟩)
theorem sw_ne {w : Int32} {n : Nat} (hn : n < 2 ^ 30) (h : w.toInt < 0 ∨ (n : Int) < w.toInt) : ∀ j : Nat, j ≤ n → w ≠ nI j := by
  intro j hj e
  subst e
  rw [nI_toInt (by omega)] at h
  omega
theorem cw_div (w : Int32) : ∀ k : Nat, 1 ≤ k → k ≤ 3 → ∀ u : Nat, u < 4 → (w / 10 = nI k ∧ w - w / 10 * 10 = nI u ↔ w = nI (10 * k + u)) := by
  intro k hk1 hk3 u hu
  constructor
  · intro ⟨h1, h2⟩
    rw [h1] at h2
    have h3 : w = nI k * 10 + nI u := by rw [← h2]; rw [Int32.add_comm, Int32.sub_add_cancel]
    rw [h3]
    show nI k * nI 10 + nI u = _
    rw [pk_mul, nI_add, Nat.mul_comm]
  · intro h
    subst h
    have h1 : nI (10 * k + u) / 10 = nI k := by
      show nI (10 * k + u) / nI 10 = _
      rw [pk_div (by omega) (by decide) (by decide), show (10 * k + u) / 10 = k by omega]
    refine ⟨h1, ?_⟩
    show nI (10 * k + u) - nI (10 * k + u) / nI 10 * nI 10 = _
    rw [pk_rem (by omega) (by decide) (by decide), show (10 * k + u) % 10 = u by omega]
/-- the session of delivery, its numbers -/
abbrev dlO (n0 : Nat) (txs io lz ste acr gre big : Int32) : va_E := .inr (0, [.ref (n0 + 1042), .ref (n0 + 1046), .ref (n0 + 1050), .int txs, .int io, .ref (n0 + 1039), .ref (n0 + 1051), .int lz, .int ste, .int acr, .int gre, .int big])
def cU (sc nc bx : Nat → Nat) (k u : Nat) : Int32 := if k = 1 then nI (sc u) else if k = 2 then nI (nc u) else nI (bx u)
theorem cou_of {sc nc bx : Nat → Nat} {w : Int32} {v : Option Value} (h : (∃ w1 : Nat, w1 < 4 ∧ w - w / 10 * 10 = nI w1 ∧ (w / 10 = nI 1 ∧ v = some (.int (nI (sc w1))) ∨ w / 10 = nI 2 ∧ v = some (.int (nI (nc w1))) ∨ w / 10 = nI 3 ∧ v = some (.int (nI (bx w1))))) ∨ ¬ (∃ w1 : Nat, w1 < 4 ∧ w - w / 10 * 10 = nI w1 ∧ (w / 10 = nI 1 ∨ w / 10 = nI 2 ∨ w / 10 = nI 3)) ∧ v = some (.int (-1))) : ∃ r : Int32, v = some (.int r) ∧ ((∃ k u : Nat, 1 ≤ k ∧ k ≤ 3 ∧ u < 4 ∧ w = nI (10 * k + u) ∧ r = cU sc nc bx k u) ∨ ¬ (∃ k u : Nat, 1 ≤ k ∧ k ≤ 3 ∧ u < 4 ∧ w = nI (10 * k + u)) ∧ r = -1) := by
  rcases h with ⟨u, hu, h1, h2⟩ | ⟨h1, h2⟩
  · rcases h2 with ⟨h2, h3⟩ | ⟨h2, h3⟩ | ⟨h2, h3⟩
    · exact ⟨_, h3, Or.inl ⟨1, u, by decide, by decide, hu, (cw_div w 1 (by decide) (by decide) u hu).mp ⟨h2, h1⟩, rfl⟩⟩
    · exact ⟨_, h3, Or.inl ⟨2, u, by decide, by decide, hu, (cw_div w 2 (by decide) (by decide) u hu).mp ⟨h2, h1⟩, rfl⟩⟩
    · exact ⟨_, h3, Or.inl ⟨3, u, by decide, by decide, hu, (cw_div w 3 (by decide) (by decide) u hu).mp ⟨h2, h1⟩, rfl⟩⟩
  · refine ⟨_, h2, Or.inr ⟨fun ⟨k, u, k1, k3, hu, hw⟩ => h1 ⟨u, hu, ((cw_div w k k1 k3 u hu).mpr hw).2, ?_⟩, rfl⟩⟩
    have := ((cw_div w k k1 k3 u hu).mpr hw).1
    rcases (show k = 1 ∨ k = 2 ∨ k = 3 by omega) with rfl | rfl | rfl
    · exact Or.inl this
    · exact Or.inr (Or.inl this)
    · exact Or.inr (Or.inr this)
set_option maxRecDepth 100000 in
set_option maxHeartbeats 4000000 in
/-- count -/
theorem ct_count {l : Launch} {D : va_G} {A : Nat → ClassId} {B : Nat} {Z : State → Heap → Prop} (hZ : h_st B Z) {d : Nat} {σ : hS} {a n0 : Nat} {ts mc oc mb dy cm ci : Nat} {pw : Int32} (ha : σ.1 a = some (smO n0 ts mc oc mb dy cm ci pw)) {sc nc bx : Nat → Nat} {ac : Nat → Value} (hu : usAt A σ n0 sc nc bx ac) {txs io lz ste acr gre big : Int32} (hdl : σ.1 (n0 + 1041) = some (dlO n0 txs io lz ste acr gre big)) (hd1 : 1 ≤ d) {w : Int32} : Ct l D (h_ty A) B Z d mX11_count σ [.ref a, .int w] (fun σ1 v => σ1 = σ ∧ ((∃ j : Nat, j ≤ 7 ∧ w = nI j ∧ v = some (.int (match j with | 0 => nI mc | 1 => nI oc | 2 => nI mb | 3 => nI dy | 4 => nI cm | 5 => nI ts | 6 => (if pw = 0 then 0 else 1) | _ => (if io = 0 then 0 else 1)))) ∨ (∀ j : Nat, j ≤ 7 → w ≠ nI j) ∧ ∃ r : Int32, v = some (.int r) ∧ ((∃ k u : Nat, 1 ≤ k ∧ k ≤ 3 ∧ u < 4 ∧ w = nI (10 * k + u) ∧ r = cU sc nc bx k u) ∨ ¬ (∃ k u : Nat, 1 ≤ k ∧ k ≤ 3 ∧ u < 4 ∧ w = nI (10 * k + u)) ∧ r = -1))) := by
  refine ct_of rfl hZ (Nat.le_of_ble_eq_true rfl) ?_
  show G _ _ _ _ _ _ _ _ _ _ 0 [(0, .ref a), (1, .int w)] []
  refine g_iload_n dX11_count_0 rfl (List.mem_of_getElem? (i := 1) rfl) ?_
  rcases sw_n w 7 (by decide) with ⟨j1, hj1, rfl⟩ | hout1
  · rcases (show j1 = 0 ∨ j1 = 1 ∨ j1 = 2 ∨ j1 = 3 ∨ j1 = 4 ∨ j1 = 5 ∨ j1 = 6 ∨ j1 = 7 by omega) with rfl | rfl | rfl | rfl | rfl | rfl | rfl | rfl
    · refine g_tableIn (tgt := 48) (off := 47) dX11_count_1 (by decide) (by decide) rfl (by decide) ?_
      refine g_aload_n dX11_count_48 rfl (List.mem_of_getElem? (i := 0) rfl) ?_
      refine g_get fX11_150 ha (v := .int (nI mc)) rfl dX11_count_49 ?_
      exact g_iret rfl dX11_count_52 (⟨rfl, Or.inl ⟨0, by decide, rfl, rfl⟩⟩)
    · refine g_tableIn (tgt := 53) (off := 52) dX11_count_1 (by decide) (by decide) rfl (by decide) ?_
      refine g_aload_n dX11_count_53 rfl (List.mem_of_getElem? (i := 0) rfl) ?_
      refine g_get fX11_191 ha (v := .int (nI oc)) rfl dX11_count_54 ?_
      exact g_iret rfl dX11_count_57 (⟨rfl, Or.inl ⟨1, by decide, rfl, rfl⟩⟩)
    · refine g_tableIn (tgt := 58) (off := 57) dX11_count_1 (by decide) (by decide) rfl (by decide) ?_
      refine g_aload_n dX11_count_58 rfl (List.mem_of_getElem? (i := 0) rfl) ?_
      refine g_get fX11_194 ha (v := .int (nI mb)) rfl dX11_count_59 ?_
      exact g_iret rfl dX11_count_62 (⟨rfl, Or.inl ⟨2, by decide, rfl, rfl⟩⟩)
    · refine g_tableIn (tgt := 63) (off := 62) dX11_count_1 (by decide) (by decide) rfl (by decide) ?_
      refine g_aload_n dX11_count_63 rfl (List.mem_of_getElem? (i := 0) rfl) ?_
      refine g_get fX11_137 ha (v := .int (nI dy)) rfl dX11_count_64 ?_
      exact g_iret rfl dX11_count_67 (⟨rfl, Or.inl ⟨3, by decide, rfl, rfl⟩⟩)
    · refine g_tableIn (tgt := 68) (off := 67) dX11_count_1 (by decide) (by decide) rfl (by decide) ?_
      refine g_aload_n dX11_count_68 rfl (List.mem_of_getElem? (i := 0) rfl) ?_
      refine g_get fX11_143 ha (v := .int (nI cm)) rfl dX11_count_69 ?_
      exact g_iret rfl dX11_count_72 (⟨rfl, Or.inl ⟨4, by decide, rfl, rfl⟩⟩)
    · refine g_tableIn (tgt := 73) (off := 72) dX11_count_1 (by decide) (by decide) rfl (by decide) ?_
      refine g_aload_n dX11_count_73 rfl (List.mem_of_getElem? (i := 0) rfl) ?_
      refine g_get fX11_88 ha (v := .int (nI ts)) rfl dX11_count_74 ?_
      exact g_iret rfl dX11_count_77 (⟨rfl, Or.inl ⟨5, by decide, rfl, rfl⟩⟩)
    · refine g_tableIn (tgt := 78) (off := 77) dX11_count_1 (by decide) (by decide) rfl (by decide) ?_
      refine g_aload_n dX11_count_78 rfl (List.mem_of_getElem? (i := 0) rfl) ?_
      refine g_get fX11_44 ha (v := .int pw) rfl dX11_count_79 ?_
      refine g_if_eq (tgt := 89) dX11_count_82 (by decide) (fun c82 => ?_) (fun c82 => ?_)
      · have c82 := c82
        refine g_iconst (v := 0) dX11_count_89 (by decide) ?_
        exact g_iret rfl dX11_count_90 (⟨rfl, Or.inl ⟨6, by decide, rfl, by show _ = some (Value.int (if _ = 0 then 0 else 1)); rw [if_pos c82]⟩⟩)
      · have c82 := c82
        refine g_iconst (v := 1) dX11_count_85 (by decide) ?_
        refine g_goto (tgt := 90) dX11_count_86 (by decide) ?_
        exact g_iret rfl dX11_count_90 (⟨rfl, Or.inl ⟨6, by decide, rfl, by show _ = some (Value.int (if _ = 0 then 0 else 1)); rw [if_neg c82]⟩⟩)
    · refine g_tableIn (tgt := 91) (off := 90) dX11_count_1 (by decide) (by decide) rfl (by decide) ?_
      refine g_aload_n dX11_count_91 rfl (List.mem_of_getElem? (i := 0) rfl) ?_
      refine g_get fX11_56 ha (v := .ref (n0 + 1041)) rfl dX11_count_92 ?_
      refine g_get fX11_99 hdl (v := .int io) rfl dX11_count_95 ?_
      refine g_if_eq (tgt := 105) dX11_count_98 (by decide) (fun c98 => ?_) (fun c98 => ?_)
      · have c98 := c98
        refine g_iconst (v := 0) dX11_count_105 (by decide) ?_
        exact g_iret rfl dX11_count_106 (⟨rfl, Or.inl ⟨7, by decide, rfl, by show _ = some (Value.int (if _ = 0 then 0 else 1)); rw [if_pos c98]⟩⟩)
      · have c98 := c98
        refine g_iconst (v := 1) dX11_count_101 (by decide) ?_
        refine g_goto (tgt := 106) dX11_count_102 (by decide) ?_
        exact g_iret rfl dX11_count_106 (⟨rfl, Or.inl ⟨7, by decide, rfl, by show _ = some (Value.int (if _ = 0 then 0 else 1)); rw [if_neg c98]⟩⟩)
  · refine g_tableOut (tgt := 107) dX11_count_1 (by omega) (by decide) ?_
    refine g_aload_n dX11_count_107 rfl (List.mem_of_getElem? (i := 0) rfl) ?_
    refine g_iload_n dX11_count_108 rfl (List.mem_of_getElem? (i := 1) rfl) ?_
    refine g_bipush (v := 10) dX11_count_109 (by decide) ?_
    refine g_idiv dX11_count_111 (by decide) ?_
    refine g_iload_n dX11_count_112 rfl (List.mem_of_getElem? (i := 1) rfl) ?_
    refine g_bipush (v := 10) dX11_count_113 (by decide) ?_
    refine g_irem dX11_count_115 (by decide) ?_
    refine g_cv (d1 := 0) (As := [.int (w / 10), .int (w - w / 10 * 10)]) (st := []) (ct_cou hZ ha hu (g := w / 10) (u := w - w / 10 * 10)) (h_rcO (r := (RX11, TX11, 17)) ha rfl) kX11_countOfUser lX11_197 sX11_countOfUser (by omega) (Nat.le_of_ble_eq_true rfl) dX11_count_116 (fun τ116 v116 h116 z116 => ?_)
    obtain ⟨rfl, h116⟩ := h116
    obtain ⟨r116, rfl, k116⟩ : ∃ r : Int32, v116 = some (.int r) ∧ ((∃ k u : Nat, 1 ≤ k ∧ k ≤ 3 ∧ u < 4 ∧ w = nI (10 * k + u) ∧ r = cU sc nc bx k u) ∨ ¬ (∃ k u : Nat, 1 ≤ k ∧ k ≤ 3 ∧ u < 4 ∧ w = nI (10 * k + u)) ∧ r = -1) := cou_of h116
    show G _ _ _ _ _ _ _ _ _ _ 119 [(0, .ref a), (1, .int w)] [.int r116]
    exact g_iret rfl dX11_count_119 (⟨rfl, Or.inr ⟨sw_ne (by decide) hout1, r116, rfl, k116⟩⟩)
