abbrev mX11_name : hM := (yX11_name, cX11_name, 6, (some (.long)))
theorem dX11_name_0 : decode cX11_name 0 = .ok (.iload_n 3, 1) := by decide +kernel
theorem dX11_name_1 : decode cX11_name 1 = .ok (.ifCond .ge 7, 3) := by decide +kernel
theorem dX11_name_4 : decode cX11_name 4 = .ok (.ldc2_w 167, 3) := by decide +kernel
theorem dX11_name_7 : decode cX11_name 7 = .ok (.lreturn, 1) := by decide +kernel
theorem dX11_name_8 : decode cX11_name 8 = .ok (.iload_n 1, 1) := by decide +kernel
theorem dX11_name_9 : decode cX11_name 9 = .ok (.iconst 4, 1) := by decide +kernel
theorem dX11_name_10 : decode cX11_name 10 = .ok (.if_icmp .ne 49, 3) := by decide +kernel
theorem dX11_name_13 : decode cX11_name 13 = .ok (.aload_n 0, 1) := by decide +kernel
theorem dX11_name_14 : decode cX11_name 14 = .ok (.iconst (-1), 1) := by decide +kernel
theorem dX11_name_15 : decode cX11_name 15 = .ok (.iconst 0, 1) := by decide +kernel
theorem dX11_name_16 : decode cX11_name 16 = .ok (.iload_n 2, 1) := by decide +kernel
theorem dX11_name_17 : decode cX11_name 17 = .ok (.invokevirtual 157, 3) := by decide +kernel
theorem dX11_name_20 : decode cX11_name 20 = .ok (.istore 4, 2) := by decide +kernel
theorem dX11_name_22 : decode cX11_name 22 = .ok (.iload 4, 2) := by decide +kernel
theorem dX11_name_24 : decode cX11_name 24 = .ok (.ifCond .ge 9, 3) := by decide +kernel
theorem dX11_name_27 : decode cX11_name 27 = .ok (.ldc2_w 167, 3) := by decide +kernel
theorem dX11_name_30 : decode cX11_name 30 = .ok (.goto 28, 3) := by decide +kernel
theorem dX11_name_33 : decode cX11_name 33 = .ok (.aload_n 0, 1) := by decide +kernel
theorem dX11_name_34 : decode cX11_name 34 = .ok (.getfield 33, 3) := by decide +kernel
theorem dX11_name_37 : decode cX11_name 37 = .ok (.iload 4, 2) := by decide +kernel
theorem dX11_name_39 : decode cX11_name 39 = .ok (.aaload, 1) := by decide +kernel
theorem dX11_name_40 : decode cX11_name 40 = .ok (.getfield 173, 3) := by decide +kernel
theorem fX11_173 : h_fl RX11 173 1 0 RX1 TX1 6 := ⟨rfl, by decide, inX1, h_t6 156 rfl rfl⟩
theorem dX11_name_43 : decode cX11_name 43 = .ok (.iload_n 3, 1) := by decide +kernel
theorem dX11_name_44 : decode cX11_name 44 = .ok (.aload_n 0, 1) := by decide +kernel
theorem dX11_name_45 : decode cX11_name 45 = .ok (.getfield 33, 3) := by decide +kernel
theorem dX11_name_48 : decode cX11_name 48 = .ok (.iload 4, 2) := by decide +kernel
theorem dX11_name_50 : decode cX11_name 50 = .ok (.aaload, 1) := by decide +kernel
theorem dX11_name_51 : decode cX11_name 51 = .ok (.getfield 173, 3) := by decide +kernel
theorem dX11_name_54 : decode cX11_name 54 = .ok (.arraylength, 1) := by decide +kernel
theorem dX11_name_55 : decode cX11_name 55 = .ok (.invokestatic 169, 3) := by decide +kernel
theorem dX11_name_58 : decode cX11_name 58 = .ok (.lreturn, 1) := by decide +kernel
theorem dX11_name_59 : decode cX11_name 59 = .ok (.aload_n 0, 1) := by decide +kernel
theorem dX11_name_60 : decode cX11_name 60 = .ok (.iload_n 1, 1) := by decide +kernel
theorem dX11_name_61 : decode cX11_name 61 = .ok (.iload_n 2, 1) := by decide +kernel
theorem dX11_name_62 : decode cX11_name 62 = .ok (.invokevirtual 146, 3) := by decide +kernel
theorem dX11_name_65 : decode cX11_name 65 = .ok (.ifCond .ne 7, 3) := by decide +kernel
theorem dX11_name_68 : decode cX11_name 68 = .ok (.ldc2_w 167, 3) := by decide +kernel
theorem dX11_name_71 : decode cX11_name 71 = .ok (.lreturn, 1) := by decide +kernel
theorem dX11_name_72 : decode cX11_name 72 = .ok (.aload_n 0, 1) := by decide +kernel
theorem dX11_name_73 : decode cX11_name 73 = .ok (.getfield 27, 3) := by decide +kernel
theorem dX11_name_76 : decode cX11_name 76 = .ok (.iload_n 1, 1) := by decide +kernel
theorem dX11_name_77 : decode cX11_name 77 = .ok (.aaload, 1) := by decide +kernel
theorem dX11_name_78 : decode cX11_name 78 = .ok (.getfield 176, 3) := by decide +kernel
theorem dX11_name_81 : decode cX11_name 81 = .ok (.astore 4, 2) := by decide +kernel
theorem dX11_name_83 : decode cX11_name 83 = .ok (.aload 4, 2) := by decide +kernel
theorem dX11_name_85 : decode cX11_name 85 = .ok (.getfield 179, 3) := by decide +kernel
theorem fX11_179 : h_fl RX11 179 9 2 RX9 TX9 6 := ⟨rfl, by decide, inX9, h_t1 77 rfl rfl⟩
theorem dX11_name_88 : decode cX11_name 88 = .ok (.iload_n 2, 1) := by decide +kernel
theorem dX11_name_89 : decode cX11_name 89 = .ok (.iaload, 1) := by decide +kernel
theorem dX11_name_90 : decode cX11_name 90 = .ok (.aload 4, 2) := by decide +kernel
theorem dX11_name_92 : decode cX11_name 92 = .ok (.getfield 185, 3) := by decide +kernel
theorem fX11_185 : h_fl RX11 185 9 1 RX9 TX9 6 := ⟨rfl, by decide, inX9, h_t1 69 rfl rfl⟩
theorem dX11_name_95 : decode cX11_name 95 = .ok (.iload_n 2, 1) := by decide +kernel
theorem dX11_name_96 : decode cX11_name 96 = .ok (.iaload, 1) := by decide +kernel
theorem dX11_name_97 : decode cX11_name 97 = .ok (.isub, 1) := by decide +kernel
theorem dX11_name_98 : decode cX11_name 98 = .ok (.istore 5, 2) := by decide +kernel
theorem dX11_name_100 : decode cX11_name 100 = .ok (.iload_n 3, 1) := by decide +kernel
theorem dX11_name_101 : decode cX11_name 101 = .ok (.iload 5, 2) := by decide +kernel
theorem dX11_name_103 : decode cX11_name 103 = .ok (.if_icmp .lt 7, 3) := by decide +kernel
theorem dX11_name_106 : decode cX11_name 106 = .ok (.lconst 0, 1) := by decide +kernel
theorem dX11_name_107 : decode cX11_name 107 = .ok (.goto 27, 3) := by decide +kernel
theorem dX11_name_110 : decode cX11_name 110 = .ok (.aload 4, 2) := by decide +kernel
theorem dX11_name_112 : decode cX11_name 112 = .ok (.getfield 188, 3) := by decide +kernel
theorem fX11_188 : h_fl RX11 188 9 0 RX9 TX9 6 := ⟨rfl, by decide, inX9, h_t1 61 rfl rfl⟩
theorem dX11_name_115 : decode cX11_name 115 = .ok (.aload 4, 2) := by decide +kernel
theorem dX11_name_117 : decode cX11_name 117 = .ok (.getfield 185, 3) := by decide +kernel
theorem dX11_name_120 : decode cX11_name 120 = .ok (.iload_n 2, 1) := by decide +kernel
theorem dX11_name_121 : decode cX11_name 121 = .ok (.iaload, 1) := by decide +kernel
theorem dX11_name_122 : decode cX11_name 122 = .ok (.iload_n 3, 1) := by decide +kernel
theorem dX11_name_123 : decode cX11_name 123 = .ok (.iadd, 1) := by decide +kernel
theorem dX11_name_124 : decode cX11_name 124 = .ok (.aload 4, 2) := by decide +kernel
theorem dX11_name_126 : decode cX11_name 126 = .ok (.getfield 179, 3) := by decide +kernel
theorem dX11_name_129 : decode cX11_name 129 = .ok (.iload_n 2, 1) := by decide +kernel
theorem dX11_name_130 : decode cX11_name 130 = .ok (.iaload, 1) := by decide +kernel
theorem dX11_name_131 : decode cX11_name 131 = .ok (.invokestatic 169, 3) := by decide +kernel
theorem dX11_name_134 : decode cX11_name 134 = .ok (.lreturn, 1) := by decide +kernel
/-- the labels of what is in the outbox -/
def olAt (A : Nat → ClassId) (σ : hS) (mc : Nat) (eu : Nat → Int32) (lb ll : Nat → Nat) (lf : Nat → Nat → Int32) : Prop := ∀ j : Nat, j < mc → eu j = -1 → σ.1 (lb j) = some (.inl (A 1, ll j, .inl (lf j))) ∧ ll j ≤ 10000
/-- the names of the mailboxes: user u's k-th is in the bytes bg u from bf u k to bt u k -/
def ubAt (A : Nat → ClassId) (σ : hS) (n0 : Nat) (bx : Nat → Nat) (bf bt : Nat → Nat → Nat) (bg : Nat → Nat → Int32) : Prop := ∀ u : Nat, u < 4 → σ.1 (n0 + 988 + 16 * u) = some (.inl (A 1, 120, .inl (bg u))) ∧ ∃ p q : Nat → Int32, σ.1 (n0 + 989 + 16 * u) = some (.inl (A 0, 6, .inl p)) ∧ σ.1 (n0 + 990 + 16 * u) = some (.inl (A 0, 6, .inl q)) ∧ ∀ k : Nat, k < bx u → p k = nI (bf u k) ∧ q k = nI (bt u k) ∧ bf u k ≤ bt u k ∧ bt u k ≤ 120
/-- eight bytes of a text that lies in f from a to b -/
def nm8 (f : Nat → Int32) (a b j : Nat) : Int64 := e8 (by8 (fun x => f (a + x)) j (b - a)) 8
theorem nm_s {f : Nat → Int32} {a b j : Nat} : e8 (by8 f (a + j) b) 8 = nm8 f a b j := by
  refine e8_cg 8 (fun x hx => ?_)
  show by8 f (a + j) b x = by8 (fun x => f (a + x)) j (b - a) x
  unfold by8
  by_cases h : a + j + x < b
  · rw [if_pos h, if_pos (by omega), Nat.add_assoc]
  · rw [if_neg h, if_neg (by omega)]
theorem nm_0 {f : Nat → Int32} {a b j : Nat} (h : a ≤ b) (h2 : b - a ≤ j) : nm8 f a b j = 0 := by
  unfold nm8
  rw [e8_cg (g' := fun _ => 0) 8 (fun x hx => by show by8 _ _ _ _ = 0; exact if_neg (by omega))]
  decide
set_option maxRecDepth 100000 in
set_option maxHeartbeats 4000000 in
/-- name -/
theorem ct_name {l : Launch} {D : va_G} {A : Nat → ClassId} {B : Nat} {Z : State → Heap → Prop} (hZ : h_st B Z) {d : Nat} {σ : hS} {a n0 : Nat} {ts mc oc mb dy cm ci : Nat} {pw : Int32} (ha : σ.1 a = some (smO n0 ts mc oc mb dy cm ci pw)) {sc nc bx : Nat → Nat} {ac : Nat → Value} (hu : usAt A σ n0 sc nc bx ac) {ea lb tx : Nat → Nat} {eu eb ef ed : Nat → Int32} (hm : mlAt A σ n0 mc ea lb tx eu eb ef ed) {ll : Nat → Nat} {lf : Nat → Nat → Int32} (hol : olAt A σ mc eu lb ll lf) {bf bt : Nat → Nat → Nat} {bg : Nat → Nat → Int32} (hub : ubAt A σ n0 bx bf bt bg) (hd1 : 2 ≤ d) {u b i : Int32} : Ct l D (h_ty A) B Z d mX11_name σ [.ref a, .int u, .int b, .int i] (fun σ1 v => σ1 = σ ∧ ((∃ j : Nat, j < 2 ^ 31 ∧ i = nI j ∧ (u = 4 ∧ (∃ k, k < mc ∧ (eu k = -1 ∧ eb k = 0) ∧ nI (cntM eu eb (-1) 0 k) = b ∧ v = some (.long (e8 (by8 (lf k) j (ll k)) 8))) ∨ ¬ u = 4 ∧ ∃ u' b' : Nat, u' < 4 ∧ b' < bx u' ∧ u = nI u' ∧ b = nI b' ∧ v = some (.long (nm8 (bg u') (bf u' b') (bt u' b') j)))) ∨ ¬ (∃ j : Nat, j < 2 ^ 31 ∧ i = nI j ∧ (u = 4 ∧ (∃ k, k < mc ∧ (eu k = -1 ∧ eb k = 0) ∧ nI (cntM eu eb (-1) 0 k) = b) ∨ ¬ u = 4 ∧ ∃ u' b' : Nat, u' < 4 ∧ b' < bx u' ∧ u = nI u' ∧ b = nI b')) ∧ v = some (.long (-1)))) := by
  refine ct_of rfl hZ (Nat.le_of_ble_eq_true rfl) ?_
  show G _ _ _ _ _ _ _ _ _ _ 0 [(0, .ref a), (1, .int u), (2, .int b), (3, .int i)] []
  refine g_iload_n dX11_name_0 rfl (List.mem_of_getElem? (i := 3) rfl) ?_
  refine g_if_ge (tgt := 8) dX11_name_1 (by decide) (fun c1 => ?_) (fun c1 => ?_)
  · obtain ⟨j, hj, rfl⟩ := nI_of (Int32.not_lt.mpr c1)
    refine g_iload_n dX11_name_8 rfl (List.mem_of_getElem? (i := 1) rfl) ?_
    refine g_iconst (v := 4) dX11_name_9 (by decide) ?_
    refine g_icmp_ne (tgt := 59) dX11_name_10 (by decide) (fun c10 => ?_) (fun c10 => ?_)
    · have c10 := c10
      refine g_aload_n dX11_name_59 rfl (List.mem_of_getElem? (i := 0) rfl) ?_
      refine g_iload_n dX11_name_60 rfl (List.mem_of_getElem? (i := 1) rfl) ?_
      refine g_iload_n dX11_name_61 rfl (List.mem_of_getElem? (i := 2) rfl) ?_
      refine g_cv (d1 := 0) (As := [.int u, .int b]) (st := []) (ct_hasBox hZ ha hu (u := u) (b := b)) (h_rcO (r := (RX11, TX11, 17)) ha rfl) kX11_hasBox lX11_146 sX11_hasBox (by omega) (Nat.le_of_ble_eq_true rfl) dX11_name_62 (fun τ62 v62 h62 z62 => ?_)
      obtain ⟨rfl, h62⟩ := h62
      obtain ⟨r62, rfl, k62⟩ : ∃ r : Int32, v62 = some (.int r) ∧ (r = 1 ∧ bxI bx u b ∨ r = 0 ∧ ¬ bxI bx u b) := by
        rcases h62 with ⟨h1, h2⟩ | ⟨h1, h2⟩
        · exact ⟨1, h1, Or.inl ⟨rfl, h2⟩⟩
        · exact ⟨0, h1, Or.inr ⟨rfl, h2⟩⟩
      show G _ _ _ _ _ _ _ _ _ _ 65 [(0, .ref a), (1, .int u), (2, .int b), (3, .int (nI j))] [.int r62]
      refine g_if_ne (tgt := 72) dX11_name_65 (by decide) (fun c65 => ?_) (fun c65 => ?_)
      · have hyes : bxI bx u b := by
          rcases k62 with ⟨h1, h2⟩ | ⟨h1, h2⟩
          · exact h2
          · exact absurd h1 c65
        obtain ⟨u', b', hu', hb', rfl, rfl⟩ := hyes
        obtain ⟨hbx, -, -, hu1, be, us, hu2⟩ := hu.2 u' hu'
        obtain ⟨hub1, p, q, hub2, hub3, hub4⟩ := hub u' hu'
        obtain ⟨hp, hq, hpq, hq1⟩ := hub4 b' hb'
        refine g_aload_n dX11_name_72 rfl (List.mem_of_getElem? (i := 0) rfl) ?_
        refine g_get fX11_27 ha (v := .ref (n0 + 3)) rfl dX11_name_73 ?_
        refine g_iload_n dX11_name_76 rfl (List.mem_of_getElem? (i := 1) rfl) ?_
        refine g_aald (t0 := 6) rfl hu.1 (vp_in_nI hu' (by decide)) dX11_name_77 ?_
        refine g_eqv (.ref (n0 + 984 + 16 * u')) (usF_in hu') ?_
        refine g_get fX11_176 hu1 (v := .ref (n0 + 987 + 16 * u')) rfl dX11_name_78 ?_
        refine g_astore dX11_name_81 (by decide) rfl ?_
        refine g_aload dX11_name_83 (List.mem_of_getElem? (i := 0) rfl) ?_
        refine g_get fX11_179 hu2 (v := .ref (n0 + 990 + 16 * u')) rfl dX11_name_85 ?_
        refine g_iload_n dX11_name_88 rfl (List.mem_of_getElem? (i := 3) rfl) ?_
        refine g_iald (t0 := 0) rfl hub3 (vp_in_nI (by omega) (by decide)) dX11_name_89 ?_
        refine g_eqi (nI (bt u' b')) (by rw [nI_clamp (by omega)]; exact hq) ?_
        refine g_aload dX11_name_90 (List.mem_of_getElem? (i := 0) rfl) ?_
        refine g_get fX11_185 hu2 (v := .ref (n0 + 989 + 16 * u')) rfl dX11_name_92 ?_
        refine g_iload_n dX11_name_95 rfl (List.mem_of_getElem? (i := 3) rfl) ?_
        refine g_iald (t0 := 0) rfl hub2 (vp_in_nI (by omega) (by decide)) dX11_name_96 ?_
        refine g_eqi (nI (bf u' b')) (by rw [nI_clamp (by omega)]; exact hp) ?_
        refine g_isub dX11_name_97 ?_
        refine g_eqi (nI (bt u' b' - bf u' b')) (pk_sub hpq) ?_
        refine g_istore dX11_name_98 (by decide) rfl ?_
        refine g_iload_n dX11_name_100 rfl (List.mem_of_getElem? (i := 5) rfl) ?_
        refine g_iload dX11_name_101 (List.mem_of_getElem? (i := 0) rfl) ?_
        refine g_icmp_lt (tgt := 110) dX11_name_103 (by decide) (fun c103 => ?_) (fun c103 => ?_)
        · have c103 : j < bt u' b' - bf u' b' := (nI_ltI (a := j) (b := bt u' b' - bf u' b') (by omega) (by omega)).mp c103
          refine g_aload dX11_name_110 (List.mem_of_getElem? (i := 1) rfl) ?_
          refine g_get fX11_188 hu2 (v := .ref (n0 + 988 + 16 * u')) rfl dX11_name_112 ?_
          refine g_aload dX11_name_115 (List.mem_of_getElem? (i := 1) rfl) ?_
          refine g_get fX11_185 hu2 (v := .ref (n0 + 989 + 16 * u')) rfl dX11_name_117 ?_
          refine g_iload_n dX11_name_120 rfl (List.mem_of_getElem? (i := 4) rfl) ?_
          refine g_iald (t0 := 0) rfl hub2 (vp_in_nI (by omega) (by decide)) dX11_name_121 ?_
          refine g_eqi (nI (bf u' b')) (by rw [nI_clamp (by omega)]; exact hp) ?_
          refine g_iload_n dX11_name_122 rfl (List.mem_of_getElem? (i := 5) rfl) ?_
          refine g_iadd dX11_name_123 ?_
          refine g_eqi (nI (bf u' b' + j)) (nI_add _ _) ?_
          refine g_aload dX11_name_124 (List.mem_of_getElem? (i := 1) rfl) ?_
          refine g_get fX11_179 hu2 (v := .ref (n0 + 990 + 16 * u')) rfl dX11_name_126 ?_
          refine g_iload_n dX11_name_129 rfl (List.mem_of_getElem? (i := 4) rfl) ?_
          refine g_iald (t0 := 0) rfl hub3 (vp_in_nI (by omega) (by decide)) dX11_name_130 ?_
          refine g_eqi (nI (bt u' b')) (by rw [nI_clamp (by omega)]; exact hq) ?_
          refine g_cs (d1 := 0) (As := [.ref (n0 + 988 + 16 * u'), .int (nI (bf u' b' + j)), .int (nI (bt u' b'))]) (st := []) (ct_e8 hZ hub1 (by omega) (by omega) (by omega)) kX11_eightBytes lX11_169 sX11_eightBytes (by omega) (Nat.le_of_ble_eq_true rfl) dX11_name_131 (fun τ131 v131 h131 z131 => ?_)
          obtain ⟨rfl, rfl⟩ := h131
          obtain ⟨r131, hr131⟩ : ∃ r, r = e8 (by8 (bg u') (bf u' b' + j) (bt u' b')) 8 := ⟨_, rfl⟩
          rw [← hr131]
          show G _ _ _ _ _ _ _ _ _ _ 134 [(5, .int (nI (bt u' b' - bf u' b'))), (4, .ref (n0 + 987 + 16 * u')), (0, .ref a), (1, .int (nI u')), (2, .int (nI b')), (3, .int (nI j))] [.long r131]
          exact g_lret rfl dX11_name_134 (⟨rfl, Or.inl ⟨j, hj, rfl, Or.inr ⟨c10, u', b', hu', hb', rfl, rfl, by rw [hr131, nm_s]⟩⟩⟩)
        · have c103 : bt u' b' - bf u' b' ≤ j := Nat.le_of_not_lt fun h => c103 ((nI_ltI (a := j) (b := bt u' b' - bf u' b') (by omega) (by omega)).mpr h)
          refine g_lconst (v := 0) dX11_name_106 (by decide) ?_
          refine g_goto (tgt := 134) dX11_name_107 (by decide) ?_
          exact g_lret rfl dX11_name_134 (⟨rfl, Or.inl ⟨j, hj, rfl, Or.inr ⟨c10, u', b', hu', hb', rfl, rfl, by rw [nm_0 (by omega) (by omega)]⟩⟩⟩)
      · have hno : ¬ bxI bx u b := by
          rcases k62 with ⟨h1, h2⟩ | ⟨h1, h2⟩
          · rw [h1] at c65; exact absurd c65 (by decide)
          · exact h2
        refine g_ldc2 cX11_167 dX11_name_68 ?_
        exact g_lret rfl dX11_name_71 (⟨rfl, Or.inr ⟨fun ⟨_, _, _, h⟩ => h.elim (fun ⟨h, _⟩ => c10 h) (fun ⟨_, u1, b1, h1, h2, h3, h4⟩ => hno ⟨u1, b1, h1, h2, h3, h4⟩), rfl⟩⟩)
    · have c10 := c10
      refine g_aload_n dX11_name_13 rfl (List.mem_of_getElem? (i := 0) rfl) ?_
      refine g_iconst (v := -1) dX11_name_14 (by decide) ?_
      refine g_iconst (v := 0) dX11_name_15 (by decide) ?_
      refine g_iload_n dX11_name_16 rfl (List.mem_of_getElem? (i := 2) rfl) ?_
      refine g_cv (d1 := 1) (As := [.int (-1), .int 0, .int b]) (st := []) (ct_numberOf hZ ha hm (by omega) (u := -1) (b := 0) (i := b)) (h_rcO (r := (RX11, TX11, 17)) ha rfl) kX11_numberOf lX11_157 sX11_numberOf (by omega) (Nat.le_of_ble_eq_true rfl) dX11_name_17 (fun τ17 v17 h17 z17 => ?_)
      obtain ⟨rfl, h17⟩ := h17
      obtain ⟨r17, rfl, k17⟩ : ∃ r : Int32, v17 = some (.int r) ∧ ((∃ k, k < mc ∧ (eu k = -1 ∧ eb k = 0) ∧ nI (cntM eu eb (-1) 0 k) = b ∧ r = nI k) ∨ (∀ k, k < mc → eu k = -1 ∧ eb k = 0 → nI (cntM eu eb (-1) 0 k) ≠ b) ∧ r = -1) := by
        rcases h17 with ⟨k, h1, h2, h3, h4⟩ | ⟨h1, h2⟩
        · exact ⟨_, h4, Or.inl ⟨k, h1, h2, h3, rfl⟩⟩
        · exact ⟨_, h2, Or.inr ⟨h1, rfl⟩⟩
      show G _ _ _ _ _ _ _ _ _ _ 20 [(0, .ref a), (1, .int u), (2, .int b), (3, .int (nI j))] [.int r17]
      refine g_istore dX11_name_20 (by decide) rfl ?_
      refine g_iload dX11_name_22 (List.mem_of_getElem? (i := 0) rfl) ?_
      refine g_if_ge (tgt := 33) dX11_name_24 (by decide) (fun c24 => ?_) (fun c24 => ?_)
      · obtain ⟨hmc, g, hgm, hg⟩ := id hm
        obtain ⟨k, hk, hkm, hkc, rfl⟩ : ∃ k, k < mc ∧ (eu k = -1 ∧ eb k = 0) ∧ nI (cntM eu eb (-1) 0 k) = b ∧ r17 = nI k := by
          rcases k17 with h | ⟨h1, h2⟩
          · exact h
          · rw [h2] at c24; exact absurd c24 (by decide)
        have hll := (hol k hk hkm.1).2
        refine g_aload_n dX11_name_33 rfl (List.mem_of_getElem? (i := 1) rfl) ?_
        refine g_get fX11_33 ha (v := .ref (n0 + 4)) rfl dX11_name_34 ?_
        refine g_iload dX11_name_37 (List.mem_of_getElem? (i := 0) rfl) ?_
        refine g_aald (t0 := 7) rfl hgm (vp_in_nI (by omega) (by decide)) dX11_name_39 ?_
        refine g_eqv (.ref (ea k)) (by rw [nI_clamp (by omega), (hg k hk).1]; rfl) ?_
        refine g_get fX11_173 (hg k hk).2 (v := .ref (lb k)) rfl dX11_name_40 ?_
        refine g_iload_n dX11_name_43 rfl (List.mem_of_getElem? (i := 4) rfl) ?_
        refine g_aload_n dX11_name_44 rfl (List.mem_of_getElem? (i := 1) rfl) ?_
        refine g_get fX11_33 ha (v := .ref (n0 + 4)) rfl dX11_name_45 ?_
        refine g_iload dX11_name_48 (List.mem_of_getElem? (i := 0) rfl) ?_
        refine g_aald (t0 := 7) rfl hgm (vp_in_nI (by omega) (by decide)) dX11_name_50 ?_
        refine g_eqv (.ref (ea k)) (by rw [nI_clamp (by omega), (hg k hk).1]; rfl) ?_
        refine g_get fX11_173 (hg k hk).2 (v := .ref (lb k)) rfl dX11_name_51 ?_
        refine g_aleni (t0 := 1) rfl (hol k hk hkm.1).1 dX11_name_54 ?_
        refine g_cs (d1 := 0) (As := [.ref (lb k), .int (nI j), .int (nI (ll k))]) (st := []) (ct_e8 hZ (hol k hk hkm.1).1 (by omega) (by omega) (by omega)) kX11_eightBytes lX11_169 sX11_eightBytes (by omega) (Nat.le_of_ble_eq_true rfl) dX11_name_55 (fun τ55 v55 h55 z55 => ?_)
        obtain ⟨rfl, rfl⟩ := h55
        obtain ⟨r55, hr55⟩ : ∃ r, r = e8 (by8 (lf k) j (ll k)) 8 := ⟨_, rfl⟩
        rw [← hr55]
        show G _ _ _ _ _ _ _ _ _ _ 58 [(4, .int (nI k)), (0, .ref a), (1, .int u), (2, .int b), (3, .int (nI j))] [.long r55]
        exact g_lret rfl dX11_name_58 (⟨rfl, Or.inl ⟨j, hj, rfl, Or.inl ⟨c10, k, hk, hkm, hkc, by rw [hr55]⟩⟩⟩)
      · have hnk : ∀ k, k < mc → eu k = -1 ∧ eb k = 0 → nI (cntM eu eb (-1) 0 k) ≠ b := by
          rcases k17 with ⟨k, h1, h2, h3, h4⟩ | ⟨h1, h2⟩
          · rw [h4] at c24; exact absurd (nI_pos' (by have := hm.1; omega)) c24
          · exact h1
        refine g_ldc2 cX11_167 dX11_name_27 ?_
        refine g_goto (tgt := 58) dX11_name_30 (by decide) ?_
        exact g_lret rfl dX11_name_58 (⟨rfl, Or.inr ⟨fun ⟨_, _, _, h⟩ => h.elim (fun ⟨_, k, h1, h2, h3⟩ => hnk k h1 h2 h3) (fun ⟨h, _⟩ => h c10), rfl⟩⟩)
  · have c1 := c1
    refine g_ldc2 cX11_167 dX11_name_4 ?_
    exact g_lret rfl dX11_name_7 (⟨rfl, Or.inr ⟨fun ⟨j, hj, e, _⟩ => by subst e; exact c1 (nI_pos' hj), rfl⟩⟩)
