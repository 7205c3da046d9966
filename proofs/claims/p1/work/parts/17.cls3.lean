abbrev mX11_isIn : hM := (yX11_isIn, cX11_isIn, 4, (some (.boolean)))
theorem dX11_isIn_0 : decode cX11_isIn 0 = .ok (.aload_n 0, 1) := by decide +kernel
theorem dX11_isIn_1 : decode cX11_isIn 1 = .ok (.getfield 33, 3) := by decide +kernel
theorem dX11_isIn_4 : decode cX11_isIn 4 = .ok (.iload_n 1, 1) := by decide +kernel
theorem dX11_isIn_5 : decode cX11_isIn 5 = .ok (.aaload, 1) := by decide +kernel
theorem dX11_isIn_6 : decode cX11_isIn 6 = .ok (.getfield 210, 3) := by decide +kernel
theorem fX11_210 : h_fl RX11 210 1 2 RX1 TX1 6 := ⟨rfl, by decide, inX1, h_t6 161 rfl rfl⟩
theorem dX11_isIn_9 : decode cX11_isIn 9 = .ok (.iload_n 2, 1) := by decide +kernel
theorem dX11_isIn_10 : decode cX11_isIn 10 = .ok (.if_icmp .ne 20, 3) := by decide +kernel
theorem dX11_isIn_13 : decode cX11_isIn 13 = .ok (.aload_n 0, 1) := by decide +kernel
theorem dX11_isIn_14 : decode cX11_isIn 14 = .ok (.getfield 33, 3) := by decide +kernel
theorem dX11_isIn_17 : decode cX11_isIn 17 = .ok (.iload_n 1, 1) := by decide +kernel
theorem dX11_isIn_18 : decode cX11_isIn 18 = .ok (.aaload, 1) := by decide +kernel
theorem dX11_isIn_19 : decode cX11_isIn 19 = .ok (.getfield 213, 3) := by decide +kernel
theorem fX11_213 : h_fl RX11 213 1 3 RX1 TX1 6 := ⟨rfl, by decide, inX1, h_t6 162 rfl rfl⟩
theorem dX11_isIn_22 : decode cX11_isIn 22 = .ok (.iload_n 3, 1) := by decide +kernel
theorem dX11_isIn_23 : decode cX11_isIn 23 = .ok (.if_icmp .ne 7, 3) := by decide +kernel
theorem dX11_isIn_26 : decode cX11_isIn 26 = .ok (.iconst 1, 1) := by decide +kernel
theorem dX11_isIn_27 : decode cX11_isIn 27 = .ok (.goto 4, 3) := by decide +kernel
theorem dX11_isIn_30 : decode cX11_isIn 30 = .ok (.iconst 0, 1) := by decide +kernel
theorem dX11_isIn_31 : decode cX11_isIn 31 = .ok (.ireturn, 1) := by decide +kernel
abbrev mX11_messages : hM := (yX11_messages, cX11_messages, 5, (some (.int)))
theorem dX11_messages_0 : decode cX11_messages 0 = .ok (.aload_n 0, 1) := by decide +kernel
theorem dX11_messages_1 : decode cX11_messages 1 = .ok (.iload_n 1, 1) := by decide +kernel
theorem dX11_messages_2 : decode cX11_messages 2 = .ok (.iload_n 2, 1) := by decide +kernel
theorem dX11_messages_3 : decode cX11_messages 3 = .ok (.invokevirtual 146, 3) := by decide +kernel
theorem kX11_hasBox : h_ml mX11_hasBox 2 := ⟨h_t7 166 rfl rfl, h_t1 1 rfl rfl, ⟨by decide, by decide, by decide +kernel⟩, by decide⟩
theorem sX11_hasBox : Cond.instanceMethod mX11_hasBox.1 ∈ lw_g ∧ Cond.selects mX11_hasBox.1.cls mX11_hasBox.1 mX11_hasBox.1 ∈ lw_g := ⟨h_t7 165 rfl rfl, h_ins 95 rfl⟩
theorem lX11_146 : Cond.methodLink RX11 146 mX11_hasBox.1 ∈ lw_g := h_t7 163 rfl rfl
theorem dX11_messages_6 : decode cX11_messages 6 = .ok (.ifCond .ne 5, 3) := by decide +kernel
theorem dX11_messages_9 : decode cX11_messages 9 = .ok (.iconst (-1), 1) := by decide +kernel
theorem dX11_messages_10 : decode cX11_messages 10 = .ok (.ireturn, 1) := by decide +kernel
theorem dX11_messages_11 : decode cX11_messages 11 = .ok (.iconst 0, 1) := by decide +kernel
theorem dX11_messages_12 : decode cX11_messages 12 = .ok (.istore_n 3, 1) := by decide +kernel
theorem dX11_messages_13 : decode cX11_messages 13 = .ok (.iconst 0, 1) := by decide +kernel
theorem dX11_messages_14 : decode cX11_messages 14 = .ok (.istore 4, 2) := by decide +kernel
theorem dX11_messages_16 : decode cX11_messages 16 = .ok (.iload 4, 2) := by decide +kernel
theorem dX11_messages_18 : decode cX11_messages 18 = .ok (.aload_n 0, 1) := by decide +kernel
theorem dX11_messages_19 : decode cX11_messages 19 = .ok (.getfield 150, 3) := by decide +kernel
theorem fX11_150 : h_fl RX11 150 11 10 RX11 TX11 17 := ⟨rfl, by decide, inX11, h_t3 89 rfl rfl⟩
theorem dX11_messages_22 : decode cX11_messages 22 = .ok (.if_icmp .ge 23, 3) := by decide +kernel
theorem dX11_messages_25 : decode cX11_messages 25 = .ok (.aload_n 0, 1) := by decide +kernel
theorem dX11_messages_26 : decode cX11_messages 26 = .ok (.iload 4, 2) := by decide +kernel
theorem dX11_messages_28 : decode cX11_messages 28 = .ok (.iload_n 1, 1) := by decide +kernel
theorem dX11_messages_29 : decode cX11_messages 29 = .ok (.iload_n 2, 1) := by decide +kernel
theorem dX11_messages_30 : decode cX11_messages 30 = .ok (.invokevirtual 153, 3) := by decide +kernel
theorem kX11_isIn : h_ml mX11_isIn 3 := ⟨h_t7 170 rfl rfl, h_t1 1 rfl rfl, ⟨by decide, by decide, by decide +kernel⟩, by decide⟩
theorem sX11_isIn : Cond.instanceMethod mX11_isIn.1 ∈ lw_g ∧ Cond.selects mX11_isIn.1.cls mX11_isIn.1 mX11_isIn.1 ∈ lw_g := ⟨h_t7 169 rfl rfl, h_ins 96 rfl⟩
theorem lX11_153 : Cond.methodLink RX11 153 mX11_isIn.1 ∈ lw_g := h_t7 167 rfl rfl
theorem dX11_messages_33 : decode cX11_messages 33 = .ok (.ifCond .eq 6, 3) := by decide +kernel
theorem dX11_messages_36 : decode cX11_messages 36 = .ok (.iinc 3 1, 3) := by decide +kernel
theorem dX11_messages_39 : decode cX11_messages 39 = .ok (.iinc 4 1, 3) := by decide +kernel
theorem dX11_messages_42 : decode cX11_messages 42 = .ok (.goto (-26), 3) := by decide +kernel
theorem dX11_messages_45 : decode cX11_messages 45 = .ok (.iload_n 3, 1) := by decide +kernel
theorem dX11_messages_46 : decode cX11_messages 46 = .ok (.ireturn, 1) := by decide +kernel
abbrev mX11_numberOf : hM := (yX11_numberOf, cX11_numberOf, 6, (some (.int)))
theorem dX11_numberOf_0 : decode cX11_numberOf 0 = .ok (.iload_n 3, 1) := by decide +kernel
theorem dX11_numberOf_1 : decode cX11_numberOf 1 = .ok (.istore 4, 2) := by decide +kernel
theorem dX11_numberOf_3 : decode cX11_numberOf 3 = .ok (.iconst 0, 1) := by decide +kernel
theorem dX11_numberOf_4 : decode cX11_numberOf 4 = .ok (.istore 5, 2) := by decide +kernel
theorem dX11_numberOf_6 : decode cX11_numberOf 6 = .ok (.iload 5, 2) := by decide +kernel
theorem dX11_numberOf_8 : decode cX11_numberOf 8 = .ok (.aload_n 0, 1) := by decide +kernel
theorem dX11_numberOf_9 : decode cX11_numberOf 9 = .ok (.getfield 150, 3) := by decide +kernel
theorem dX11_numberOf_12 : decode cX11_numberOf 12 = .ok (.if_icmp .ge 36, 3) := by decide +kernel
theorem dX11_numberOf_15 : decode cX11_numberOf 15 = .ok (.iload 4, 2) := by decide +kernel
theorem dX11_numberOf_17 : decode cX11_numberOf 17 = .ok (.ifCond .lt 31, 3) := by decide +kernel
theorem dX11_numberOf_20 : decode cX11_numberOf 20 = .ok (.aload_n 0, 1) := by decide +kernel
theorem dX11_numberOf_21 : decode cX11_numberOf 21 = .ok (.iload 5, 2) := by decide +kernel
theorem dX11_numberOf_23 : decode cX11_numberOf 23 = .ok (.iload_n 1, 1) := by decide +kernel
theorem dX11_numberOf_24 : decode cX11_numberOf 24 = .ok (.iload_n 2, 1) := by decide +kernel
theorem dX11_numberOf_25 : decode cX11_numberOf 25 = .ok (.invokevirtual 153, 3) := by decide +kernel
theorem dX11_numberOf_28 : decode cX11_numberOf 28 = .ok (.ifCond .eq 14, 3) := by decide +kernel
theorem dX11_numberOf_31 : decode cX11_numberOf 31 = .ok (.iload 4, 2) := by decide +kernel
theorem dX11_numberOf_33 : decode cX11_numberOf 33 = .ok (.ifCond .ne 6, 3) := by decide +kernel
theorem dX11_numberOf_36 : decode cX11_numberOf 36 = .ok (.iload 5, 2) := by decide +kernel
theorem dX11_numberOf_38 : decode cX11_numberOf 38 = .ok (.ireturn, 1) := by decide +kernel
theorem dX11_numberOf_39 : decode cX11_numberOf 39 = .ok (.iinc 4 (-1), 3) := by decide +kernel
theorem dX11_numberOf_42 : decode cX11_numberOf 42 = .ok (.iinc 5 1, 3) := by decide +kernel
theorem dX11_numberOf_45 : decode cX11_numberOf 45 = .ok (.goto (-39), 3) := by decide +kernel
theorem dX11_numberOf_48 : decode cX11_numberOf 48 = .ok (.iconst (-1), 1) := by decide +kernel
theorem dX11_numberOf_49 : decode cX11_numberOf 49 = .ok (.ireturn, 1) := by decide +kernel
/-- the messages: which cell each has, its user, box, flags; its label's row and its text's -/
def mlAt (A : Nat → ClassId) (σ : hS) (n0 mc : Nat) (ea lb tx : Nat → Nat) (eu eb ef ed : Nat → Int32) : Prop :=
  mc ≤ 400 ∧ ∃ g : Nat → Option Nat, σ.1 (n0 + 4) = some (.inl (A 7, 400, .inr (.inr (.inr (.inr g))))) ∧ ∀ j : Nat, j < mc → g j = some (ea j) ∧ σ.1 (ea j) = some (.inr (1, [.ref (lb j), .ref (tx j), .int (eu j), .int (eb j), .int (ef j), .int (ed j)]))
/-- how many of the first n are in that mailbox -/
def cntM (eu eb : Nat → Int32) (u b : Int32) : Nat → Nat
  | 0 => 0
  | n + 1 => cntM eu eb u b n + (if eu n = u ∧ eb n = b then 1 else 0)
theorem cntM_no {eu eb : Nat → Int32} {u b : Int32} {j : Nat} (h : ¬ (eu j = u ∧ eb j = b)) : cntM eu eb u b (j + 1) = cntM eu eb u b j := by
  show cntM eu eb u b j + (if eu j = u ∧ eb j = b then 1 else 0) = _
  rw [if_neg h]
  rfl
theorem cntM_yes {eu eb : Nat → Int32} {u b : Int32} {j : Nat} (h : eu j = u ∧ eb j = b) : cntM eu eb u b (j + 1) = cntM eu eb u b j + 1 := by
  show cntM eu eb u b j + (if eu j = u ∧ eb j = b then 1 else 0) = _
  rw [if_pos h]
theorem cntM_le (eu eb : Nat → Int32) (u b : Int32) : ∀ n, cntM eu eb u b n ≤ n
  | 0 => Nat.le_refl _
  | n + 1 => by
    have := cntM_le eu eb u b n
    unfold cntM
    by_cases h : eu n = u ∧ eb n = b
    · rw [if_pos h]; omega
    · rw [if_neg h]; omega
theorem cntM_mono {eu eb : Nat → Int32} {u b : Int32} {i : Nat} : ∀ {j : Nat}, i ≤ j → cntM eu eb u b i ≤ cntM eu eb u b j
  | 0, h => by rw [show i = 0 by omega]; exact Nat.le_refl _
  | j + 1, h => by
    by_cases e : i = j + 1
    · subst e; exact Nat.le_refl _
    · exact Nat.le_trans (cntM_mono (j := j) (by omega)) (Nat.le_add_right _ _)

set_option maxRecDepth 100000 in
set_option maxHeartbeats 4000000 in
/-- isIn -/
theorem ct_isIn {l : Launch} {D : va_G} {A : Nat → ClassId} {B : Nat} {Z : State → Heap → Prop} (hZ : h_st B Z) {d : Nat} {σ : hS} {a n0 : Nat} {ts mc oc mb dy cm ci : Nat} {pw : Int32} (ha : σ.1 a = some (smO n0 ts mc oc mb dy cm ci pw)) {ea lb tx : Nat → Nat} {eu eb ef ed : Nat → Int32} (hm : mlAt A σ n0 mc ea lb tx eu eb ef ed) {j : Nat} (hj : j < mc) {u b : Int32} : Ct l D (h_ty A) B Z d mX11_isIn σ [.ref a, .int (nI j), .int u, .int b] (fun σ1 v => σ1 = σ ∧ (v = some (.int 1) ∧ (eu j = u ∧ eb j = b) ∨ v = some (.int 0) ∧ ¬ (eu j = u ∧ eb j = b))) := by
  obtain ⟨hmc, g, hgm, hg⟩ := hm
  refine ct_of rfl hZ (Nat.le_of_ble_eq_true rfl) ?_
  show G _ _ _ _ _ _ _ _ _ _ 0 [(0, .ref a), (1, .int (nI j)), (2, .int u), (3, .int b)] []
  refine g_aload_n dX11_isIn_0 rfl (List.mem_of_getElem? (i := 0) rfl) ?_
  refine g_get fX11_33 ha (v := .ref (n0 + 4)) rfl dX11_isIn_1 ?_
  refine g_iload_n dX11_isIn_4 rfl (List.mem_of_getElem? (i := 1) rfl) ?_
  refine g_aald (t0 := 7) rfl hgm (vp_in_nI (by omega) (by decide)) dX11_isIn_5 ?_
  refine g_eqv (.ref (ea j)) (by rw [nI_clamp (by omega), (hg j hj).1]; rfl) ?_
  refine g_get fX11_210 (hg j hj).2 (v := .int (eu j)) rfl dX11_isIn_6 ?_
  refine g_iload_n dX11_isIn_9 rfl (List.mem_of_getElem? (i := 2) rfl) ?_
  refine g_icmp_ne (tgt := 30) dX11_isIn_10 (by decide) (fun c10 => ?_) (fun c10 => ?_)
  · have c10 := c10
    refine g_iconst (v := 0) dX11_isIn_30 (by decide) ?_
    exact g_zret rfl rfl dX11_isIn_31 (⟨rfl, Or.inr ⟨rfl, fun h => c10 h.1⟩⟩)
  · have c10 := c10
    refine g_aload_n dX11_isIn_13 rfl (List.mem_of_getElem? (i := 0) rfl) ?_
    refine g_get fX11_33 ha (v := .ref (n0 + 4)) rfl dX11_isIn_14 ?_
    refine g_iload_n dX11_isIn_17 rfl (List.mem_of_getElem? (i := 1) rfl) ?_
    refine g_aald (t0 := 7) rfl hgm (vp_in_nI (by omega) (by decide)) dX11_isIn_18 ?_
    refine g_eqv (.ref (ea j)) (by rw [nI_clamp (by omega), (hg j hj).1]; rfl) ?_
    refine g_get fX11_213 (hg j hj).2 (v := .int (eb j)) rfl dX11_isIn_19 ?_
    refine g_iload_n dX11_isIn_22 rfl (List.mem_of_getElem? (i := 3) rfl) ?_
    refine g_icmp_ne (tgt := 30) dX11_isIn_23 (by decide) (fun c23 => ?_) (fun c23 => ?_)
    · have c23 := c23
      refine g_iconst (v := 0) dX11_isIn_30 (by decide) ?_
      exact g_zret rfl rfl dX11_isIn_31 (⟨rfl, Or.inr ⟨rfl, fun h => c23 h.2⟩⟩)
    · have c23 := c23
      refine g_iconst (v := 1) dX11_isIn_26 (by decide) ?_
      refine g_goto (tgt := 31) dX11_isIn_27 (by decide) ?_
      exact g_zret rfl rfl dX11_isIn_31 (⟨rfl, Or.inl ⟨rfl, c10, c23⟩⟩)
set_option maxRecDepth 100000 in
set_option maxHeartbeats 4000000 in
theorem ct_messages_loop {l : Launch} {D : va_G} {A : Nat → ClassId} {B : Nat} {Z : State → Heap → Prop} (hZ : h_st B Z) {d : Nat} (hd1 : 1 ≤ d) {σ : hS} {a n0 : Nat} {ts mc oc mb dy cm ci : Nat} {pw : Int32} (ha : σ.1 a = some (smO n0 ts mc oc mb dy cm ci pw)) {ea lb tx : Nat → Nat} {eu eb ef ed : Nat → Int32} (hm : mlAt A σ n0 mc ea lb tx eu eb ef ed) {u b : Int32} : ∀ (n j : Nat), mc + 1 ≤ j + n → j ≤ mc → G l D (h_ty A) B Z mX11_messages d σ (fun σ1 v => σ1 = σ ∧ v = some (.int (nI (cntM eu eb u b mc)))) σ 16 [(3, .int (nI (cntM eu eb u b j))), (4, .int (nI j)), (0, .ref a), (1, .int u), (2, .int b)] [] := by
  have hmc := hm.1
  intro n
  induction n with
  | zero => intro j h1 h2; omega
  | succ n ih =>
    intro j h1 h2
    refine g_iload dX11_messages_16 (List.mem_of_getElem? (i := 1) rfl) ?_
    refine g_aload_n dX11_messages_18 rfl (List.mem_of_getElem? (i := 2) rfl) ?_
    refine g_get fX11_150 ha (v := .int (nI mc)) rfl dX11_messages_19 ?_
    refine g_icmp_ge (tgt := 45) dX11_messages_22 (by decide) (fun c22 => ?_) (fun c22 => ?_)
    · have c22 : j = mc := by have := (nI_leI (a := mc) (b := j) (by omega) (by omega)).mp c22; omega
      subst c22
      refine g_iload_n dX11_messages_45 rfl (List.mem_of_getElem? (i := 0) rfl) ?_
      exact g_iret rfl dX11_messages_46 ⟨rfl, rfl⟩
    · have hj : j < mc := Nat.lt_of_not_le fun h => c22 ((nI_leI (a := mc) (b := j) (by omega) (by omega)).mpr h)
      refine g_aload_n dX11_messages_25 rfl (List.mem_of_getElem? (i := 2) rfl) ?_
      refine g_iload dX11_messages_26 (List.mem_of_getElem? (i := 1) rfl) ?_
      refine g_iload_n dX11_messages_28 rfl (List.mem_of_getElem? (i := 3) rfl) ?_
      refine g_iload_n dX11_messages_29 rfl (List.mem_of_getElem? (i := 4) rfl) ?_
      refine g_cv (d1 := 0) (As := [.int (nI j), .int u, .int b]) (st := []) (ct_isIn hZ ha hm (j := j) hj (u := u) (b := b)) (h_rcO (r := (RX11, TX11, 17)) ha rfl) kX11_isIn lX11_153 sX11_isIn (by omega) (Nat.le_of_ble_eq_true rfl) dX11_messages_30 (fun τ30 v30 h30 z30 => ?_)
      obtain ⟨rfl, h30⟩ := h30
      obtain ⟨r30, rfl, k30⟩ : ∃ r : Int32, v30 = some (.int r) ∧ (r = 1 ∧ (eu j = u ∧ eb j = b) ∨ r = 0 ∧ ¬ (eu j = u ∧ eb j = b)) := by
        rcases h30 with ⟨h1, h2⟩ | ⟨h1, h2⟩
        · exact ⟨1, h1, Or.inl ⟨rfl, h2⟩⟩
        · exact ⟨0, h1, Or.inr ⟨rfl, h2⟩⟩
      show G _ _ _ _ _ _ _ _ _ _ 33 [(3, .int (nI (cntM eu eb u b j))), (4, .int (nI j)), (0, .ref a), (1, .int u), (2, .int b)] [.int r30]
      refine g_if_eq (tgt := 39) dX11_messages_33 (by decide) (fun c33 => ?_) (fun c33 => ?_)
      · have hc : cntM eu eb u b (j + 1) = cntM eu eb u b j := cntM_no (by
          rcases k30 with ⟨h1, h2⟩ | ⟨h1, h2⟩
          · rw [h1] at c33; exact absurd c33 (by decide)
          · exact h2)
        refine g_iinc (v := nI (j + 1)) dX11_messages_39 (k := 1) rfl (nI_1 j) (by decide) rfl ?_
        refine g_goto (tgt := 16) dX11_messages_42 (by decide) ?_
        refine g_lv [1, 0, 2, 3, 4] rfl ?_
        rw [← hc]
        exact ih (j + 1) (by omega) (by omega)
      · have hc : cntM eu eb u b (j + 1) = cntM eu eb u b j + 1 := cntM_yes (by
          rcases k30 with ⟨h1, h2⟩ | ⟨h1, h2⟩
          · exact h2
          · exact absurd h1 c33)
        refine g_iinc (v := nI (cntM eu eb u b j + 1)) dX11_messages_36 (k := 0) rfl (nI_1 _) (by decide) rfl ?_
        refine g_iinc (v := nI (j + 1)) dX11_messages_39 (k := 1) rfl (nI_1 j) (by decide) rfl ?_
        refine g_goto (tgt := 16) dX11_messages_42 (by decide) ?_
        refine g_lv [1, 0, 2, 3, 4] rfl ?_
        rw [← hc]
        exact ih (j + 1) (by omega) (by omega)
theorem g_post {l : Launch} {D : va_G} {ty : List (ClassId × FieldType)} {B : Nat} {Z : State → Heap → Prop} {M : hM} {d : Nat} {σ0 σ : hS} {P P1 : hS → Option Value → Prop} {pc : Nat} {lv : List (Nat × Value)} {st : List Value} (h : G l D ty B Z M d σ0 P1 σ pc lv st) (hp : ∀ σ1 v, P1 σ1 v → P σ1 v) : G l D ty B Z M d σ0 P σ pc lv st := by
  intro p e s m args below meth c C9 H locs ls hR hS h3 hl9 T hT X
  obtain ⟨t, a1, ⟨oc, b1, b2, ⟨⟨v, σ1, c1, c2, c3⟩, c4⟩, b4⟩⟩ := h p e s m args below meth c C9 H locs ls hR hS h3 hl9 T hT X
  exact ⟨t, a1, oc, b1, b2, ⟨⟨v, σ1, c1, hp σ1 v c2, c3⟩, c4⟩, b4⟩
set_option maxRecDepth 100000 in
set_option maxHeartbeats 4000000 in
/-- messages(user, box) -/
theorem ct_messages {l : Launch} {D : va_G} {A : Nat → ClassId} {B : Nat} {Z : State → Heap → Prop} (hZ : h_st B Z) {d : Nat} {σ : hS} {a n0 : Nat} {ts mc oc mb dy cm ci : Nat} {pw : Int32} (ha : σ.1 a = some (smO n0 ts mc oc mb dy cm ci pw)) {sc nc bx : Nat → Nat} {ac : Nat → Value} (hu : usAt A σ n0 sc nc bx ac) {ea lb tx : Nat → Nat} {eu eb ef ed : Nat → Int32} (hm : mlAt A σ n0 mc ea lb tx eu eb ef ed) {u b : Int32} (hd1 : 1 ≤ d) : Ct l D (h_ty A) B Z d mX11_messages σ [.ref a, .int u, .int b] (fun σ1 v => σ1 = σ ∧ (bxI bx u b ∧ v = some (.int (nI (cntM eu eb u b mc))) ∨ ¬ bxI bx u b ∧ v = some (.int (-1)))) := by
  refine ct_of rfl hZ (Nat.le_of_ble_eq_true rfl) ?_
  show G _ _ _ _ _ _ _ _ _ _ 0 [(0, .ref a), (1, .int u), (2, .int b)] []
  refine g_aload_n dX11_messages_0 rfl (List.mem_of_getElem? (i := 0) rfl) ?_
  refine g_iload_n dX11_messages_1 rfl (List.mem_of_getElem? (i := 1) rfl) ?_
  refine g_iload_n dX11_messages_2 rfl (List.mem_of_getElem? (i := 2) rfl) ?_
  refine g_cv (d1 := 0) (As := [.int u, .int b]) (st := []) (ct_hasBox hZ ha hu (u := u) (b := b)) (h_rcO (r := (RX11, TX11, 17)) ha rfl) kX11_hasBox lX11_146 sX11_hasBox (by omega) (Nat.le_of_ble_eq_true rfl) dX11_messages_3 (fun τ3 v3 h3 z3 => ?_)
  obtain ⟨rfl, h3⟩ := h3
  obtain ⟨r3, rfl, k3⟩ : ∃ r : Int32, v3 = some (.int r) ∧ (r = 1 ∧ bxI bx u b ∨ r = 0 ∧ ¬ bxI bx u b) := by
    rcases h3 with ⟨h1, h2⟩ | ⟨h1, h2⟩
    · exact ⟨1, h1, Or.inl ⟨rfl, h2⟩⟩
    · exact ⟨0, h1, Or.inr ⟨rfl, h2⟩⟩
  show G _ _ _ _ _ _ _ _ _ _ 6 [(0, .ref a), (1, .int u), (2, .int b)] [.int r3]
  refine g_if_ne (tgt := 11) dX11_messages_6 (by decide) (fun c6 => ?_) (fun c6 => ?_)
  · have hyes : bxI bx u b := by
      rcases k3 with ⟨h1, h2⟩ | ⟨h1, h2⟩
      · exact h2
      · exact absurd h1 c6
    refine g_iconst (v := 0) dX11_messages_11 (by decide) ?_
    refine g_istore_n dX11_messages_12 rfl (by decide) rfl ?_
    refine g_iconst (v := 0) dX11_messages_13 (by decide) ?_
    refine g_istore dX11_messages_14 (by decide) rfl ?_
    refine g_lv [1, 0, 2, 3, 4] rfl ?_
    exact g_post (ct_messages_loop hZ hd1 ha hm (mc + 1) 0 (by omega) (by omega)) (fun σ1 v h => ⟨h.1, Or.inl ⟨hyes, h.2⟩⟩)
  · have hno : ¬ bxI bx u b := by
      rcases k3 with ⟨h1, h2⟩ | ⟨h1, h2⟩
      · rw [h1] at c6; exact absurd c6 (by decide)
      · exact h2
    refine g_iconst (v := -1) dX11_messages_9 (by decide) ?_
    exact g_iret rfl dX11_messages_10 (⟨rfl, Or.inr ⟨hno, rfl⟩⟩)
theorem sub_m1 (x y : Int32) : x - y + (-1) = x - (y + 1) := by
  rw [Int32.sub_eq_add_neg, Int32.sub_eq_add_neg x (y + 1), Int32.neg_add, Int32.sub_eq_add_neg, Int32.add_assoc]
set_option maxRecDepth 100000 in
set_option maxHeartbeats 4000000 in
theorem ct_numberOf_loop {l : Launch} {D : va_G} {A : Nat → ClassId} {B : Nat} {Z : State → Heap → Prop} (hZ : h_st B Z) {d : Nat} (hd1 : 1 ≤ d) {σ : hS} {a n0 : Nat} {ts mc oc mb dy cm ci : Nat} {pw : Int32} (ha : σ.1 a = some (smO n0 ts mc oc mb dy cm ci pw)) {ea lb tx : Nat → Nat} {eu eb ef ed : Nat → Int32} (hm : mlAt A σ n0 mc ea lb tx eu eb ef ed) {u b : Int32} {i : Nat} (hi : i < 2 ^ 31) : ∀ (n j : Nat), mc + 1 ≤ j + n → j ≤ mc → (cntM eu eb u b j ≤ i ∧ ∀ k, k < j → eu k = u ∧ eb k = b → cntM eu eb u b k ≠ i) → G l D (h_ty A) B Z mX11_numberOf d σ (fun σ1 v => σ1 = σ ∧ ((∃ k, k < mc ∧ (eu k = u ∧ eb k = b) ∧ cntM eu eb u b k = i ∧ v = some (.int (nI k))) ∨ (∀ k, k < mc → eu k = u ∧ eb k = b → cntM eu eb u b k ≠ i) ∧ v = some (.int (-1)))) σ 6 [(4, .int (nI i - nI (cntM eu eb u b j))), (5, .int (nI j)), (0, .ref a), (1, .int u), (2, .int b), (3, .int (nI i))] [] := by
  have hmc := hm.1
  intro n
  induction n with
  | zero => intro j h1 h2; omega
  | succ n ih =>
    intro j h1 h2 ⟨hle, hpv⟩
    refine g_iload dX11_numberOf_6 (List.mem_of_getElem? (i := 1) rfl) ?_
    refine g_aload_n dX11_numberOf_8 rfl (List.mem_of_getElem? (i := 2) rfl) ?_
    refine g_get fX11_150 ha (v := .int (nI mc)) rfl dX11_numberOf_9 ?_
    refine g_icmp_ge (tgt := 48) dX11_numberOf_12 (by decide) (fun c12 => ?_) (fun c12 => ?_)
    · have c12 : j = mc := by have := (nI_leI (a := mc) (b := j) (by omega) (by omega)).mp c12; omega
      subst c12
      refine g_iconst (v := -1) dX11_numberOf_48 (by decide) ?_
      exact g_iret rfl dX11_numberOf_49 ⟨rfl, Or.inr ⟨hpv, rfl⟩⟩
    · have hj : j < mc := Nat.lt_of_not_le fun h => c12 ((nI_leI (a := mc) (b := j) (by omega) (by omega)).mpr h)
      refine g_iload dX11_numberOf_15 (List.mem_of_getElem? (i := 0) rfl) ?_
      refine g_if_lt (tgt := 48) dX11_numberOf_17 (by decide) (fun c17 => absurd c17 (by rw [pk_sub hle]; exact nI_pos (by omega))) (fun c17 => ?_)
      refine g_aload_n dX11_numberOf_20 rfl (List.mem_of_getElem? (i := 2) rfl) ?_
      refine g_iload dX11_numberOf_21 (List.mem_of_getElem? (i := 1) rfl) ?_
      refine g_iload_n dX11_numberOf_23 rfl (List.mem_of_getElem? (i := 3) rfl) ?_
      refine g_iload_n dX11_numberOf_24 rfl (List.mem_of_getElem? (i := 4) rfl) ?_
      refine g_cv (d1 := 0) (As := [.int (nI j), .int u, .int b]) (st := []) (ct_isIn hZ ha hm (j := j) hj (u := u) (b := b)) (h_rcO (r := (RX11, TX11, 17)) ha rfl) kX11_isIn lX11_153 sX11_isIn (by omega) (Nat.le_of_ble_eq_true rfl) dX11_numberOf_25 (fun τ25 v25 h25 z25 => ?_)
      obtain ⟨rfl, h25⟩ := h25
      obtain ⟨r25, rfl, k25⟩ : ∃ r : Int32, v25 = some (.int r) ∧ (r = 1 ∧ (eu j = u ∧ eb j = b) ∨ r = 0 ∧ ¬ (eu j = u ∧ eb j = b)) := by
        rcases h25 with ⟨h1, h2⟩ | ⟨h1, h2⟩
        · exact ⟨1, h1, Or.inl ⟨rfl, h2⟩⟩
        · exact ⟨0, h1, Or.inr ⟨rfl, h2⟩⟩
      show G _ _ _ _ _ _ _ _ _ _ 28 [(4, .int (nI i - nI (cntM eu eb u b j))), (5, .int (nI j)), (0, .ref a), (1, .int u), (2, .int b), (3, .int (nI i))] [.int r25]
      refine g_if_eq (tgt := 42) dX11_numberOf_28 (by decide) (fun c28 => ?_) (fun c28 => ?_)
      · have hc : cntM eu eb u b (j + 1) = cntM eu eb u b j := cntM_no (by
          rcases k25 with ⟨h1, h2⟩ | ⟨h1, h2⟩
          · rw [h1] at c28; exact absurd c28 (by decide)
          · exact h2)
        have hle2 : cntM eu eb u b (j + 1) ≤ i := by omega
        have hnx : cntM eu eb u b (j + 1) ≤ i ∧ ∀ k, k < j + 1 → eu k = u ∧ eb k = b → cntM eu eb u b k ≠ i := ⟨by omega, fun k hk hm => if hkj : k = j then by subst hkj; rcases k25 with ⟨h1, h2⟩ | ⟨h1, h2⟩; (rw [h1] at c28; exact absurd c28 (by decide)); exact absurd hm h2 else hpv k (by omega) hm⟩
        refine g_iinc (v := nI (j + 1)) dX11_numberOf_42 (k := 1) rfl (nI_1 j) (by decide) rfl ?_
        refine g_goto (tgt := 6) dX11_numberOf_45 (by decide) ?_
        refine g_lv [1, 0, 2, 3, 4, 5] rfl ?_
        rw [← hc]
        exact ih (j + 1) (by omega) (by omega) hnx
      · have hmj : eu j = u ∧ eb j = b := by
          rcases k25 with ⟨h1, h2⟩ | ⟨h1, h2⟩
          · exact h2
          · exact absurd h1 c28
        refine g_iload dX11_numberOf_31 (List.mem_of_getElem? (i := 0) rfl) ?_
        refine g_if_ne (tgt := 39) dX11_numberOf_33 (by decide) (fun c33 => ?_) (fun c33 => ?_)
        · have hne : cntM eu eb u b j ≠ i := fun h => c33 (by rw [h]; exact Int32.sub_self _)
          have hc : cntM eu eb u b (j + 1) = cntM eu eb u b j + 1 := cntM_yes hmj
          have hnx : cntM eu eb u b (j + 1) ≤ i ∧ ∀ k, k < j + 1 → eu k = u ∧ eb k = b → cntM eu eb u b k ≠ i := ⟨by omega, fun k hk hm => if hkj : k = j then by subst hkj; exact hne else hpv k (by omega) hm⟩
          refine g_iinc (v := nI i - nI (cntM eu eb u b j + 1)) dX11_numberOf_39 (k := 0) rfl (by rw [← nI_1]; exact sub_m1 _ _) (by decide) rfl ?_
          refine g_iinc (v := nI (j + 1)) dX11_numberOf_42 (k := 1) rfl (nI_1 j) (by decide) rfl ?_
          refine g_goto (tgt := 6) dX11_numberOf_45 (by decide) ?_
          refine g_lv [1, 0, 2, 3, 4, 5] rfl ?_
          rw [← hc]
          exact ih (j + 1) (by omega) (by omega) hnx
        · have hx : cntM eu eb u b j = i := by
            rw [pk_sub hle] at c33
            have := (nI_eq (a := i - cntM eu eb u b j) (b := 0) (by omega) (by decide)).mp c33
            omega
          refine g_iload dX11_numberOf_36 (List.mem_of_getElem? (i := 1) rfl) ?_
          exact g_iret rfl dX11_numberOf_38 (⟨rfl, Or.inl ⟨j, hj, hmj, hx, rfl⟩⟩)
