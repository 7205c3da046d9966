abbrev mX12_say : hM := (yX12_say, cX12_say, 4, none)
theorem dX12_say_0 : decode cX12_say 0 = .ok (.aload_n 0, 1) := by decide +kernel
theorem dX12_say_1 : decode cX12_say 1 = .ok (.getfield 31, 3) := by decide +kernel
theorem dX12_say_4 : decode cX12_say 4 = .ok (.iload_n 1, 1) := by decide +kernel
theorem dX12_say_5 : decode cX12_say 5 = .ok (.iaload, 1) := by decide +kernel
theorem dX12_say_6 : decode cX12_say 6 = .ok (.istore_n 3, 1) := by decide +kernel
theorem dX12_say_7 : decode cX12_say 7 = .ok (.iload_n 3, 1) := by decide +kernel
theorem dX12_say_8 : decode cX12_say 8 = .ok (.sipush 10000, 3) := by decide +kernel
theorem dX12_say_11 : decode cX12_say 11 = .ok (.if_icmp .ne 4, 3) := by decide +kernel
theorem dX12_say_14 : decode cX12_say 14 = .ok (.return_, 1) := by decide +kernel
theorem dX12_say_15 : decode cX12_say 15 = .ok (.aload_n 0, 1) := by decide +kernel
theorem dX12_say_16 : decode cX12_say 16 = .ok (.getfield 31, 3) := by decide +kernel
theorem dX12_say_19 : decode cX12_say 19 = .ok (.iload_n 1, 1) := by decide +kernel
theorem dX12_say_20 : decode cX12_say 20 = .ok (.iload_n 3, 1) := by decide +kernel
theorem dX12_say_21 : decode cX12_say 21 = .ok (.iconst 1, 1) := by decide +kernel
theorem dX12_say_22 : decode cX12_say 22 = .ok (.iadd, 1) := by decide +kernel
theorem dX12_say_23 : decode cX12_say 23 = .ok (.iastore, 1) := by decide +kernel
theorem dX12_say_24 : decode cX12_say 24 = .ok (.iload_n 1, 1) := by decide +kernel
theorem dX12_say_25 : decode cX12_say 25 = .ok (.tableswitch 67 0 3 #[31, 40, 49, 58], 31) := by decide +kernel
theorem dX12_say_56 : decode cX12_say 56 = .ok (.aload_n 0, 1) := by decide +kernel
theorem dX12_say_57 : decode cX12_say 57 = .ok (.getfield 34, 3) := by decide +kernel
theorem dX12_say_60 : decode cX12_say 60 = .ok (.iload_n 3, 1) := by decide +kernel
theorem dX12_say_61 : decode cX12_say 61 = .ok (.iload_n 2, 1) := by decide +kernel
theorem dX12_say_62 : decode cX12_say 62 = .ok (.i2b, 1) := by decide +kernel
theorem dX12_say_63 : decode cX12_say 63 = .ok (.bastore, 1) := by decide +kernel
theorem dX12_say_64 : decode cX12_say 64 = .ok (.return_, 1) := by decide +kernel
theorem dX12_say_65 : decode cX12_say 65 = .ok (.aload_n 0, 1) := by decide +kernel
theorem dX12_say_66 : decode cX12_say 66 = .ok (.getfield 38, 3) := by decide +kernel
theorem dX12_say_69 : decode cX12_say 69 = .ok (.iload_n 3, 1) := by decide +kernel
theorem dX12_say_70 : decode cX12_say 70 = .ok (.iload_n 2, 1) := by decide +kernel
theorem dX12_say_71 : decode cX12_say 71 = .ok (.i2b, 1) := by decide +kernel
theorem dX12_say_72 : decode cX12_say 72 = .ok (.bastore, 1) := by decide +kernel
theorem dX12_say_73 : decode cX12_say 73 = .ok (.return_, 1) := by decide +kernel
theorem dX12_say_74 : decode cX12_say 74 = .ok (.aload_n 0, 1) := by decide +kernel
theorem dX12_say_75 : decode cX12_say 75 = .ok (.getfield 41, 3) := by decide +kernel
theorem dX12_say_78 : decode cX12_say 78 = .ok (.iload_n 3, 1) := by decide +kernel
theorem dX12_say_79 : decode cX12_say 79 = .ok (.iload_n 2, 1) := by decide +kernel
theorem dX12_say_80 : decode cX12_say 80 = .ok (.i2b, 1) := by decide +kernel
theorem dX12_say_81 : decode cX12_say 81 = .ok (.bastore, 1) := by decide +kernel
theorem dX12_say_82 : decode cX12_say 82 = .ok (.return_, 1) := by decide +kernel
theorem dX12_say_83 : decode cX12_say 83 = .ok (.aload_n 0, 1) := by decide +kernel
theorem dX12_say_84 : decode cX12_say 84 = .ok (.getfield 44, 3) := by decide +kernel
theorem dX12_say_87 : decode cX12_say 87 = .ok (.iload_n 3, 1) := by decide +kernel
theorem dX12_say_88 : decode cX12_say 88 = .ok (.iload_n 2, 1) := by decide +kernel
theorem dX12_say_89 : decode cX12_say 89 = .ok (.i2b, 1) := by decide +kernel
theorem dX12_say_90 : decode cX12_say 90 = .ok (.bastore, 1) := by decide +kernel
theorem dX12_say_91 : decode cX12_say 91 = .ok (.return_, 1) := by decide +kernel
theorem dX12_say_92 : decode cX12_say 92 = .ok (.aload_n 0, 1) := by decide +kernel
theorem dX12_say_93 : decode cX12_say 93 = .ok (.getfield 47, 3) := by decide +kernel
theorem dX12_say_96 : decode cX12_say 96 = .ok (.iload_n 3, 1) := by decide +kernel
theorem dX12_say_97 : decode cX12_say 97 = .ok (.iload_n 2, 1) := by decide +kernel
theorem dX12_say_98 : decode cX12_say 98 = .ok (.i2b, 1) := by decide +kernel
theorem dX12_say_99 : decode cX12_say 99 = .ok (.bastore, 1) := by decide +kernel
theorem dX12_say_100 : decode cX12_say 100 = .ok (.return_, 1) := by decide +kernel
/-- the reference's answers that wait, of the five sessions -/
def mqAt (A : Nat → ClassId) (σ : hS) (n0 : Nat) (qs : Nat → List Int32) : Prop := ∃ ss : Nat → Int32, σ.1 (n0 + 6) = some (.inl (A 0, 5, .inl ss)) ∧ ∀ s : Nat, s < 5 → ss s = nI (qs s).length ∧ (qs s).length ≤ 10000 ∧ ∃ f : Nat → Int32, σ.1 (n0 + 1 + s) = some (.inl (A 1, 10000, .inl f)) ∧ ∀ j : Nat, j < (qs s).length → f j = (qs s).getD j 0
def qset (qs : Nat → List Int32) (s : Nat) (x : List Int32) : Nat → List Int32 := fun j => if j = s then x else qs j
theorem qset_s {qs : Nat → List Int32} {s : Nat} {x : List Int32} : qset qs s x s = x := if_pos rfl
theorem qset_n {qs : Nat → List Int32} {s j : Nat} {x : List Int32} (h : j ≠ s) : qset qs s x j = qs j := if_neg h
theorem qset_id (qs : Nat → List Int32) (s : Nat) : qset qs s (qs s) = qs := by
  funext j
  unfold qset
  by_cases h : j = s
  · rw [if_pos h, h]
  · rw [if_neg h]
theorem qset_2 (qs : Nat → List Int32) (s : Nat) (x y : List Int32) : qset (qset qs s x) s y = qset qs s y := by
  funext j
  unfold qset
  by_cases h : j = s
  · rw [if_pos h, if_pos h]
  · rw [if_neg h, if_neg h, if_neg h]
theorem mq_say {A : Nat → ClassId} {σ σ1 : hS} {n0 s : Nat} {qs : Nat → List Int32} {b : Int32} {ss f : Nat → Int32} (hs : s < 5) (hc : (qs s).length < 10000) (hq : ∀ s : Nat, s < 5 → ss s = nI (qs s).length ∧ (qs s).length ≤ 10000 ∧ ∃ f : Nat → Int32, σ.1 (n0 + 1 + s) = some (.inl (A 1, 10000, .inl f)) ∧ ∀ j : Nat, j < (qs s).length → f j = (qs s).getD j 0) (hf : ∀ j : Nat, j < (qs s).length → f j = (qs s).getD j 0) (e1 : σ1.1 (n0 + 6) = some (.inl (A 0, 5, .inl (upd ss s (nI ((qs s).length + 1)))))) (e2 : σ1.1 (n0 + 1 + s) = some (.inl (A 1, 10000, .inl (upd f (qs s).length b.toInt8.toInt32)))) (eo : ∀ q : Nat, q ≠ n0 + 6 → q ≠ n0 + 1 + s → σ1.1 q = σ.1 q) : mqAt A σ1 n0 (qset qs s (q_add (qs s) b)) := by
  have hadd : q_add (qs s) b = qs s ++ [b.toInt8.toInt32] := by unfold q_add; rw [if_pos hc]
  refine ⟨_, e1, fun r hr => ?_⟩
  by_cases h : r = s
  · subst h
    rw [qset_s, hadd, pk_us]
    refine ⟨by rw [List.length_append]; rfl, by rw [List.length_append]; exact hc, _, e2, fun j hj => ?_⟩
    rw [List.length_append, List.length_singleton] at hj
    by_cases hjl : j = (qs r).length
    · subst hjl
      rw [pk_us]
      simp
    · rw [pk_un hjl, hf j (by omega), List.getD_eq_getElem?_getD, List.getD_eq_getElem?_getD, List.getElem?_append_left (by omega)]
  · rw [qset_n h, pk_un h]
    obtain ⟨h1, h2, f', h3, h4⟩ := hq r hr
    exact ⟨h1, h2, f', (eo _ (by omega) (by omega)).trans h3, h4⟩
set_option maxRecDepth 100000 in
set_option maxHeartbeats 4000000 in
/-- the reference: say, session 0 -/
theorem cm_say0 {l : Launch} {D : va_G} {A : Nat → ClassId} {B : Nat} {Z : State → Heap → Prop} (hZ : h_st B Z) {d : Nat} {σ : hS} {a n0 : Nat} {v : Nat → Int32} (ha : σ.1 a = some (.inr (12, mFs n0 v))) {qs : Nat → List Int32} (hq : mqAt A σ n0 qs) {b : Int32} : Ct l D (h_ty A) B Z d mX12_say σ [.ref a, .int (nI 0), .int b] (fun σ1 w => w = none ∧ mqAt A σ1 n0 (qset qs 0 (q_add (qs 0) b)) ∧ h_fr (fun q => n0 + 1 ≤ q ∧ q ≤ n0 + 6) σ σ1) := by
  obtain ⟨ss, hss, hall⟩ := hq
  obtain ⟨hsl, hsz, f, hff, hf⟩ := hall 0 (by decide)
  refine ct_of rfl hZ (Nat.le_of_ble_eq_true rfl) ?_
  show G _ _ _ _ _ _ _ _ _ _ 0 [(0, .ref a), (1, .int (nI 0)), (2, .int b)] []
  refine g_aload_n dX12_say_0 rfl (List.mem_of_getElem? (i := 0) rfl) ?_
  refine g_get fX12_31 ha (v := .ref (n0 + 6)) (mFs_get (by decide) rfl) dX12_say_1 ?_
  refine g_iload_n dX12_say_4 rfl (List.mem_of_getElem? (i := 1) rfl) ?_
  refine g_iald (t0 := 0) rfl hss (vp_in_nI (n := 0) (by decide) (by decide)) dX12_say_5 ?_
  refine g_eqi (nI (qs 0).length) (by rw [nI_clamp (n := 0) (by decide)]; exact hsl) ?_
  refine g_istore_n dX12_say_6 rfl (by decide) rfl ?_
  refine g_iload_n dX12_say_7 rfl (List.mem_of_getElem? (i := 0) rfl) ?_
  refine g_sipush (v := 10000) dX12_say_8 (by decide) ?_
  refine g_icmp_ne (tgt := 15) dX12_say_11 (by decide) (fun c11 => ?_) (fun c11 => ?_)
  · have c11 : (qs 0).length ≠ 10000 := fun h => c11 (by rw [h]; rfl)
    refine g_aload_n dX12_say_15 rfl (List.mem_of_getElem? (i := 1) rfl) ?_
    refine g_get fX12_31 ha (v := .ref (n0 + 6)) (mFs_get (by decide) rfl) dX12_say_16 ?_
    refine g_iload_n dX12_say_19 rfl (List.mem_of_getElem? (i := 2) rfl) ?_
    refine g_iload_n dX12_say_20 rfl (List.mem_of_getElem? (i := 0) rfl) ?_
    refine g_iconst (v := 1) dX12_say_21 (by decide) ?_
    refine g_iadd dX12_say_22 ?_
    refine g_eqi (nI ((qs 0).length + 1)) (nI_1 _) ?_
    refine g_iast (t0 := 0) rfl hss (vp_in_nI (n := 0) (by decide) (by decide)) dX12_say_23 ?_
    refine g_iload_n dX12_say_24 rfl (List.mem_of_getElem? (i := 2) rfl) ?_
    refine g_tableIn (tgt := 56) (off := 31) dX12_say_25 (by decide) (by decide) rfl (by decide) ?_
    refine g_aload_n dX12_say_56 rfl (List.mem_of_getElem? (i := 1) rfl) ?_
    refine g_get fX12_34 (h_n (h_nk ha hss h_oa) ha) (v := .ref (n0 + 1)) (mFs_get (by decide) rfl) dX12_say_57 ?_
    refine g_iload_n dX12_say_60 rfl (List.mem_of_getElem? (i := 0) rfl) ?_
    refine g_iload_n dX12_say_61 rfl (List.mem_of_getElem? (i := 3) rfl) ?_
    refine g_i2b dX12_say_62 rfl ?_
    refine g_bast (t0 := 1) rfl (h_n (Ne.symm (h_ad (n := n0) (i := 6) (j := 1) (by decide))) hff) (vp_in_nI (by omega) (by decide)) dX12_say_63 ?_
    exact g_vret rfl dX12_say_64 (⟨rfl, mq_say (s := 0) (by decide) (by omega) hall hf (h_n (h_ad (n := n0) (i := 6) (j := 1) (by decide)) h_e) (by rw [show (nI (qs 0).length).toNatClampNeg = (qs 0).length from nI_clamp (by omega), pk_vb]; exact h_e) (fun q h1 h2 => h_n h2 (h_n h1 rfl)), ⟨fun q hq => h_n (fun h => hq (by rw [h]; exact ⟨by omega, by omega⟩)) (h_n (fun h => hq (by rw [h]; exact ⟨by omega, by omega⟩)) rfl), rfl⟩⟩)
  · have c11 : (qs 0).length = 10000 := (nI_eq (by omega) (by decide)).mp c11
    exact g_vret rfl dX12_say_14 (⟨rfl, by rw [show q_add (qs 0) b = qs 0 by unfold q_add; rw [if_neg (by omega)], qset_id]; exact ⟨ss, hss, hall⟩, h_fr.rf⟩)
set_option maxRecDepth 100000 in
set_option maxHeartbeats 4000000 in
/-- the reference: say, session 1 -/
theorem cm_say1 {l : Launch} {D : va_G} {A : Nat → ClassId} {B : Nat} {Z : State → Heap → Prop} (hZ : h_st B Z) {d : Nat} {σ : hS} {a n0 : Nat} {v : Nat → Int32} (ha : σ.1 a = some (.inr (12, mFs n0 v))) {qs : Nat → List Int32} (hq : mqAt A σ n0 qs) {b : Int32} : Ct l D (h_ty A) B Z d mX12_say σ [.ref a, .int (nI 1), .int b] (fun σ1 w => w = none ∧ mqAt A σ1 n0 (qset qs 1 (q_add (qs 1) b)) ∧ h_fr (fun q => n0 + 1 ≤ q ∧ q ≤ n0 + 6) σ σ1) := by
  obtain ⟨ss, hss, hall⟩ := hq
  obtain ⟨hsl, hsz, f, hff, hf⟩ := hall 1 (by decide)
  refine ct_of rfl hZ (Nat.le_of_ble_eq_true rfl) ?_
  show G _ _ _ _ _ _ _ _ _ _ 0 [(0, .ref a), (1, .int (nI 1)), (2, .int b)] []
  refine g_aload_n dX12_say_0 rfl (List.mem_of_getElem? (i := 0) rfl) ?_
  refine g_get fX12_31 ha (v := .ref (n0 + 6)) (mFs_get (by decide) rfl) dX12_say_1 ?_
  refine g_iload_n dX12_say_4 rfl (List.mem_of_getElem? (i := 1) rfl) ?_
  refine g_iald (t0 := 0) rfl hss (vp_in_nI (n := 1) (by decide) (by decide)) dX12_say_5 ?_
  refine g_eqi (nI (qs 1).length) (by rw [nI_clamp (n := 1) (by decide)]; exact hsl) ?_
  refine g_istore_n dX12_say_6 rfl (by decide) rfl ?_
  refine g_iload_n dX12_say_7 rfl (List.mem_of_getElem? (i := 0) rfl) ?_
  refine g_sipush (v := 10000) dX12_say_8 (by decide) ?_
  refine g_icmp_ne (tgt := 15) dX12_say_11 (by decide) (fun c11 => ?_) (fun c11 => ?_)
  · have c11 : (qs 1).length ≠ 10000 := fun h => c11 (by rw [h]; rfl)
    refine g_aload_n dX12_say_15 rfl (List.mem_of_getElem? (i := 1) rfl) ?_
    refine g_get fX12_31 ha (v := .ref (n0 + 6)) (mFs_get (by decide) rfl) dX12_say_16 ?_
    refine g_iload_n dX12_say_19 rfl (List.mem_of_getElem? (i := 2) rfl) ?_
    refine g_iload_n dX12_say_20 rfl (List.mem_of_getElem? (i := 0) rfl) ?_
    refine g_iconst (v := 1) dX12_say_21 (by decide) ?_
    refine g_iadd dX12_say_22 ?_
    refine g_eqi (nI ((qs 1).length + 1)) (nI_1 _) ?_
    refine g_iast (t0 := 0) rfl hss (vp_in_nI (n := 1) (by decide) (by decide)) dX12_say_23 ?_
    refine g_iload_n dX12_say_24 rfl (List.mem_of_getElem? (i := 2) rfl) ?_
    refine g_tableIn (tgt := 65) (off := 40) dX12_say_25 (by decide) (by decide) rfl (by decide) ?_
    refine g_aload_n dX12_say_65 rfl (List.mem_of_getElem? (i := 1) rfl) ?_
    refine g_get fX12_38 (h_n (h_nk ha hss h_oa) ha) (v := .ref (n0 + 2)) (mFs_get (by decide) rfl) dX12_say_66 ?_
    refine g_iload_n dX12_say_69 rfl (List.mem_of_getElem? (i := 0) rfl) ?_
    refine g_iload_n dX12_say_70 rfl (List.mem_of_getElem? (i := 3) rfl) ?_
    refine g_i2b dX12_say_71 rfl ?_
    refine g_bast (t0 := 1) rfl (h_n (Ne.symm (h_ad (n := n0) (i := 6) (j := 2) (by decide))) hff) (vp_in_nI (by omega) (by decide)) dX12_say_72 ?_
    exact g_vret rfl dX12_say_73 (⟨rfl, mq_say (s := 1) (by decide) (by omega) hall hf (h_n (h_ad (n := n0) (i := 6) (j := 2) (by decide)) h_e) (by rw [show (nI (qs 1).length).toNatClampNeg = (qs 1).length from nI_clamp (by omega), pk_vb]; exact h_e) (fun q h1 h2 => h_n h2 (h_n h1 rfl)), ⟨fun q hq => h_n (fun h => hq (by rw [h]; exact ⟨by omega, by omega⟩)) (h_n (fun h => hq (by rw [h]; exact ⟨by omega, by omega⟩)) rfl), rfl⟩⟩)
  · have c11 : (qs 1).length = 10000 := (nI_eq (by omega) (by decide)).mp c11
    exact g_vret rfl dX12_say_14 (⟨rfl, by rw [show q_add (qs 1) b = qs 1 by unfold q_add; rw [if_neg (by omega)], qset_id]; exact ⟨ss, hss, hall⟩, h_fr.rf⟩)
set_option maxRecDepth 100000 in
set_option maxHeartbeats 4000000 in
/-- the reference: say, session 2 -/
theorem cm_say2 {l : Launch} {D : va_G} {A : Nat → ClassId} {B : Nat} {Z : State → Heap → Prop} (hZ : h_st B Z) {d : Nat} {σ : hS} {a n0 : Nat} {v : Nat → Int32} (ha : σ.1 a = some (.inr (12, mFs n0 v))) {qs : Nat → List Int32} (hq : mqAt A σ n0 qs) {b : Int32} : Ct l D (h_ty A) B Z d mX12_say σ [.ref a, .int (nI 2), .int b] (fun σ1 w => w = none ∧ mqAt A σ1 n0 (qset qs 2 (q_add (qs 2) b)) ∧ h_fr (fun q => n0 + 1 ≤ q ∧ q ≤ n0 + 6) σ σ1) := by
  obtain ⟨ss, hss, hall⟩ := hq
  obtain ⟨hsl, hsz, f, hff, hf⟩ := hall 2 (by decide)
  refine ct_of rfl hZ (Nat.le_of_ble_eq_true rfl) ?_
  show G _ _ _ _ _ _ _ _ _ _ 0 [(0, .ref a), (1, .int (nI 2)), (2, .int b)] []
  refine g_aload_n dX12_say_0 rfl (List.mem_of_getElem? (i := 0) rfl) ?_
  refine g_get fX12_31 ha (v := .ref (n0 + 6)) (mFs_get (by decide) rfl) dX12_say_1 ?_
  refine g_iload_n dX12_say_4 rfl (List.mem_of_getElem? (i := 1) rfl) ?_
  refine g_iald (t0 := 0) rfl hss (vp_in_nI (n := 2) (by decide) (by decide)) dX12_say_5 ?_
  refine g_eqi (nI (qs 2).length) (by rw [nI_clamp (n := 2) (by decide)]; exact hsl) ?_
  refine g_istore_n dX12_say_6 rfl (by decide) rfl ?_
  refine g_iload_n dX12_say_7 rfl (List.mem_of_getElem? (i := 0) rfl) ?_
  refine g_sipush (v := 10000) dX12_say_8 (by decide) ?_
  refine g_icmp_ne (tgt := 15) dX12_say_11 (by decide) (fun c11 => ?_) (fun c11 => ?_)
  · have c11 : (qs 2).length ≠ 10000 := fun h => c11 (by rw [h]; rfl)
    refine g_aload_n dX12_say_15 rfl (List.mem_of_getElem? (i := 1) rfl) ?_
    refine g_get fX12_31 ha (v := .ref (n0 + 6)) (mFs_get (by decide) rfl) dX12_say_16 ?_
    refine g_iload_n dX12_say_19 rfl (List.mem_of_getElem? (i := 2) rfl) ?_
    refine g_iload_n dX12_say_20 rfl (List.mem_of_getElem? (i := 0) rfl) ?_
    refine g_iconst (v := 1) dX12_say_21 (by decide) ?_
    refine g_iadd dX12_say_22 ?_
    refine g_eqi (nI ((qs 2).length + 1)) (nI_1 _) ?_
    refine g_iast (t0 := 0) rfl hss (vp_in_nI (n := 2) (by decide) (by decide)) dX12_say_23 ?_
    refine g_iload_n dX12_say_24 rfl (List.mem_of_getElem? (i := 2) rfl) ?_
    refine g_tableIn (tgt := 74) (off := 49) dX12_say_25 (by decide) (by decide) rfl (by decide) ?_
    refine g_aload_n dX12_say_74 rfl (List.mem_of_getElem? (i := 1) rfl) ?_
    refine g_get fX12_41 (h_n (h_nk ha hss h_oa) ha) (v := .ref (n0 + 3)) (mFs_get (by decide) rfl) dX12_say_75 ?_
    refine g_iload_n dX12_say_78 rfl (List.mem_of_getElem? (i := 0) rfl) ?_
    refine g_iload_n dX12_say_79 rfl (List.mem_of_getElem? (i := 3) rfl) ?_
    refine g_i2b dX12_say_80 rfl ?_
    refine g_bast (t0 := 1) rfl (h_n (Ne.symm (h_ad (n := n0) (i := 6) (j := 3) (by decide))) hff) (vp_in_nI (by omega) (by decide)) dX12_say_81 ?_
    exact g_vret rfl dX12_say_82 (⟨rfl, mq_say (s := 2) (by decide) (by omega) hall hf (h_n (h_ad (n := n0) (i := 6) (j := 3) (by decide)) h_e) (by rw [show (nI (qs 2).length).toNatClampNeg = (qs 2).length from nI_clamp (by omega), pk_vb]; exact h_e) (fun q h1 h2 => h_n h2 (h_n h1 rfl)), ⟨fun q hq => h_n (fun h => hq (by rw [h]; exact ⟨by omega, by omega⟩)) (h_n (fun h => hq (by rw [h]; exact ⟨by omega, by omega⟩)) rfl), rfl⟩⟩)
  · have c11 : (qs 2).length = 10000 := (nI_eq (by omega) (by decide)).mp c11
    exact g_vret rfl dX12_say_14 (⟨rfl, by rw [show q_add (qs 2) b = qs 2 by unfold q_add; rw [if_neg (by omega)], qset_id]; exact ⟨ss, hss, hall⟩, h_fr.rf⟩)
set_option maxRecDepth 100000 in
set_option maxHeartbeats 4000000 in
/-- the reference: say, session 3 -/
theorem cm_say3 {l : Launch} {D : va_G} {A : Nat → ClassId} {B : Nat} {Z : State → Heap → Prop} (hZ : h_st B Z) {d : Nat} {σ : hS} {a n0 : Nat} {v : Nat → Int32} (ha : σ.1 a = some (.inr (12, mFs n0 v))) {qs : Nat → List Int32} (hq : mqAt A σ n0 qs) {b : Int32} : Ct l D (h_ty A) B Z d mX12_say σ [.ref a, .int (nI 3), .int b] (fun σ1 w => w = none ∧ mqAt A σ1 n0 (qset qs 3 (q_add (qs 3) b)) ∧ h_fr (fun q => n0 + 1 ≤ q ∧ q ≤ n0 + 6) σ σ1) := by
  obtain ⟨ss, hss, hall⟩ := hq
  obtain ⟨hsl, hsz, f, hff, hf⟩ := hall 3 (by decide)
  refine ct_of rfl hZ (Nat.le_of_ble_eq_true rfl) ?_
  show G _ _ _ _ _ _ _ _ _ _ 0 [(0, .ref a), (1, .int (nI 3)), (2, .int b)] []
  refine g_aload_n dX12_say_0 rfl (List.mem_of_getElem? (i := 0) rfl) ?_
  refine g_get fX12_31 ha (v := .ref (n0 + 6)) (mFs_get (by decide) rfl) dX12_say_1 ?_
  refine g_iload_n dX12_say_4 rfl (List.mem_of_getElem? (i := 1) rfl) ?_
  refine g_iald (t0 := 0) rfl hss (vp_in_nI (n := 3) (by decide) (by decide)) dX12_say_5 ?_
  refine g_eqi (nI (qs 3).length) (by rw [nI_clamp (n := 3) (by decide)]; exact hsl) ?_
  refine g_istore_n dX12_say_6 rfl (by decide) rfl ?_
  refine g_iload_n dX12_say_7 rfl (List.mem_of_getElem? (i := 0) rfl) ?_
  refine g_sipush (v := 10000) dX12_say_8 (by decide) ?_
  refine g_icmp_ne (tgt := 15) dX12_say_11 (by decide) (fun c11 => ?_) (fun c11 => ?_)
  · have c11 : (qs 3).length ≠ 10000 := fun h => c11 (by rw [h]; rfl)
    refine g_aload_n dX12_say_15 rfl (List.mem_of_getElem? (i := 1) rfl) ?_
    refine g_get fX12_31 ha (v := .ref (n0 + 6)) (mFs_get (by decide) rfl) dX12_say_16 ?_
    refine g_iload_n dX12_say_19 rfl (List.mem_of_getElem? (i := 2) rfl) ?_
    refine g_iload_n dX12_say_20 rfl (List.mem_of_getElem? (i := 0) rfl) ?_
    refine g_iconst (v := 1) dX12_say_21 (by decide) ?_
    refine g_iadd dX12_say_22 ?_
    refine g_eqi (nI ((qs 3).length + 1)) (nI_1 _) ?_
    refine g_iast (t0 := 0) rfl hss (vp_in_nI (n := 3) (by decide) (by decide)) dX12_say_23 ?_
    refine g_iload_n dX12_say_24 rfl (List.mem_of_getElem? (i := 2) rfl) ?_
    refine g_tableIn (tgt := 83) (off := 58) dX12_say_25 (by decide) (by decide) rfl (by decide) ?_
    refine g_aload_n dX12_say_83 rfl (List.mem_of_getElem? (i := 1) rfl) ?_
    refine g_get fX12_44 (h_n (h_nk ha hss h_oa) ha) (v := .ref (n0 + 4)) (mFs_get (by decide) rfl) dX12_say_84 ?_
    refine g_iload_n dX12_say_87 rfl (List.mem_of_getElem? (i := 0) rfl) ?_
    refine g_iload_n dX12_say_88 rfl (List.mem_of_getElem? (i := 3) rfl) ?_
    refine g_i2b dX12_say_89 rfl ?_
    refine g_bast (t0 := 1) rfl (h_n (Ne.symm (h_ad (n := n0) (i := 6) (j := 4) (by decide))) hff) (vp_in_nI (by omega) (by decide)) dX12_say_90 ?_
    exact g_vret rfl dX12_say_91 (⟨rfl, mq_say (s := 3) (by decide) (by omega) hall hf (h_n (h_ad (n := n0) (i := 6) (j := 4) (by decide)) h_e) (by rw [show (nI (qs 3).length).toNatClampNeg = (qs 3).length from nI_clamp (by omega), pk_vb]; exact h_e) (fun q h1 h2 => h_n h2 (h_n h1 rfl)), ⟨fun q hq => h_n (fun h => hq (by rw [h]; exact ⟨by omega, by omega⟩)) (h_n (fun h => hq (by rw [h]; exact ⟨by omega, by omega⟩)) rfl), rfl⟩⟩)
  · have c11 : (qs 3).length = 10000 := (nI_eq (by omega) (by decide)).mp c11
    exact g_vret rfl dX12_say_14 (⟨rfl, by rw [show q_add (qs 3) b = qs 3 by unfold q_add; rw [if_neg (by omega)], qset_id]; exact ⟨ss, hss, hall⟩, h_fr.rf⟩)
set_option maxRecDepth 100000 in
set_option maxHeartbeats 4000000 in
/-- the reference: say, session 4 -/
theorem cm_say4 {l : Launch} {D : va_G} {A : Nat → ClassId} {B : Nat} {Z : State → Heap → Prop} (hZ : h_st B Z) {d : Nat} {σ : hS} {a n0 : Nat} {v : Nat → Int32} (ha : σ.1 a = some (.inr (12, mFs n0 v))) {qs : Nat → List Int32} (hq : mqAt A σ n0 qs) {b : Int32} : Ct l D (h_ty A) B Z d mX12_say σ [.ref a, .int (nI 4), .int b] (fun σ1 w => w = none ∧ mqAt A σ1 n0 (qset qs 4 (q_add (qs 4) b)) ∧ h_fr (fun q => n0 + 1 ≤ q ∧ q ≤ n0 + 6) σ σ1) := by
  obtain ⟨ss, hss, hall⟩ := hq
  obtain ⟨hsl, hsz, f, hff, hf⟩ := hall 4 (by decide)
  refine ct_of rfl hZ (Nat.le_of_ble_eq_true rfl) ?_
  show G _ _ _ _ _ _ _ _ _ _ 0 [(0, .ref a), (1, .int (nI 4)), (2, .int b)] []
  refine g_aload_n dX12_say_0 rfl (List.mem_of_getElem? (i := 0) rfl) ?_
  refine g_get fX12_31 ha (v := .ref (n0 + 6)) (mFs_get (by decide) rfl) dX12_say_1 ?_
  refine g_iload_n dX12_say_4 rfl (List.mem_of_getElem? (i := 1) rfl) ?_
  refine g_iald (t0 := 0) rfl hss (vp_in_nI (n := 4) (by decide) (by decide)) dX12_say_5 ?_
  refine g_eqi (nI (qs 4).length) (by rw [nI_clamp (n := 4) (by decide)]; exact hsl) ?_
  refine g_istore_n dX12_say_6 rfl (by decide) rfl ?_
  refine g_iload_n dX12_say_7 rfl (List.mem_of_getElem? (i := 0) rfl) ?_
  refine g_sipush (v := 10000) dX12_say_8 (by decide) ?_
  refine g_icmp_ne (tgt := 15) dX12_say_11 (by decide) (fun c11 => ?_) (fun c11 => ?_)
  · have c11 : (qs 4).length ≠ 10000 := fun h => c11 (by rw [h]; rfl)
    refine g_aload_n dX12_say_15 rfl (List.mem_of_getElem? (i := 1) rfl) ?_
    refine g_get fX12_31 ha (v := .ref (n0 + 6)) (mFs_get (by decide) rfl) dX12_say_16 ?_
    refine g_iload_n dX12_say_19 rfl (List.mem_of_getElem? (i := 2) rfl) ?_
    refine g_iload_n dX12_say_20 rfl (List.mem_of_getElem? (i := 0) rfl) ?_
    refine g_iconst (v := 1) dX12_say_21 (by decide) ?_
    refine g_iadd dX12_say_22 ?_
    refine g_eqi (nI ((qs 4).length + 1)) (nI_1 _) ?_
    refine g_iast (t0 := 0) rfl hss (vp_in_nI (n := 4) (by decide) (by decide)) dX12_say_23 ?_
    refine g_iload_n dX12_say_24 rfl (List.mem_of_getElem? (i := 2) rfl) ?_
    refine g_tableOut (tgt := 92) dX12_say_25 (by decide) (by decide) ?_
    refine g_aload_n dX12_say_92 rfl (List.mem_of_getElem? (i := 1) rfl) ?_
    refine g_get fX12_47 (h_n (h_nk ha hss h_oa) ha) (v := .ref (n0 + 5)) (mFs_get (by decide) rfl) dX12_say_93 ?_
    refine g_iload_n dX12_say_96 rfl (List.mem_of_getElem? (i := 0) rfl) ?_
    refine g_iload_n dX12_say_97 rfl (List.mem_of_getElem? (i := 3) rfl) ?_
    refine g_i2b dX12_say_98 rfl ?_
    refine g_bast (t0 := 1) rfl (h_n (Ne.symm (h_ad (n := n0) (i := 6) (j := 5) (by decide))) hff) (vp_in_nI (by omega) (by decide)) dX12_say_99 ?_
    exact g_vret rfl dX12_say_100 (⟨rfl, mq_say (s := 4) (by decide) (by omega) hall hf (h_n (h_ad (n := n0) (i := 6) (j := 5) (by decide)) h_e) (by rw [show (nI (qs 4).length).toNatClampNeg = (qs 4).length from nI_clamp (by omega), pk_vb]; exact h_e) (fun q h1 h2 => h_n h2 (h_n h1 rfl)), ⟨fun q hq => h_n (fun h => hq (by rw [h]; exact ⟨by omega, by omega⟩)) (h_n (fun h => hq (by rw [h]; exact ⟨by omega, by omega⟩)) rfl), rfl⟩⟩)
  · have c11 : (qs 4).length = 10000 := (nI_eq (by omega) (by decide)).mp c11
    exact g_vret rfl dX12_say_14 (⟨rfl, by rw [show q_add (qs 4) b = qs 4 by unfold q_add; rw [if_neg (by omega)], qset_id]; exact ⟨ss, hss, hall⟩, h_fr.rf⟩)
theorem cm_say {l : Launch} {D : va_G} {A : Nat → ClassId} {B : Nat} {Z : State → Heap → Prop} (hZ : h_st B Z) {d : Nat} {σ : hS} {a n0 : Nat} {v : Nat → Int32} (ha : σ.1 a = some (.inr (12, mFs n0 v))) {qs : Nat → List Int32} (hq : mqAt A σ n0 qs) {s : Nat} (hs5 : s < 5) {b : Int32} : Ct l D (h_ty A) B Z d mX12_say σ [.ref a, .int (nI s), .int b] (fun σ1 w => w = none ∧ mqAt A σ1 n0 (qset qs s (q_add (qs s) b)) ∧ h_fr (fun q => n0 + 1 ≤ q ∧ q ≤ n0 + 6) σ σ1) := by
  rcases (show s = 0 ∨ s = 1 ∨ s = 2 ∨ s = 3 ∨ s = 4 by omega) with rfl | rfl | rfl | rfl | rfl
  · exact cm_say0 hZ ha hq
  · exact cm_say1 hZ ha hq
  · exact cm_say2 hZ ha hq
  · exact cm_say3 hZ ha hq
  · exact cm_say4 hZ ha hq
