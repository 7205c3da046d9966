abbrev mJ7_fill_53178 : hM := (yJ7_fill_53178, cJ7_fill_53178, 4, none)
theorem dJ7_fill_53178_5 : decode cJ7_fill_53178 5 = .ok (.iload_n 2, 1) := by decide +kernel
theorem dJ7_fill_53178_6 : decode cJ7_fill_53178 6 = .ok (.iload_n 3, 1) := by decide +kernel
theorem dJ7_fill_53178_7 : decode cJ7_fill_53178 7 = .ok (.if_icmp .ge 13, 3) := by decide +kernel
theorem dJ7_fill_53178_20 : decode cJ7_fill_53178 20 = .ok (.return_, 1) := by decide +kernel
theorem dJ7_fill_53178_10 : decode cJ7_fill_53178 10 = .ok (.aload_n 0, 1) := by decide +kernel
theorem dJ7_fill_53178_11 : decode cJ7_fill_53178 11 = .ok (.iload_n 2, 1) := by decide +kernel
theorem dJ7_fill_53178_12 : decode cJ7_fill_53178 12 = .ok (.iload_n 1, 1) := by decide +kernel
theorem dJ7_fill_53178_13 : decode cJ7_fill_53178 13 = .ok (.iastore, 1) := by decide +kernel
theorem dJ7_fill_53178_14 : decode cJ7_fill_53178 14 = .ok (.iinc 2 1, 3) := by decide +kernel
theorem dJ7_fill_53178_17 : decode cJ7_fill_53178 17 = .ok (.goto (-12), 3) := by decide +kernel
theorem dJ7_fill_53178_0 : decode cJ7_fill_53178 0 = .ok (.iconst 0, 1) := by decide +kernel
theorem dJ7_fill_53178_1 : decode cJ7_fill_53178 1 = .ok (.istore_n 2, 1) := by decide +kernel
theorem dJ7_fill_53178_2 : decode cJ7_fill_53178 2 = .ok (.aload_n 0, 1) := by decide +kernel
theorem dJ7_fill_53178_3 : decode cJ7_fill_53178 3 = .ok (.arraylength, 1) := by decide +kernel
theorem dJ7_fill_53178_4 : decode cJ7_fill_53178 4 = .ok (.istore_n 3, 1) := by decide +kernel
def fb_J7_fill_53178_5 (K5 : Nat → Int32 → Int32 → Int32 → uS → Option uS) (k0 : Nat) (x1 : Int32) (x2 : Int32) (x3 : Int32) (s : uS) : Option uS := if x3 ≤ x2 then (some s) else ((iput 20 s k0 x2 x1).bind fun s2 => K5 k0 x1 (x2 + 1) x3 s2)
set_option maxRecDepth 100000 in
set_option maxHeartbeats 4000000 in
theorem xb_J7_fill_53178_5 {l : Launch} {D : va_G} {A : Nat → ClassId} {B : Nat} {Z : State → Heap → Prop} {vF : Value} (uk : uK B Z vF) (un : uX A B Z) {K5 : Nat → Int32 → Int32 → Int32 → uS → Option uS} (hK5 : ∀ (k0 : Nat) (x1 : Int32) (x2 : Int32) (x3 : Int32)  (s : uS) (r : uS), K5 k0 x1 x2 x3 s = some r → GU l D A B Z mJ7_fill_53178 0 (r, none) s 5 [(0, .ref (B + k0)), (1, .int x1), (2, .int x2), (3, .int x3)] []) {k0 : Nat} {x1 : Int32} {x2 : Int32} {x3 : Int32} {s : uS} {r : uS}  (h : fb_J7_fill_53178_5 K5 k0 x1 x2 x3 s = some r) : GU l D A B Z mJ7_fill_53178 0 (r, none) s 5 [(0, .ref (B + k0)), (1, .int x1), (2, .int x2), (3, .int x3)] [] := by
  unfold fb_J7_fill_53178_5 at h
  refine uu_iload_n dJ7_fill_53178_5 rfl (List.mem_of_getElem? (i := 2) rfl) ?_
  refine uu_iload_n dJ7_fill_53178_6 rfl (List.mem_of_getElem? (i := 3) rfl) ?_
  refine uu_icmp_ge (tgt := 20) dJ7_fill_53178_7 (by decide) (fun c1 => ?_) (fun c1 => ?_)
  · replace h := uu_pos c1 h
    have hr := Option.some.inj h
    subst hr
    exact uu_vret rfl dJ7_fill_53178_20
  · replace h := uu_neg c1 h
    refine uu_aload_n dJ7_fill_53178_10 rfl (List.mem_of_getElem? (i := 0) rfl) ?_
    refine uu_iload_n dJ7_fill_53178_11 rfl (List.mem_of_getElem? (i := 2) rfl) ?_
    refine uu_iload_n dJ7_fill_53178_12 rfl (List.mem_of_getElem? (i := 1) rfl) ?_
    obtain ⟨s2, e3, h⟩ := uu_ob h
    refine uu_iast e3 dJ7_fill_53178_13 ?_
    refine uu_iinc (v := x2 + 1) dJ7_fill_53178_14 (k := 2) rfl rfl (by decide) rfl ?_
    refine uu_goto (tgt := 5) dJ7_fill_53178_17 (by decide) ?_
    refine uu_lv [1, 2, 0, 3] (lv' := [(0, .ref (B + k0)), (1, .int x1), (2, .int (x2 + 1)), (3, .int x3)]) rfl ?_
    exact hK5 k0 x1 (x2 + 1) x3 _ _ h
def fn_J7_fill_53178_5  : Nat → Nat → Int32 → Int32 → Int32 → uS → Option uS
  | 0 => fun _ _ _ _ _ => none
  | n + 1 => fb_J7_fill_53178_5 (fn_J7_fill_53178_5  n)
set_option maxRecDepth 100000 in
set_option maxHeartbeats 4000000 in
theorem xn_J7_fill_53178_5 {l : Launch} {D : va_G} {A : Nat → ClassId} {B : Nat} {Z : State → Heap → Prop} {vF : Value} (uk : uK B Z vF) (un : uX A B Z)   : ∀ (n : Nat) (k0 : Nat) (x1 : Int32) (x2 : Int32) (x3 : Int32)  (s : uS) (r : uS), fn_J7_fill_53178_5  n k0 x1 x2 x3 s = some r → GU l D A B Z mJ7_fill_53178 0 (r, none) s 5 [(0, .ref (B + k0)), (1, .int x1), (2, .int x2), (3, .int x3)] [] := by
  intro n
  induction n with
  | zero => intro k0 x1 x2 x3 s r h
            cases h
  | succ n ih => intro k0 x1 x2 x3 s r h
                 exact xb_J7_fill_53178_5 uk un ih  h
def fn_J7_fill_53178 (k0 : Nat) (x1 : Int32) (s : uS) : Option uS := (ulen s k0).bind fun v1 => fn_J7_fill_53178_5 uFu k0 x1 0 v1 s
set_option maxRecDepth 100000 in
set_option maxHeartbeats 4000000 in
theorem xc_J7_fill_53178 {l : Launch} {D : va_G} {A : Nat → ClassId} {B : Nat} {Z : State → Heap → Prop} {vF : Value} (uk : uK B Z vF) (un : uX A B Z) {k0 : Nat} {x1 : Int32} {s : uS} {r : uS}  (h : fn_J7_fill_53178 k0 x1 s = some r) : CU l D A B Z 0 mJ7_fill_53178 s [.ref (B + k0), .int x1] (r, none) := by
  unfold fn_J7_fill_53178 at h
  refine cu_of rfl uk.1.1 (Nat.le_of_ble_eq_true rfl) ?_
  show GU _ _ _ _ _ _ _ _ _ 0 [(0, .ref (B + k0)), (1, .int x1)] []
  refine uu_iconst (v := 0) dJ7_fill_53178_0 (by decide) ?_
  refine uu_istore_n dJ7_fill_53178_1 rfl (by decide) rfl ?_
  refine uu_aload_n dJ7_fill_53178_2 rfl (List.mem_of_getElem? (i := 1) rfl) ?_
  obtain ⟨v1, e2, h⟩ := uu_ob h
  refine uu_alen e2 dJ7_fill_53178_3 ?_
  refine uu_istore_n dJ7_fill_53178_4 rfl (by decide) rfl ?_
  refine uu_lv [2, 3, 1, 0] (lv' := [(0, .ref (B + k0)), (1, .int x1), (2, .int 0), (3, .int v1)]) rfl ?_
  exact xn_J7_fill_53178_5 uk un  _ _ _ _ _ _ _ h
abbrev mJ7_checkLength_df160 : hM := (yJ7_checkLength_df160, cJ7_checkLength_df160, 2, none)
theorem dJ7_checkLength_df160_0 : decode cJ7_checkLength_df160 0 = .ok (.iload_n 1, 1) := by decide +kernel
theorem dJ7_checkLength_df160_1 : decode cJ7_checkLength_df160 1 = .ok (.iload_n 0, 1) := by decide +kernel
theorem dJ7_checkLength_df160_2 : decode cJ7_checkLength_df160 2 = .ok (.if_icmp .ge 35, 3) := by decide +kernel
theorem dJ7_checkLength_df160_37 : decode cJ7_checkLength_df160 37 = .ok (.return_, 1) := by decide +kernel
def fn_J7_checkLength_df160 (x0 : Int32) (x1 : Int32) (s : uS) : Option uS := if x0 ≤ x1 then (some s) else (none)
set_option maxRecDepth 100000 in
set_option maxHeartbeats 4000000 in
theorem xc_J7_checkLength_df160 {l : Launch} {D : va_G} {A : Nat → ClassId} {B : Nat} {Z : State → Heap → Prop} {vF : Value} (uk : uK B Z vF) (un : uX A B Z) {x0 : Int32} {x1 : Int32} {s : uS} {r : uS}  (h : fn_J7_checkLength_df160 x0 x1 s = some r) : CU l D A B Z 0 mJ7_checkLength_df160 s [.int x0, .int x1] (r, none) := by
  unfold fn_J7_checkLength_df160 at h
  refine cu_of rfl uk.1.1 (Nat.le_of_ble_eq_true rfl) ?_
  show GU _ _ _ _ _ _ _ _ _ 0 [(0, .int x0), (1, .int x1)] []
  refine uu_iload_n dJ7_checkLength_df160_0 rfl (List.mem_of_getElem? (i := 1) rfl) ?_
  refine uu_iload_n dJ7_checkLength_df160_1 rfl (List.mem_of_getElem? (i := 0) rfl) ?_
  refine uu_icmp_ge (tgt := 37) dJ7_checkLength_df160_2 (by decide) (fun c1 => ?_) (fun c1 => ?_)
  · replace h := uu_pos c1 h
    have hr := Option.some.inj h
    subst hr
    exact uu_vret rfl dJ7_checkLength_df160_37
  · replace h := uu_neg c1 h
    cases h
abbrev mJ7_copyOf_9075b : hM := (yJ7_copyOf_9075b, cJ7_copyOf_9075b, 3, (some (.array FieldType.byte)))
theorem dJ7_copyOf_9075b_0 : decode cJ7_copyOf_9075b 0 = .ok (.iload_n 1, 1) := by decide +kernel
theorem dJ7_copyOf_9075b_1 : decode cJ7_copyOf_9075b 1 = .ok (.aload_n 0, 1) := by decide +kernel
theorem dJ7_copyOf_9075b_2 : decode cJ7_copyOf_9075b 2 = .ok (.arraylength, 1) := by decide +kernel
theorem dJ7_copyOf_9075b_3 : decode cJ7_copyOf_9075b 3 = .ok (.if_icmp .ne 11, 3) := by decide +kernel
theorem dJ7_copyOf_9075b_14 : decode cJ7_copyOf_9075b 14 = .ok (.iload_n 1, 1) := by decide +kernel
theorem dJ7_copyOf_9075b_15 : decode cJ7_copyOf_9075b 15 = .ok (.newarray .byte, 2) := by decide +kernel
theorem dJ7_copyOf_9075b_17 : decode cJ7_copyOf_9075b 17 = .ok (.astore_n 2, 1) := by decide +kernel
theorem dJ7_copyOf_9075b_18 : decode cJ7_copyOf_9075b 18 = .ok (.aload_n 0, 1) := by decide +kernel
theorem dJ7_copyOf_9075b_19 : decode cJ7_copyOf_9075b 19 = .ok (.iconst 0, 1) := by decide +kernel
theorem dJ7_copyOf_9075b_20 : decode cJ7_copyOf_9075b 20 = .ok (.aload_n 2, 1) := by decide +kernel
theorem dJ7_copyOf_9075b_21 : decode cJ7_copyOf_9075b 21 = .ok (.iconst 0, 1) := by decide +kernel
theorem dJ7_copyOf_9075b_22 : decode cJ7_copyOf_9075b 22 = .ok (.aload_n 0, 1) := by decide +kernel
theorem dJ7_copyOf_9075b_23 : decode cJ7_copyOf_9075b 23 = .ok (.arraylength, 1) := by decide +kernel
theorem dJ7_copyOf_9075b_24 : decode cJ7_copyOf_9075b 24 = .ok (.iload_n 1, 1) := by decide +kernel
theorem lJ7_304 : Cond.methodLink RJ7 304 Lib.Math.min.name ∈ lw_g := h_t6 145 rfl rfl
theorem dJ7_copyOf_9075b_25 : decode cJ7_copyOf_9075b 25 = .ok (.invokestatic 304, 3) := by decide +kernel
theorem laJ7_150 : Cond.methodLink RJ7 150 arraycopyName ∈ lw_g := h_t6 146 rfl rfl
theorem dJ7_copyOf_9075b_28 : decode cJ7_copyOf_9075b 28 = .ok (.invokestatic 150, 3) := by decide +kernel
theorem dJ7_copyOf_9075b_31 : decode cJ7_copyOf_9075b 31 = .ok (.aload_n 2, 1) := by decide +kernel
theorem dJ7_copyOf_9075b_32 : decode cJ7_copyOf_9075b 32 = .ok (.areturn, 1) := by decide +kernel
theorem dJ7_copyOf_9075b_6 : decode cJ7_copyOf_9075b 6 = .ok (.aload_n 0, 1) := by decide +kernel
theorem lcJ7_310 : Cond.methodLink RJ7 310 ⟨"[B", "clone", "()Ljava/lang/Object;"⟩ ∈ lw_g := h_t6 138 rfl rfl
theorem dJ7_copyOf_9075b_7 : decode cJ7_copyOf_9075b 7 = .ok (.invokevirtual 310, 3) := by decide +kernel
theorem lkJ7_311 : Cond.classLink RJ7 311 "[B" ∈ lw_g := h_t6 144 rfl rfl
theorem dJ7_copyOf_9075b_10 : decode cJ7_copyOf_9075b 10 = .ok (.checkcast 311, 3) := by decide +kernel
theorem dJ7_copyOf_9075b_13 : decode cJ7_copyOf_9075b 13 = .ok (.areturn, 1) := by decide +kernel
def fn_J7_copyOf_9075b (k0 : Nat) (x1 : Int32) (s : uS) : Option (uS × Nat) := (ulen s k0).bind fun v1 => if x1 = v1 then ((nclo s k0).bind fun s10 => if uIs s10 s.n 21 then (some (s10, s.n)) else none) else ((nbuf s x1).bind fun s4 => (ulen s4 k0).bind fun v6 => (acpy s4 k0 0 s.n 0 (if x1 < v6 then x1 else v6)).bind fun s8 => some (s8, s.n))
set_option maxRecDepth 100000 in
set_option maxHeartbeats 4000000 in
theorem xc_J7_copyOf_9075b {l : Launch} {D : va_G} {A : Nat → ClassId} {B : Nat} {Z : State → Heap → Prop} {vF : Value} (uk : uK B Z vF) (un : uX A B Z) {k0 : Nat} {x1 : Int32} {s : uS} {r : (uS × Nat)}  (h : fn_J7_copyOf_9075b k0 x1 s = some r) : CU l D A B Z 1 mJ7_copyOf_9075b s [.ref (B + k0), .int x1] (r.1, some (.ref (B + r.2))) := by
  unfold fn_J7_copyOf_9075b at h
  refine cu_of rfl uk.1.1 (Nat.le_of_ble_eq_true rfl) ?_
  show GU _ _ _ _ _ _ _ _ _ 0 [(0, .ref (B + k0)), (1, .int x1)] []
  refine uu_iload_n dJ7_copyOf_9075b_0 rfl (List.mem_of_getElem? (i := 1) rfl) ?_
  refine uu_aload_n dJ7_copyOf_9075b_1 rfl (List.mem_of_getElem? (i := 0) rfl) ?_
  obtain ⟨v1, e2, h⟩ := uu_ob h
  refine uu_alen e2 dJ7_copyOf_9075b_2 ?_
  refine uu_icmp_ne (tgt := 14) dJ7_copyOf_9075b_3 (by decide) (fun c3 => ?_) (fun c3 => ?_)
  · replace h := uu_neg c3 h
    refine uu_iload_n dJ7_copyOf_9075b_14 rfl (List.mem_of_getElem? (i := 1) rfl) ?_
    obtain ⟨s4, e5, h⟩ := uu_ob h
    refine uu_newb e5 dJ7_copyOf_9075b_15 ?_
    refine uu_astore_n dJ7_copyOf_9075b_17 rfl (by decide) rfl ?_
    refine uu_aload_n dJ7_copyOf_9075b_18 rfl (List.mem_of_getElem? (i := 1) rfl) ?_
    refine uu_iconst (v := 0) dJ7_copyOf_9075b_19 (by decide) ?_
    refine uu_aload_n dJ7_copyOf_9075b_20 rfl (List.mem_of_getElem? (i := 0) rfl) ?_
    refine uu_iconst (v := 0) dJ7_copyOf_9075b_21 (by decide) ?_
    refine uu_aload_n dJ7_copyOf_9075b_22 rfl (List.mem_of_getElem? (i := 1) rfl) ?_
    obtain ⟨v6, e7, h⟩ := uu_ob h
    refine uu_alen e7 dJ7_copyOf_9075b_23 ?_
    refine uu_iload_n dJ7_copyOf_9075b_24 rfl (List.mem_of_getElem? (i := 2) rfl) ?_
    refine uu_mmin lJ7_304 (by decide) (Nat.le_of_ble_eq_true rfl) dJ7_copyOf_9075b_25 ?_
    obtain ⟨s8, e9, h⟩ := uu_ob h
    refine uu_copy e9 laJ7_150 (by decide) (Nat.le_of_ble_eq_true rfl) dJ7_copyOf_9075b_28 ?_
    refine uu_aload_n dJ7_copyOf_9075b_31 rfl (List.mem_of_getElem? (i := 0) rfl) ?_
    have hr := Option.some.inj h
    subst hr
    exact uu_aret (v := .ref (B + s.n)) rfl (Or.inr ⟨_, rfl⟩) (Or.inr ⟨_, rfl⟩) dJ7_copyOf_9075b_32
  · replace h := uu_pos c3 h
    refine uu_aload_n dJ7_copyOf_9075b_6 rfl (List.mem_of_getElem? (i := 0) rfl) ?_
    obtain ⟨s10, e11, h⟩ := uu_ob h
    refine uu_clone un e11 lcJ7_310 (by decide) (Nat.le_of_ble_eq_true rfl) dJ7_copyOf_9075b_7 ?_
    obtain ⟨g12, h⟩ := uu_grd h
    refine uu_castB g12 lkJ7_311 dJ7_copyOf_9075b_10 ?_
    have hr := Option.some.inj h
    subst hr
    exact uu_aret (v := .ref (B + s.n)) rfl (Or.inr ⟨_, rfl⟩) (Or.inr ⟨_, rfl⟩) dJ7_copyOf_9075b_13
abbrev mJ7_copyOfRangeByte_39247 : hM := (yJ7_copyOfRangeByte_39247, cJ7_copyOfRangeByte_39247, 5, (some (.array FieldType.byte)))
theorem dJ7_copyOfRangeByte_39247_0 : decode cJ7_copyOfRangeByte_39247 0 = .ok (.iload_n 1, 1) := by decide +kernel
theorem dJ7_copyOfRangeByte_39247_1 : decode cJ7_copyOfRangeByte_39247 1 = .ok (.iload_n 2, 1) := by decide +kernel
theorem kJ7_checkLength_df160 : h_ml mJ7_checkLength_df160 2 := ⟨h_t6 195 rfl rfl, h_t1 20 rfl rfl, ⟨by decide, by decide, by decide +kernel⟩, by decide⟩
theorem lJ7_343 : Cond.methodLink RJ7 343 mJ7_checkLength_df160.1 ∈ lw_g := h_t6 193 rfl rfl
theorem sJ7_checkLength_df160 : Cond.static mJ7_checkLength_df160.1 ∈ lw_g := h_t6 194 rfl rfl
theorem dJ7_copyOfRangeByte_39247_2 : decode cJ7_copyOfRangeByte_39247 2 = .ok (.invokestatic 343, 3) := by decide +kernel
theorem dJ7_copyOfRangeByte_39247_5 : decode cJ7_copyOfRangeByte_39247 5 = .ok (.iload_n 2, 1) := by decide +kernel
theorem dJ7_copyOfRangeByte_39247_6 : decode cJ7_copyOfRangeByte_39247 6 = .ok (.iload_n 1, 1) := by decide +kernel
theorem dJ7_copyOfRangeByte_39247_7 : decode cJ7_copyOfRangeByte_39247 7 = .ok (.isub, 1) := by decide +kernel
theorem dJ7_copyOfRangeByte_39247_8 : decode cJ7_copyOfRangeByte_39247 8 = .ok (.istore_n 3, 1) := by decide +kernel
theorem dJ7_copyOfRangeByte_39247_9 : decode cJ7_copyOfRangeByte_39247 9 = .ok (.iload_n 3, 1) := by decide +kernel
theorem dJ7_copyOfRangeByte_39247_10 : decode cJ7_copyOfRangeByte_39247 10 = .ok (.newarray .byte, 2) := by decide +kernel
theorem dJ7_copyOfRangeByte_39247_12 : decode cJ7_copyOfRangeByte_39247 12 = .ok (.astore 4, 2) := by decide +kernel
theorem dJ7_copyOfRangeByte_39247_14 : decode cJ7_copyOfRangeByte_39247 14 = .ok (.aload_n 0, 1) := by decide +kernel
theorem dJ7_copyOfRangeByte_39247_15 : decode cJ7_copyOfRangeByte_39247 15 = .ok (.iload_n 1, 1) := by decide +kernel
theorem dJ7_copyOfRangeByte_39247_16 : decode cJ7_copyOfRangeByte_39247 16 = .ok (.aload 4, 2) := by decide +kernel
theorem dJ7_copyOfRangeByte_39247_18 : decode cJ7_copyOfRangeByte_39247 18 = .ok (.iconst 0, 1) := by decide +kernel
theorem dJ7_copyOfRangeByte_39247_19 : decode cJ7_copyOfRangeByte_39247 19 = .ok (.aload_n 0, 1) := by decide +kernel
theorem dJ7_copyOfRangeByte_39247_20 : decode cJ7_copyOfRangeByte_39247 20 = .ok (.arraylength, 1) := by decide +kernel
theorem dJ7_copyOfRangeByte_39247_21 : decode cJ7_copyOfRangeByte_39247 21 = .ok (.iload_n 1, 1) := by decide +kernel
theorem dJ7_copyOfRangeByte_39247_22 : decode cJ7_copyOfRangeByte_39247 22 = .ok (.isub, 1) := by decide +kernel
theorem dJ7_copyOfRangeByte_39247_23 : decode cJ7_copyOfRangeByte_39247 23 = .ok (.iload_n 3, 1) := by decide +kernel
theorem dJ7_copyOfRangeByte_39247_24 : decode cJ7_copyOfRangeByte_39247 24 = .ok (.invokestatic 304, 3) := by decide +kernel
theorem dJ7_copyOfRangeByte_39247_27 : decode cJ7_copyOfRangeByte_39247 27 = .ok (.invokestatic 150, 3) := by decide +kernel
theorem dJ7_copyOfRangeByte_39247_30 : decode cJ7_copyOfRangeByte_39247 30 = .ok (.aload 4, 2) := by decide +kernel
theorem dJ7_copyOfRangeByte_39247_32 : decode cJ7_copyOfRangeByte_39247 32 = .ok (.areturn, 1) := by decide +kernel
def fn_J7_copyOfRangeByte_39247 (k0 : Nat) (x1 : Int32) (x2 : Int32) (s : uS) : Option (uS × Nat) := (fn_J7_checkLength_df160 x1 x2 s).bind fun s1 => (nbuf s1 (x2 - x1)).bind fun s3 => (ulen s3 k0).bind fun v5 => (acpy s3 k0 x1 s1.n 0 (if (x2 - x1) < (v5 - x1) then (x2 - x1) else (v5 - x1))).bind fun s7 => some (s7, s1.n)
set_option maxRecDepth 100000 in
set_option maxHeartbeats 4000000 in
theorem xc_J7_copyOfRangeByte_39247 {l : Launch} {D : va_G} {A : Nat → ClassId} {B : Nat} {Z : State → Heap → Prop} {vF : Value} (uk : uK B Z vF) (un : uX A B Z) {k0 : Nat} {x1 : Int32} {x2 : Int32} {s : uS} {r : (uS × Nat)}  (h : fn_J7_copyOfRangeByte_39247 k0 x1 x2 s = some r) : CU l D A B Z 1 mJ7_copyOfRangeByte_39247 s [.ref (B + k0), .int x1, .int x2] (r.1, some (.ref (B + r.2))) := by
  unfold fn_J7_copyOfRangeByte_39247 at h
  refine cu_of rfl uk.1.1 (Nat.le_of_ble_eq_true rfl) ?_
  show GU _ _ _ _ _ _ _ _ _ 0 [(0, .ref (B + k0)), (1, .int x1), (2, .int x2)] []
  refine uu_iload_n dJ7_copyOfRangeByte_39247_0 rfl (List.mem_of_getElem? (i := 1) rfl) ?_
  refine uu_iload_n dJ7_copyOfRangeByte_39247_1 rfl (List.mem_of_getElem? (i := 2) rfl) ?_
  obtain ⟨s1, e2, h⟩ := uu_ob h
  refine uu_cs (d1 := 0) (As := [.int x1, .int x2]) (st := []) (st' := []) (xc_J7_checkLength_df160 uk un  e2) kJ7_checkLength_df160 lJ7_343 sJ7_checkLength_df160 (by decide) (Nat.le_of_ble_eq_true rfl) dJ7_copyOfRangeByte_39247_2 rfl ?_
  refine uu_iload_n dJ7_copyOfRangeByte_39247_5 rfl (List.mem_of_getElem? (i := 2) rfl) ?_
  refine uu_iload_n dJ7_copyOfRangeByte_39247_6 rfl (List.mem_of_getElem? (i := 1) rfl) ?_
  refine uu_isub dJ7_copyOfRangeByte_39247_7 ?_
  refine uu_istore_n dJ7_copyOfRangeByte_39247_8 rfl (by decide) rfl ?_
  refine uu_iload_n dJ7_copyOfRangeByte_39247_9 rfl (List.mem_of_getElem? (i := 0) rfl) ?_
  obtain ⟨s3, e4, h⟩ := uu_ob h
  refine uu_newb e4 dJ7_copyOfRangeByte_39247_10 ?_
  refine uu_astore dJ7_copyOfRangeByte_39247_12 (by decide) rfl ?_
  refine uu_aload_n dJ7_copyOfRangeByte_39247_14 rfl (List.mem_of_getElem? (i := 2) rfl) ?_
  refine uu_iload_n dJ7_copyOfRangeByte_39247_15 rfl (List.mem_of_getElem? (i := 3) rfl) ?_
  refine uu_aload dJ7_copyOfRangeByte_39247_16 (List.mem_of_getElem? (i := 0) rfl) ?_
  refine uu_iconst (v := 0) dJ7_copyOfRangeByte_39247_18 (by decide) ?_
  refine uu_aload_n dJ7_copyOfRangeByte_39247_19 rfl (List.mem_of_getElem? (i := 2) rfl) ?_
  obtain ⟨v5, e6, h⟩ := uu_ob h
  refine uu_alen e6 dJ7_copyOfRangeByte_39247_20 ?_
  refine uu_iload_n dJ7_copyOfRangeByte_39247_21 rfl (List.mem_of_getElem? (i := 3) rfl) ?_
  refine uu_isub dJ7_copyOfRangeByte_39247_22 ?_
  refine uu_iload_n dJ7_copyOfRangeByte_39247_23 rfl (List.mem_of_getElem? (i := 1) rfl) ?_
  refine uu_mmin lJ7_304 (by decide) (Nat.le_of_ble_eq_true rfl) dJ7_copyOfRangeByte_39247_24 ?_
  obtain ⟨s7, e8, h⟩ := uu_ob h
  refine uu_copy e8 laJ7_150 (by decide) (Nat.le_of_ble_eq_true rfl) dJ7_copyOfRangeByte_39247_27 ?_
  refine uu_aload dJ7_copyOfRangeByte_39247_30 (List.mem_of_getElem? (i := 0) rfl) ?_
  have hr := Option.some.inj h
  subst hr
  exact uu_aret (v := .ref (B + s1.n)) rfl (Or.inr ⟨_, rfl⟩) (Or.inr ⟨_, rfl⟩) dJ7_copyOfRangeByte_39247_32
abbrev mJ7_copyOfRange_39247 : hM := (yJ7_copyOfRange_39247, cJ7_copyOfRange_39247, 3, (some (.array FieldType.byte)))
theorem dJ7_copyOfRange_39247_10 : decode cJ7_copyOfRange_39247 10 = .ok (.aload_n 0, 1) := by decide +kernel
theorem dJ7_copyOfRange_39247_11 : decode cJ7_copyOfRange_39247 11 = .ok (.iload_n 1, 1) := by decide +kernel
theorem dJ7_copyOfRange_39247_12 : decode cJ7_copyOfRange_39247 12 = .ok (.iload_n 2, 1) := by decide +kernel
theorem kJ7_copyOfRangeByte_39247 : h_ml mJ7_copyOfRangeByte_39247 3 := ⟨h_t6 192 rfl rfl, h_t1 20 rfl rfl, ⟨by decide, by decide, by decide +kernel⟩, by decide⟩
theorem lJ7_339 : Cond.methodLink RJ7 339 mJ7_copyOfRangeByte_39247.1 ∈ lw_g := h_t6 190 rfl rfl
theorem sJ7_copyOfRangeByte_39247 : Cond.static mJ7_copyOfRangeByte_39247.1 ∈ lw_g := h_t6 191 rfl rfl
theorem dJ7_copyOfRange_39247_13 : decode cJ7_copyOfRange_39247 13 = .ok (.invokestatic 339, 3) := by decide +kernel
theorem dJ7_copyOfRange_39247_16 : decode cJ7_copyOfRange_39247 16 = .ok (.areturn, 1) := by decide +kernel
theorem dJ7_copyOfRange_39247_0 : decode cJ7_copyOfRange_39247 0 = .ok (.iload_n 1, 1) := by decide +kernel
theorem dJ7_copyOfRange_39247_1 : decode cJ7_copyOfRange_39247 1 = .ok (.ifCond .ne 9, 3) := by decide +kernel
theorem dJ7_copyOfRange_39247_4 : decode cJ7_copyOfRange_39247 4 = .ok (.iload_n 2, 1) := by decide +kernel
theorem dJ7_copyOfRange_39247_5 : decode cJ7_copyOfRange_39247 5 = .ok (.aload_n 0, 1) := by decide +kernel
theorem dJ7_copyOfRange_39247_6 : decode cJ7_copyOfRange_39247 6 = .ok (.arraylength, 1) := by decide +kernel
theorem dJ7_copyOfRange_39247_7 : decode cJ7_copyOfRange_39247 7 = .ok (.if_icmp .eq 10, 3) := by decide +kernel
theorem dJ7_copyOfRange_39247_17 : decode cJ7_copyOfRange_39247 17 = .ok (.aload_n 0, 1) := by decide +kernel
theorem dJ7_copyOfRange_39247_18 : decode cJ7_copyOfRange_39247 18 = .ok (.invokevirtual 310, 3) := by decide +kernel
theorem dJ7_copyOfRange_39247_21 : decode cJ7_copyOfRange_39247 21 = .ok (.checkcast 311, 3) := by decide +kernel
theorem dJ7_copyOfRange_39247_24 : decode cJ7_copyOfRange_39247 24 = .ok (.areturn, 1) := by decide +kernel
def fb_J7_copyOfRange_39247_10  (k0 : Nat) (x1 : Int32) (x2 : Int32) (s : uS) : Option (uS × Nat) := (fn_J7_copyOfRangeByte_39247 k0 x1 x2 s).bind fun r1 => some (r1.1, r1.2)
set_option maxRecDepth 100000 in
set_option maxHeartbeats 4000000 in
theorem xb_J7_copyOfRange_39247_10 {l : Launch} {D : va_G} {A : Nat → ClassId} {B : Nat} {Z : State → Heap → Prop} {vF : Value} (uk : uK B Z vF) (un : uX A B Z)   {k0 : Nat} {x1 : Int32} {x2 : Int32} {s : uS} {r : (uS × Nat)}  (h : fb_J7_copyOfRange_39247_10  k0 x1 x2 s = some r) : GU l D A B Z mJ7_copyOfRange_39247 2 (r.1, some (.ref (B + r.2))) s 10 [(0, .ref (B + k0)), (1, .int x1), (2, .int x2)] [] := by
  unfold fb_J7_copyOfRange_39247_10 at h
  refine uu_aload_n dJ7_copyOfRange_39247_10 rfl (List.mem_of_getElem? (i := 0) rfl) ?_
  refine uu_iload_n dJ7_copyOfRange_39247_11 rfl (List.mem_of_getElem? (i := 1) rfl) ?_
  refine uu_iload_n dJ7_copyOfRange_39247_12 rfl (List.mem_of_getElem? (i := 2) rfl) ?_
  obtain ⟨r1, e2, h⟩ := uu_ob h
  refine uu_cs (d1 := 1) (As := [.ref (B + k0), .int x1, .int x2]) (st := []) (st' := [.ref (B + r1.2)]) (xc_J7_copyOfRangeByte_39247 uk un  e2) kJ7_copyOfRangeByte_39247 lJ7_339 sJ7_copyOfRangeByte_39247 (by decide) (Nat.le_of_ble_eq_true rfl) dJ7_copyOfRange_39247_13 rfl ?_
  have hr := Option.some.inj h
  subst hr
  exact uu_aret (v := .ref (B + r1.2)) rfl (Or.inr ⟨_, rfl⟩) (Or.inr ⟨_, rfl⟩) dJ7_copyOfRange_39247_16
def fn_J7_copyOfRange_39247 (k0 : Nat) (x1 : Int32) (x2 : Int32) (s : uS) : Option (uS × Nat) := if x1 = 0 then ((ulen s k0).bind fun v2 => if x2 = v2 then ((nclo s k0).bind fun s5 => if uIs s5 s.n 21 then (some (s5, s.n)) else none) else (fb_J7_copyOfRange_39247_10 k0 x1 x2 s)) else (fb_J7_copyOfRange_39247_10 k0 x1 x2 s)
set_option maxRecDepth 100000 in
set_option maxHeartbeats 4000000 in
theorem xc_J7_copyOfRange_39247 {l : Launch} {D : va_G} {A : Nat → ClassId} {B : Nat} {Z : State → Heap → Prop} {vF : Value} (uk : uK B Z vF) (un : uX A B Z) {k0 : Nat} {x1 : Int32} {x2 : Int32} {s : uS} {r : (uS × Nat)}  (h : fn_J7_copyOfRange_39247 k0 x1 x2 s = some r) : CU l D A B Z 2 mJ7_copyOfRange_39247 s [.ref (B + k0), .int x1, .int x2] (r.1, some (.ref (B + r.2))) := by
  unfold fn_J7_copyOfRange_39247 at h
  refine cu_of rfl uk.1.1 (Nat.le_of_ble_eq_true rfl) ?_
  show GU _ _ _ _ _ _ _ _ _ 0 [(0, .ref (B + k0)), (1, .int x1), (2, .int x2)] []
  refine uu_iload_n dJ7_copyOfRange_39247_0 rfl (List.mem_of_getElem? (i := 1) rfl) ?_
  refine uu_if_ne (tgt := 10) dJ7_copyOfRange_39247_1 (by decide) (fun c1 => ?_) (fun c1 => ?_)
  · replace h := uu_neg c1 h
    exact xb_J7_copyOfRange_39247_10 uk un  h
  · replace h := uu_pos c1 h
    refine uu_iload_n dJ7_copyOfRange_39247_4 rfl (List.mem_of_getElem? (i := 2) rfl) ?_
    refine uu_aload_n dJ7_copyOfRange_39247_5 rfl (List.mem_of_getElem? (i := 0) rfl) ?_
    obtain ⟨v2, e3, h⟩ := uu_ob h
    refine uu_alen e3 dJ7_copyOfRange_39247_6 ?_
    refine uu_icmp_eq (tgt := 17) dJ7_copyOfRange_39247_7 (by decide) (fun c4 => ?_) (fun c4 => ?_)
    · replace h := uu_pos c4 h
      refine uu_aload_n dJ7_copyOfRange_39247_17 rfl (List.mem_of_getElem? (i := 0) rfl) ?_
      obtain ⟨s5, e6, h⟩ := uu_ob h
      refine uu_clone un e6 lcJ7_310 (by decide) (Nat.le_of_ble_eq_true rfl) dJ7_copyOfRange_39247_18 ?_
      obtain ⟨g7, h⟩ := uu_grd h
      refine uu_castB g7 lkJ7_311 dJ7_copyOfRange_39247_21 ?_
      have hr := Option.some.inj h
      subst hr
      exact uu_aret (v := .ref (B + s.n)) rfl (Or.inr ⟨_, rfl⟩) (Or.inr ⟨_, rfl⟩) dJ7_copyOfRange_39247_24
    · replace h := uu_neg c4 h
      exact xb_J7_copyOfRange_39247_10 uk un  h
abbrev mX1_init : hM := (yX1_init, cX1_init, 3, none)
theorem dX1_init_0 : decode cX1_init 0 = .ok (.aload_n 0, 1) := by decide +kernel
theorem lX1_1 : Cond.methodLink RX1 1 objectInit ∈ lw_g := h_t6 153 rfl rfl
theorem dX1_init_1 : decode cX1_init 1 = .ok (.invokespecial 1, 3) := by decide +kernel
theorem dX1_init_4 : decode cX1_init 4 = .ok (.aload_n 0, 1) := by decide +kernel
theorem dX1_init_5 : decode cX1_init 5 = .ok (.iconst (-1), 1) := by decide +kernel
theorem fX1_9 : h_fl RX1 9 1 2 RX1 TX1 6 := ⟨rfl, by decide, inX1, h_t6 160 rfl rfl⟩
theorem dX1_init_6 : decode cX1_init 6 = .ok (.putfield 9, 3) := by decide +kernel
theorem dX1_init_9 : decode cX1_init 9 = .ok (.aload_n 0, 1) := by decide +kernel
theorem dX1_init_10 : decode cX1_init 10 = .ok (.aload_n 1, 1) := by decide +kernel
theorem fX1_13 : h_fl RX1 13 1 0 RX1 TX1 6 := ⟨rfl, by decide, inX1, h_t6 154 rfl rfl⟩
theorem dX1_init_11 : decode cX1_init 11 = .ok (.putfield 13, 3) := by decide +kernel
theorem dX1_init_14 : decode cX1_init 14 = .ok (.aload_n 0, 1) := by decide +kernel
theorem dX1_init_15 : decode cX1_init 15 = .ok (.aload_n 2, 1) := by decide +kernel
theorem fX1_17 : h_fl RX1 17 1 1 RX1 TX1 6 := ⟨rfl, by decide, inX1, h_t6 157 rfl rfl⟩
theorem dX1_init_16 : decode cX1_init 16 = .ok (.putfield 17, 3) := by decide +kernel
theorem dX1_init_19 : decode cX1_init 19 = .ok (.return_, 1) := by decide +kernel
def fn_X1_init (k0 : Nat) (k1 : Nat) (k2 : Nat) (s : uS) : Option uS := if uIs s k0 1 then (if uIs (wI s k0 2 (-1)) k0 1 then (if uIs (wR (wI s k0 2 (-1)) k0 0 (some k1)) k0 1 then (some (wR (wR (wI s k0 2 (-1)) k0 0 (some k1)) k0 1 (some k2))) else none) else none) else none
set_option maxRecDepth 100000 in
set_option maxHeartbeats 4000000 in
theorem xc_X1_init {l : Launch} {D : va_G} {A : Nat → ClassId} {B : Nat} {Z : State → Heap → Prop} {vF : Value} (uk : uK B Z vF) (un : uX A B Z) {k0 : Nat} {k1 : Nat} {k2 : Nat} {s : uS} {r : uS}  (h : fn_X1_init k0 k1 k2 s = some r) : CU l D A B Z 1 mX1_init s [.ref (B + k0), .ref (uad A B k1), .ref (B + k2)] (r, none) := by
  unfold fn_X1_init at h
  refine cu_of rfl uk.1.1 (Nat.le_of_ble_eq_true rfl) ?_
  show GU _ _ _ _ _ _ _ _ _ 0 [(0, .ref (B + k0)), (1, .ref (uad A B k1)), (2, .ref (B + k2))] []
  refine uu_aload_n dX1_init_0 rfl (List.mem_of_getElem? (i := 0) rfl) ?_
  refine uu_obj lX1_1 (by decide) (Nat.le_of_ble_eq_true rfl) dX1_init_1 ?_
  refine uu_aload_n dX1_init_4 rfl (List.mem_of_getElem? (i := 0) rfl) ?_
  refine uu_iconst (v := -1) dX1_init_5 (by decide) ?_
  obtain ⟨g1, h⟩ := uu_grd h
  refine uu_puti (ft := .int) (ci := 1) (N := 6) fX1_9 ptX1 (Or.inl rfl) (by decide) g1 (by decide) (by decide) (by decide +kernel) rfl rfl dX1_init_6 ?_
  refine uu_aload_n dX1_init_9 rfl (List.mem_of_getElem? (i := 0) rfl) ?_
  refine uu_aload_n dX1_init_10 rfl (List.mem_of_getElem? (i := 1) rfl) ?_
  obtain ⟨g2, h⟩ := uu_grd h
  refine uu_putl (x := k1) (ft := (.array .byte)) (ci := 1) (N := 6) fX1_13 ptX1 (Or.inl rfl) (by decide) g2 (by decide) (by decide) (by decide +kernel) rfl rfl dX1_init_11 ?_
  refine uu_aload_n dX1_init_14 rfl (List.mem_of_getElem? (i := 0) rfl) ?_
  refine uu_aload_n dX1_init_15 rfl (List.mem_of_getElem? (i := 2) rfl) ?_
  obtain ⟨g3, h⟩ := uu_grd h
  refine uu_putr (x := (some k2)) (ft := (.array .byte)) (ci := 1) (N := 6) fX1_17 ptX1 (Or.inl rfl) (by decide) g3 (by decide) (by decide) (by decide +kernel) rfl rfl dX1_init_16 ?_
  have hr := Option.some.inj h
  subst hr
  exact uu_vret rfl dX1_init_19
abbrev mX9_isDotted : hM := (yX9_isDotted, cX9_isDotted, 9, (some (.boolean)))
theorem dX9_isDotted_84 : decode cX9_isDotted 84 = .ok (.istore 8, 2) := by decide +kernel
theorem dX9_isDotted_86 : decode cX9_isDotted 86 = .ok (.iload 8, 2) := by decide +kernel
theorem dX9_isDotted_88 : decode cX9_isDotted 88 = .ok (.ifCond .ne 33, 3) := by decide +kernel
theorem dX9_isDotted_121 : decode cX9_isDotted 121 = .ok (.iload 7, 2) := by decide +kernel
theorem dX9_isDotted_123 : decode cX9_isDotted 123 = .ok (.istore 5, 2) := by decide +kernel
theorem dX9_isDotted_125 : decode cX9_isDotted 125 = .ok (.iinc 6 1, 3) := by decide +kernel
theorem dX9_isDotted_128 : decode cX9_isDotted 128 = .ok (.goto (-107), 3) := by decide +kernel
theorem dX9_isDotted_91 : decode cX9_isDotted 91 = .ok (.iload 7, 2) := by decide +kernel
theorem dX9_isDotted_93 : decode cX9_isDotted 93 = .ok (.bipush 46, 2) := by decide +kernel
theorem dX9_isDotted_95 : decode cX9_isDotted 95 = .ok (.if_icmp .ne 13, 3) := by decide +kernel
theorem dX9_isDotted_108 : decode cX9_isDotted 108 = .ok (.aload 4, 2) := by decide +kernel
theorem dX9_isDotted_110 : decode cX9_isDotted 110 = .ok (.iload 7, 2) := by decide +kernel
theorem dX9_isDotted_112 : decode cX9_isDotted 112 = .ok (.i2c, 1) := by decide +kernel
theorem lX9_104 : Cond.methodLink RX9 104 mJ0_indexOf_0f7a4.1 ∈ lw_g := h_t3 221 rfl rfl
theorem dX9_isDotted_113 : decode cX9_isDotted 113 = .ok (.invokevirtual 104, 3) := by decide +kernel
theorem dX9_isDotted_116 : decode cX9_isDotted 116 = .ok (.ifCond .ge 5, 3) := by decide +kernel
theorem dX9_isDotted_119 : decode cX9_isDotted 119 = .ok (.iconst 0, 1) := by decide +kernel
theorem dX9_isDotted_120 : decode cX9_isDotted 120 = .ok (.ireturn, 1) := by decide +kernel
theorem dX9_isDotted_98 : decode cX9_isDotted 98 = .ok (.iload 5, 2) := by decide +kernel
theorem dX9_isDotted_100 : decode cX9_isDotted 100 = .ok (.bipush 46, 2) := by decide +kernel
theorem dX9_isDotted_102 : decode cX9_isDotted 102 = .ok (.if_icmp .ne 19, 3) := by decide +kernel
theorem dX9_isDotted_105 : decode cX9_isDotted 105 = .ok (.goto 14, 3) := by decide +kernel
theorem dX9_isDotted_65 : decode cX9_isDotted 65 = .ok (.iload 7, 2) := by decide +kernel
theorem dX9_isDotted_67 : decode cX9_isDotted 67 = .ok (.bipush 48, 2) := by decide +kernel
theorem dX9_isDotted_69 : decode cX9_isDotted 69 = .ok (.if_icmp .lt 14, 3) := by decide +kernel
theorem dX9_isDotted_83 : decode cX9_isDotted 83 = .ok (.iconst 0, 1) := by decide +kernel
theorem dX9_isDotted_72 : decode cX9_isDotted 72 = .ok (.iload 7, 2) := by decide +kernel
theorem dX9_isDotted_74 : decode cX9_isDotted 74 = .ok (.bipush 57, 2) := by decide +kernel
theorem dX9_isDotted_76 : decode cX9_isDotted 76 = .ok (.if_icmp .gt 7, 3) := by decide +kernel
theorem dX9_isDotted_79 : decode cX9_isDotted 79 = .ok (.iconst 1, 1) := by decide +kernel
theorem dX9_isDotted_80 : decode cX9_isDotted 80 = .ok (.goto 4, 3) := by decide +kernel
theorem dX9_isDotted_51 : decode cX9_isDotted 51 = .ok (.iload 7, 2) := by decide +kernel
theorem dX9_isDotted_53 : decode cX9_isDotted 53 = .ok (.bipush 97, 2) := by decide +kernel
theorem dX9_isDotted_55 : decode cX9_isDotted 55 = .ok (.if_icmp .lt 10, 3) := by decide +kernel
theorem dX9_isDotted_58 : decode cX9_isDotted 58 = .ok (.iload 7, 2) := by decide +kernel
theorem dX9_isDotted_60 : decode cX9_isDotted 60 = .ok (.bipush 122, 2) := by decide +kernel
theorem dX9_isDotted_62 : decode cX9_isDotted 62 = .ok (.if_icmp .le 17, 3) := by decide +kernel
theorem dX9_isDotted_21 : decode cX9_isDotted 21 = .ok (.iload 6, 2) := by decide +kernel
theorem dX9_isDotted_23 : decode cX9_isDotted 23 = .ok (.iload_n 2, 1) := by decide +kernel
theorem dX9_isDotted_24 : decode cX9_isDotted 24 = .ok (.if_icmp .ge 107, 3) := by decide +kernel
theorem dX9_isDotted_131 : decode cX9_isDotted 131 = .ok (.iload 5, 2) := by decide +kernel
theorem dX9_isDotted_133 : decode cX9_isDotted 133 = .ok (.bipush 46, 2) := by decide +kernel
theorem dX9_isDotted_135 : decode cX9_isDotted 135 = .ok (.if_icmp .eq 7, 3) := by decide +kernel
theorem dX9_isDotted_142 : decode cX9_isDotted 142 = .ok (.iconst 0, 1) := by decide +kernel
theorem dX9_isDotted_143 : decode cX9_isDotted 143 = .ok (.ireturn, 1) := by decide +kernel
theorem dX9_isDotted_138 : decode cX9_isDotted 138 = .ok (.iconst 1, 1) := by decide +kernel
theorem dX9_isDotted_139 : decode cX9_isDotted 139 = .ok (.goto 4, 3) := by decide +kernel
theorem dX9_isDotted_27 : decode cX9_isDotted 27 = .ok (.aload_n 0, 1) := by decide +kernel
theorem dX9_isDotted_28 : decode cX9_isDotted 28 = .ok (.iload 6, 2) := by decide +kernel
theorem dX9_isDotted_30 : decode cX9_isDotted 30 = .ok (.baload, 1) := by decide +kernel
theorem dX9_isDotted_31 : decode cX9_isDotted 31 = .ok (.sipush 255, 3) := by decide +kernel
theorem dX9_isDotted_34 : decode cX9_isDotted 34 = .ok (.iand, 1) := by decide +kernel
theorem dX9_isDotted_35 : decode cX9_isDotted 35 = .ok (.istore 7, 2) := by decide +kernel
theorem dX9_isDotted_37 : decode cX9_isDotted 37 = .ok (.iload 7, 2) := by decide +kernel
theorem dX9_isDotted_39 : decode cX9_isDotted 39 = .ok (.bipush 65, 2) := by decide +kernel
theorem dX9_isDotted_41 : decode cX9_isDotted 41 = .ok (.if_icmp .lt 10, 3) := by decide +kernel
theorem dX9_isDotted_44 : decode cX9_isDotted 44 = .ok (.iload 7, 2) := by decide +kernel
theorem dX9_isDotted_46 : decode cX9_isDotted 46 = .ok (.bipush 90, 2) := by decide +kernel
theorem dX9_isDotted_48 : decode cX9_isDotted 48 = .ok (.if_icmp .le 31, 3) := by decide +kernel
theorem dX9_isDotted_0 : decode cX9_isDotted 0 = .ok (.iload_n 1, 1) := by decide +kernel
theorem dX9_isDotted_1 : decode cX9_isDotted 1 = .ok (.iload_n 2, 1) := by decide +kernel
theorem dX9_isDotted_2 : decode cX9_isDotted 2 = .ok (.if_icmp .ge 10, 3) := by decide +kernel
theorem dX9_isDotted_12 : decode cX9_isDotted 12 = .ok (.iconst 0, 1) := by decide +kernel
theorem dX9_isDotted_13 : decode cX9_isDotted 13 = .ok (.ireturn, 1) := by decide +kernel
theorem dX9_isDotted_5 : decode cX9_isDotted 5 = .ok (.iload_n 2, 1) := by decide +kernel
theorem dX9_isDotted_6 : decode cX9_isDotted 6 = .ok (.iload_n 1, 1) := by decide +kernel
theorem dX9_isDotted_7 : decode cX9_isDotted 7 = .ok (.isub, 1) := by decide +kernel
theorem dX9_isDotted_8 : decode cX9_isDotted 8 = .ok (.iload_n 3, 1) := by decide +kernel
theorem dX9_isDotted_9 : decode cX9_isDotted 9 = .ok (.if_icmp .le 5, 3) := by decide +kernel
theorem dX9_isDotted_14 : decode cX9_isDotted 14 = .ok (.bipush 46, 2) := by decide +kernel
theorem dX9_isDotted_16 : decode cX9_isDotted 16 = .ok (.istore 5, 2) := by decide +kernel
theorem dX9_isDotted_18 : decode cX9_isDotted 18 = .ok (.iload_n 1, 1) := by decide +kernel
theorem dX9_isDotted_19 : decode cX9_isDotted 19 = .ok (.istore 6, 2) := by decide +kernel
def fb_X9_isDotted_84 (K21 : Nat → Int32 → List Nat → Int32 → Int32 → uS → Option Bool) (k0 : Nat) (x2 : Int32) (w4 : List Nat) (x5 : Int32) (x6 : Int32) (x7 : Int32) (bs0 : Bool) (s : uS) : Option Bool := if bs0 = true then (K21 k0 x2 w4 x7 (x6 + 1) s) else (if x7 = 46 then (if x5 = 46 then (some false) else (K21 k0 x2 w4 x7 (x6 + 1) s)) else (if w4.length < 2 ^ 30 then (if 0 ≤ (stidx w4 ((x7.toUInt32 % 65536).toInt32)) then (K21 k0 x2 w4 x7 (x6 + 1) s) else (some false)) else none))
set_option maxRecDepth 100000 in
set_option maxHeartbeats 4000000 in
theorem xb_X9_isDotted_84 {l : Launch} {D : va_G} {A : Nat → ClassId} {B : Nat} {Z : State → Heap → Prop} {vF : Value} (uk : uK B Z vF) (un : uX A B Z) {K21 : Nat → Int32 → List Nat → Int32 → Int32 → uS → Option Bool} (hK21 : ∀ (k0 : Nat) (x2 : Int32) (w4 : List Nat) (x5 : Int32) (x6 : Int32) {qw4 pw4 : Nat} (hw4 : uStr B Z qw4 pw4 w4) (s : uS) (r : Bool), K21 k0 x2 w4 x5 x6 s = some r → GU l D A B Z mX9_isDotted 4 (s, some (.int (bI r))) s 21 [(0, .ref (B + k0)), (2, .int x2), (4, .ref qw4), (5, .int x5), (6, .int x6)] []) {k0 : Nat} {x2 : Int32} {w4 : List Nat} {x5 : Int32} {x6 : Int32} {x7 : Int32} {bs0 : Bool} {s : uS} {r : Bool} {qw4 pw4 : Nat} (hw4 : uStr B Z qw4 pw4 w4) (h : fb_X9_isDotted_84 K21 k0 x2 w4 x5 x6 x7 bs0 s = some r) : GU l D A B Z mX9_isDotted 4 (s, some (.int (bI r))) s 84 [(0, .ref (B + k0)), (2, .int x2), (4, .ref qw4), (5, .int x5), (6, .int x6), (7, .int x7)] [.int (bI bs0)] := by
  unfold fb_X9_isDotted_84 at h
  refine uu_istore dX9_isDotted_84 (by decide) rfl ?_
  refine uu_iload dX9_isDotted_86 (List.mem_of_getElem? (i := 0) rfl) ?_
  refine uu_ifb_ne (tgt := 121) dX9_isDotted_88 (by decide) (fun c1 => ?_) (fun c1 => ?_)
  · replace h := uu_pos c1 h
    refine uu_iload dX9_isDotted_121 (List.mem_of_getElem? (i := 6) rfl) ?_
    refine uu_istore dX9_isDotted_123 (by decide) rfl ?_
    refine uu_iinc (v := x6 + 1) dX9_isDotted_125 (k := 5) rfl rfl (by decide) rfl ?_
    refine uu_goto (tgt := 21) dX9_isDotted_128 (by decide) ?_
    refine uu_lv [3, 4, 5, 1, 0] (lv' := [(0, .ref (B + k0)), (2, .int x2), (4, .ref qw4), (5, .int x7), (6, .int (x6 + 1))]) rfl ?_
    exact hK21 k0 x2 w4 x7 (x6 + 1) hw4 _ _ h
  · replace h := uu_neg c1 h
    refine uu_iload dX9_isDotted_91 (List.mem_of_getElem? (i := 6) rfl) ?_
    refine uu_bipush (v := 46) dX9_isDotted_93 (by decide) ?_
    refine uu_icmp_ne (tgt := 108) dX9_isDotted_95 (by decide) (fun c2 => ?_) (fun c2 => ?_)
    · replace h := uu_neg c2 h
      refine uu_aload dX9_isDotted_108 (List.mem_of_getElem? (i := 3) rfl) ?_
      refine uu_iload dX9_isDotted_110 (List.mem_of_getElem? (i := 6) rfl) ?_
      refine uu_i2c dX9_isDotted_112 rfl ?_
      obtain ⟨g3, h⟩ := uu_grd h
      refine uu_sidx uk hw4 g3 lX9_104 (by decide) (Nat.le_of_ble_eq_true rfl) dX9_isDotted_113 ?_
      refine uu_if_ge (tgt := 121) dX9_isDotted_116 (by decide) (fun c4 => ?_) (fun c4 => ?_)
      · replace h := uu_pos c4 h
        refine uu_iload dX9_isDotted_121 (List.mem_of_getElem? (i := 6) rfl) ?_
        refine uu_istore dX9_isDotted_123 (by decide) rfl ?_
        refine uu_iinc (v := x6 + 1) dX9_isDotted_125 (k := 5) rfl rfl (by decide) rfl ?_
        refine uu_goto (tgt := 21) dX9_isDotted_128 (by decide) ?_
        refine uu_lv [3, 4, 5, 1, 0] (lv' := [(0, .ref (B + k0)), (2, .int x2), (4, .ref qw4), (5, .int x7), (6, .int (x6 + 1))]) rfl ?_
        exact hK21 k0 x2 w4 x7 (x6 + 1) hw4 _ _ h
      · replace h := uu_neg c4 h
        refine uu_iconst (v := 0) dX9_isDotted_119 (by decide) ?_
        have hr := Option.some.inj h
        subst hr
        exact uu_zret (x := bI false) rfl (bI_z _) dX9_isDotted_120
    · replace h := uu_pos c2 h
      refine uu_iload dX9_isDotted_98 (List.mem_of_getElem? (i := 4) rfl) ?_
      refine uu_bipush (v := 46) dX9_isDotted_100 (by decide) ?_
      refine uu_icmp_ne (tgt := 121) dX9_isDotted_102 (by decide) (fun c5 => ?_) (fun c5 => ?_)
      · replace h := uu_neg c5 h
        refine uu_iload dX9_isDotted_121 (List.mem_of_getElem? (i := 6) rfl) ?_
        refine uu_istore dX9_isDotted_123 (by decide) rfl ?_
        refine uu_iinc (v := x6 + 1) dX9_isDotted_125 (k := 5) rfl rfl (by decide) rfl ?_
        refine uu_goto (tgt := 21) dX9_isDotted_128 (by decide) ?_
        refine uu_lv [3, 4, 5, 1, 0] (lv' := [(0, .ref (B + k0)), (2, .int x2), (4, .ref qw4), (5, .int x7), (6, .int (x6 + 1))]) rfl ?_
        exact hK21 k0 x2 w4 x7 (x6 + 1) hw4 _ _ h
      · replace h := uu_pos c5 h
        refine uu_goto (tgt := 119) dX9_isDotted_105 (by decide) ?_
        refine uu_iconst (v := 0) dX9_isDotted_119 (by decide) ?_
        have hr := Option.some.inj h
        subst hr
        exact uu_zret (x := bI false) rfl (bI_z _) dX9_isDotted_120
def fb_X9_isDotted_65 (K21 : Nat → Int32 → List Nat → Int32 → Int32 → uS → Option Bool) (k0 : Nat) (x2 : Int32) (w4 : List Nat) (x5 : Int32) (x6 : Int32) (x7 : Int32) (s : uS) : Option Bool := if x7 < 48 then (fb_X9_isDotted_84 K21 k0 x2 w4 x5 x6 x7 false s) else (if (57 : Int32) < x7 then (fb_X9_isDotted_84 K21 k0 x2 w4 x5 x6 x7 false s) else (fb_X9_isDotted_84 K21 k0 x2 w4 x5 x6 x7 true s))
set_option maxRecDepth 100000 in
set_option maxHeartbeats 4000000 in
theorem xb_X9_isDotted_65 {l : Launch} {D : va_G} {A : Nat → ClassId} {B : Nat} {Z : State → Heap → Prop} {vF : Value} (uk : uK B Z vF) (un : uX A B Z) {K21 : Nat → Int32 → List Nat → Int32 → Int32 → uS → Option Bool} (hK21 : ∀ (k0 : Nat) (x2 : Int32) (w4 : List Nat) (x5 : Int32) (x6 : Int32) {qw4 pw4 : Nat} (hw4 : uStr B Z qw4 pw4 w4) (s : uS) (r : Bool), K21 k0 x2 w4 x5 x6 s = some r → GU l D A B Z mX9_isDotted 4 (s, some (.int (bI r))) s 21 [(0, .ref (B + k0)), (2, .int x2), (4, .ref qw4), (5, .int x5), (6, .int x6)] []) {k0 : Nat} {x2 : Int32} {w4 : List Nat} {x5 : Int32} {x6 : Int32} {x7 : Int32} {s : uS} {r : Bool} {qw4 pw4 : Nat} (hw4 : uStr B Z qw4 pw4 w4) (h : fb_X9_isDotted_65 K21 k0 x2 w4 x5 x6 x7 s = some r) : GU l D A B Z mX9_isDotted 4 (s, some (.int (bI r))) s 65 [(0, .ref (B + k0)), (2, .int x2), (4, .ref qw4), (5, .int x5), (6, .int x6), (7, .int x7)] [] := by
  unfold fb_X9_isDotted_65 at h
  refine uu_iload dX9_isDotted_65 (List.mem_of_getElem? (i := 5) rfl) ?_
  refine uu_bipush (v := 48) dX9_isDotted_67 (by decide) ?_
  refine uu_icmp_lt (tgt := 83) dX9_isDotted_69 (by decide) (fun c1 => ?_) (fun c1 => ?_)
  · replace h := uu_pos c1 h
    refine uu_iconst (v := 0) dX9_isDotted_83 (by decide) ?_
    exact xb_X9_isDotted_84 uk un hK21 hw4 h
  · replace h := uu_neg c1 h
    refine uu_iload dX9_isDotted_72 (List.mem_of_getElem? (i := 5) rfl) ?_
    refine uu_bipush (v := 57) dX9_isDotted_74 (by decide) ?_
    refine uu_icmp_gt (tgt := 83) dX9_isDotted_76 (by decide) (fun c2 => ?_) (fun c2 => ?_)
    · replace h := uu_pos c2 h
      refine uu_iconst (v := 0) dX9_isDotted_83 (by decide) ?_
      exact xb_X9_isDotted_84 uk un hK21 hw4 h
    · replace h := uu_neg c2 h
      refine uu_iconst (v := 1) dX9_isDotted_79 (by decide) ?_
      refine uu_goto (tgt := 84) dX9_isDotted_80 (by decide) ?_
      exact xb_X9_isDotted_84 uk un hK21 hw4 h
def fb_X9_isDotted_51 (K21 : Nat → Int32 → List Nat → Int32 → Int32 → uS → Option Bool) (k0 : Nat) (x2 : Int32) (w4 : List Nat) (x5 : Int32) (x6 : Int32) (x7 : Int32) (s : uS) : Option Bool := if x7 < 97 then (fb_X9_isDotted_65 K21 k0 x2 w4 x5 x6 x7 s) else (if x7 ≤ 122 then (fb_X9_isDotted_84 K21 k0 x2 w4 x5 x6 x7 true s) else (fb_X9_isDotted_65 K21 k0 x2 w4 x5 x6 x7 s))
set_option maxRecDepth 100000 in
set_option maxHeartbeats 4000000 in
theorem xb_X9_isDotted_51 {l : Launch} {D : va_G} {A : Nat → ClassId} {B : Nat} {Z : State → Heap → Prop} {vF : Value} (uk : uK B Z vF) (un : uX A B Z) {K21 : Nat → Int32 → List Nat → Int32 → Int32 → uS → Option Bool} (hK21 : ∀ (k0 : Nat) (x2 : Int32) (w4 : List Nat) (x5 : Int32) (x6 : Int32) {qw4 pw4 : Nat} (hw4 : uStr B Z qw4 pw4 w4) (s : uS) (r : Bool), K21 k0 x2 w4 x5 x6 s = some r → GU l D A B Z mX9_isDotted 4 (s, some (.int (bI r))) s 21 [(0, .ref (B + k0)), (2, .int x2), (4, .ref qw4), (5, .int x5), (6, .int x6)] []) {k0 : Nat} {x2 : Int32} {w4 : List Nat} {x5 : Int32} {x6 : Int32} {x7 : Int32} {s : uS} {r : Bool} {qw4 pw4 : Nat} (hw4 : uStr B Z qw4 pw4 w4) (h : fb_X9_isDotted_51 K21 k0 x2 w4 x5 x6 x7 s = some r) : GU l D A B Z mX9_isDotted 4 (s, some (.int (bI r))) s 51 [(0, .ref (B + k0)), (2, .int x2), (4, .ref qw4), (5, .int x5), (6, .int x6), (7, .int x7)] [] := by
  unfold fb_X9_isDotted_51 at h
  refine uu_iload dX9_isDotted_51 (List.mem_of_getElem? (i := 5) rfl) ?_
  refine uu_bipush (v := 97) dX9_isDotted_53 (by decide) ?_
  refine uu_icmp_lt (tgt := 65) dX9_isDotted_55 (by decide) (fun c1 => ?_) (fun c1 => ?_)
  · replace h := uu_pos c1 h
    exact xb_X9_isDotted_65 uk un hK21 hw4 h
  · replace h := uu_neg c1 h
    refine uu_iload dX9_isDotted_58 (List.mem_of_getElem? (i := 5) rfl) ?_
    refine uu_bipush (v := 122) dX9_isDotted_60 (by decide) ?_
    refine uu_icmp_le (tgt := 79) dX9_isDotted_62 (by decide) (fun c2 => ?_) (fun c2 => ?_)
    · replace h := uu_pos c2 h
      refine uu_iconst (v := 1) dX9_isDotted_79 (by decide) ?_
      refine uu_goto (tgt := 84) dX9_isDotted_80 (by decide) ?_
      exact xb_X9_isDotted_84 uk un hK21 hw4 h
    · replace h := uu_neg c2 h
      exact xb_X9_isDotted_65 uk un hK21 hw4 h
def fb_X9_isDotted_21 (K21 : Nat → Int32 → List Nat → Int32 → Int32 → uS → Option Bool) (k0 : Nat) (x2 : Int32) (w4 : List Nat) (x5 : Int32) (x6 : Int32) (s : uS) : Option Bool := if x2 ≤ x6 then (if x5 = 46 then (some false) else (some true)) else ((iget 21 s k0 x6).bind fun v3 => if (v3 &&& 255) < 65 then (fb_X9_isDotted_51 K21 k0 x2 w4 x5 x6 (v3 &&& 255) s) else (if (v3 &&& 255) ≤ 90 then (fb_X9_isDotted_84 K21 k0 x2 w4 x5 x6 (v3 &&& 255) true s) else (fb_X9_isDotted_51 K21 k0 x2 w4 x5 x6 (v3 &&& 255) s)))
set_option maxRecDepth 100000 in
set_option maxHeartbeats 4000000 in
theorem xb_X9_isDotted_21 {l : Launch} {D : va_G} {A : Nat → ClassId} {B : Nat} {Z : State → Heap → Prop} {vF : Value} (uk : uK B Z vF) (un : uX A B Z) {K21 : Nat → Int32 → List Nat → Int32 → Int32 → uS → Option Bool} (hK21 : ∀ (k0 : Nat) (x2 : Int32) (w4 : List Nat) (x5 : Int32) (x6 : Int32) {qw4 pw4 : Nat} (hw4 : uStr B Z qw4 pw4 w4) (s : uS) (r : Bool), K21 k0 x2 w4 x5 x6 s = some r → GU l D A B Z mX9_isDotted 4 (s, some (.int (bI r))) s 21 [(0, .ref (B + k0)), (2, .int x2), (4, .ref qw4), (5, .int x5), (6, .int x6)] []) {k0 : Nat} {x2 : Int32} {w4 : List Nat} {x5 : Int32} {x6 : Int32} {s : uS} {r : Bool} {qw4 pw4 : Nat} (hw4 : uStr B Z qw4 pw4 w4) (h : fb_X9_isDotted_21 K21 k0 x2 w4 x5 x6 s = some r) : GU l D A B Z mX9_isDotted 4 (s, some (.int (bI r))) s 21 [(0, .ref (B + k0)), (2, .int x2), (4, .ref qw4), (5, .int x5), (6, .int x6)] [] := by
  unfold fb_X9_isDotted_21 at h
  refine uu_iload dX9_isDotted_21 (List.mem_of_getElem? (i := 4) rfl) ?_
  refine uu_iload_n dX9_isDotted_23 rfl (List.mem_of_getElem? (i := 1) rfl) ?_
  refine uu_icmp_ge (tgt := 131) dX9_isDotted_24 (by decide) (fun c1 => ?_) (fun c1 => ?_)
  · replace h := uu_pos c1 h
    refine uu_iload dX9_isDotted_131 (List.mem_of_getElem? (i := 3) rfl) ?_
    refine uu_bipush (v := 46) dX9_isDotted_133 (by decide) ?_
    refine uu_icmp_eq (tgt := 142) dX9_isDotted_135 (by decide) (fun c2 => ?_) (fun c2 => ?_)
    · replace h := uu_pos c2 h
      refine uu_iconst (v := 0) dX9_isDotted_142 (by decide) ?_
      have hr := Option.some.inj h
      subst hr
      exact uu_zret (x := bI false) rfl (bI_z _) dX9_isDotted_143
    · replace h := uu_neg c2 h
      refine uu_iconst (v := 1) dX9_isDotted_138 (by decide) ?_
      refine uu_goto (tgt := 143) dX9_isDotted_139 (by decide) ?_
      have hr := Option.some.inj h
      subst hr
      exact uu_zret (x := bI true) rfl (bI_z _) dX9_isDotted_143
  · replace h := uu_neg c1 h
    refine uu_aload_n dX9_isDotted_27 rfl (List.mem_of_getElem? (i := 0) rfl) ?_
    refine uu_iload dX9_isDotted_28 (List.mem_of_getElem? (i := 4) rfl) ?_
    obtain ⟨v3, e4, h⟩ := uu_ob h
    refine uu_bald e4 dX9_isDotted_30 ?_
    refine uu_sipush (v := 255) dX9_isDotted_31 (by decide) ?_
    refine uu_iand dX9_isDotted_34 ?_
    refine uu_istore dX9_isDotted_35 (by decide) rfl ?_
    refine uu_iload dX9_isDotted_37 (List.mem_of_getElem? (i := 0) rfl) ?_
    refine uu_bipush (v := 65) dX9_isDotted_39 (by decide) ?_
    refine uu_icmp_lt (tgt := 51) dX9_isDotted_41 (by decide) (fun c5 => ?_) (fun c5 => ?_)
    · replace h := uu_pos c5 h
      refine uu_lv [1, 2, 3, 4, 5, 0] (lv' := [(0, .ref (B + k0)), (2, .int x2), (4, .ref qw4), (5, .int x5), (6, .int x6), (7, .int (v3 &&& 255))]) rfl ?_
      exact xb_X9_isDotted_51 uk un hK21 hw4 h
    · replace h := uu_neg c5 h
      refine uu_iload dX9_isDotted_44 (List.mem_of_getElem? (i := 0) rfl) ?_
      refine uu_bipush (v := 90) dX9_isDotted_46 (by decide) ?_
      refine uu_icmp_le (tgt := 79) dX9_isDotted_48 (by decide) (fun c6 => ?_) (fun c6 => ?_)
      · replace h := uu_pos c6 h
        refine uu_iconst (v := 1) dX9_isDotted_79 (by decide) ?_
        refine uu_goto (tgt := 84) dX9_isDotted_80 (by decide) ?_
        refine uu_lv [1, 2, 3, 4, 5, 0] (lv' := [(0, .ref (B + k0)), (2, .int x2), (4, .ref qw4), (5, .int x5), (6, .int x6), (7, .int (v3 &&& 255))]) rfl ?_
        exact xb_X9_isDotted_84 uk un hK21 hw4 h
      · replace h := uu_neg c6 h
        refine uu_lv [1, 2, 3, 4, 5, 0] (lv' := [(0, .ref (B + k0)), (2, .int x2), (4, .ref qw4), (5, .int x5), (6, .int x6), (7, .int (v3 &&& 255))]) rfl ?_
        exact xb_X9_isDotted_51 uk un hK21 hw4 h
def fn_X9_isDotted_21  : Nat → Nat → Int32 → List Nat → Int32 → Int32 → uS → Option Bool
  | 0 => fun _ _ _ _ _ _ => none
  | n + 1 => fb_X9_isDotted_21 (fn_X9_isDotted_21  n)
set_option maxRecDepth 100000 in
set_option maxHeartbeats 4000000 in
theorem xn_X9_isDotted_21 {l : Launch} {D : va_G} {A : Nat → ClassId} {B : Nat} {Z : State → Heap → Prop} {vF : Value} (uk : uK B Z vF) (un : uX A B Z)   : ∀ (n : Nat) (k0 : Nat) (x2 : Int32) (w4 : List Nat) (x5 : Int32) (x6 : Int32) {qw4 pw4 : Nat} (hw4 : uStr B Z qw4 pw4 w4) (s : uS) (r : Bool), fn_X9_isDotted_21  n k0 x2 w4 x5 x6 s = some r → GU l D A B Z mX9_isDotted 4 (s, some (.int (bI r))) s 21 [(0, .ref (B + k0)), (2, .int x2), (4, .ref qw4), (5, .int x5), (6, .int x6)] [] := by
  intro n
  induction n with
  | zero => intro k0 x2 w4 x5 x6 qw4 pw4 hw4 s r h
            cases h
  | succ n ih => intro k0 x2 w4 x5 x6 qw4 pw4 hw4 s r h
                 exact xb_X9_isDotted_21 uk un ih hw4 h
def fn_X9_isDotted (k0 : Nat) (x1 : Int32) (x2 : Int32) (x3 : Int32) (w4 : List Nat) (s : uS) : Option Bool := if x2 ≤ x1 then (some false) else (if (x2 - x1) ≤ x3 then (fn_X9_isDotted_21 uFu k0 x2 w4 46 x1 s) else (some false))
set_option maxRecDepth 100000 in
set_option maxHeartbeats 4000000 in
theorem xc_X9_isDotted {l : Launch} {D : va_G} {A : Nat → ClassId} {B : Nat} {Z : State → Heap → Prop} {vF : Value} (uk : uK B Z vF) (un : uX A B Z) {k0 : Nat} {x1 : Int32} {x2 : Int32} {x3 : Int32} {w4 : List Nat} {s : uS} {r : Bool} {qw4 pw4 : Nat} (hw4 : uStr B Z qw4 pw4 w4) (h : fn_X9_isDotted k0 x1 x2 x3 w4 s = some r) : CU l D A B Z 4 mX9_isDotted s [.ref (B + k0), .int x1, .int x2, .int x3, .ref qw4] (s, some (.int (bI r))) := by
  unfold fn_X9_isDotted at h
  refine cu_of rfl uk.1.1 (Nat.le_of_ble_eq_true rfl) ?_
  show GU _ _ _ _ _ _ _ _ _ 0 [(0, .ref (B + k0)), (1, .int x1), (2, .int x2), (3, .int x3), (4, .ref qw4)] []
  refine uu_iload_n dX9_isDotted_0 rfl (List.mem_of_getElem? (i := 1) rfl) ?_
  refine uu_iload_n dX9_isDotted_1 rfl (List.mem_of_getElem? (i := 2) rfl) ?_
  refine uu_icmp_ge (tgt := 12) dX9_isDotted_2 (by decide) (fun c1 => ?_) (fun c1 => ?_)
  · replace h := uu_pos c1 h
    refine uu_iconst (v := 0) dX9_isDotted_12 (by decide) ?_
    have hr := Option.some.inj h
    subst hr
    exact uu_zret (x := bI false) rfl (bI_z _) dX9_isDotted_13
  · replace h := uu_neg c1 h
    refine uu_iload_n dX9_isDotted_5 rfl (List.mem_of_getElem? (i := 2) rfl) ?_
    refine uu_iload_n dX9_isDotted_6 rfl (List.mem_of_getElem? (i := 1) rfl) ?_
    refine uu_isub dX9_isDotted_7 ?_
    refine uu_iload_n dX9_isDotted_8 rfl (List.mem_of_getElem? (i := 3) rfl) ?_
    refine uu_icmp_le (tgt := 14) dX9_isDotted_9 (by decide) (fun c2 => ?_) (fun c2 => ?_)
    · replace h := uu_pos c2 h
      refine uu_bipush (v := 46) dX9_isDotted_14 (by decide) ?_
      refine uu_istore dX9_isDotted_16 (by decide) rfl ?_
      refine uu_iload_n dX9_isDotted_18 rfl (List.mem_of_getElem? (i := 2) rfl) ?_
      refine uu_istore dX9_isDotted_19 (by decide) rfl ?_
      refine uu_lv [2, 4, 6, 1, 0] (lv' := [(0, .ref (B + k0)), (2, .int x2), (4, .ref qw4), (5, .int 46), (6, .int x1)]) rfl ?_
      exact xn_X9_isDotted_21 uk un  _ _ _ _ _ _ hw4 _ _ h
    · replace h := uu_neg c2 h
      refine uu_iconst (v := 0) dX9_isDotted_12 (by decide) ?_
      have hr := Option.some.inj h
      subst hr
      exact uu_zret (x := bI false) rfl (bI_z _) dX9_isDotted_13
abbrev mX9_isAddress : hM := (yX9_isAddress, cX9_isAddress, 4, (some (.boolean)))
theorem dX9_isAddress_0 : decode cX9_isAddress 0 = .ok (.aload_n 0, 1) := by decide +kernel
theorem dX9_isAddress_1 : decode cX9_isAddress 1 = .ok (.iload_n 1, 1) := by decide +kernel
theorem dX9_isAddress_2 : decode cX9_isAddress 2 = .ok (.iload_n 2, 1) := by decide +kernel
theorem dX9_isAddress_3 : decode cX9_isAddress 3 = .ok (.bipush 64, 2) := by decide +kernel
theorem lX9_92 : Cond.methodLink RX9 92 mX9_find.1 ∈ lw_g := h_t4 63 rfl rfl
theorem dX9_isAddress_5 : decode cX9_isAddress 5 = .ok (.invokestatic 92, 3) := by decide +kernel
theorem dX9_isAddress_8 : decode cX9_isAddress 8 = .ok (.istore_n 3, 1) := by decide +kernel
theorem dX9_isAddress_9 : decode cX9_isAddress 9 = .ok (.iload_n 3, 1) := by decide +kernel
theorem dX9_isAddress_10 : decode cX9_isAddress 10 = .ok (.ifCond .lt 35, 3) := by decide +kernel
theorem dX9_isAddress_45 : decode cX9_isAddress 45 = .ok (.iconst 0, 1) := by decide +kernel
theorem dX9_isAddress_46 : decode cX9_isAddress 46 = .ok (.ireturn, 1) := by decide +kernel
theorem dX9_isAddress_13 : decode cX9_isAddress 13 = .ok (.aload_n 0, 1) := by decide +kernel
theorem dX9_isAddress_14 : decode cX9_isAddress 14 = .ok (.iload_n 1, 1) := by decide +kernel
theorem dX9_isAddress_15 : decode cX9_isAddress 15 = .ok (.iload_n 3, 1) := by decide +kernel
theorem dX9_isAddress_16 : decode cX9_isAddress 16 = .ok (.bipush 40, 2) := by decide +kernel
theorem dX9_isAddress_18 : decode cX9_isAddress 18 = .ok (.ldc 96, 2) := by decide +kernel
theorem kX9_isDotted : h_ml mX9_isDotted 5 := ⟨h_t3 220 rfl rfl, h_t1 4 rfl rfl, ⟨by decide, by decide, by decide +kernel⟩, by decide⟩
theorem lX9_98 : Cond.methodLink RX9 98 mX9_isDotted.1 ∈ lw_g := h_t3 218 rfl rfl
theorem sX9_isDotted : Cond.static mX9_isDotted.1 ∈ lw_g := h_t3 219 rfl rfl
theorem dX9_isAddress_20 : decode cX9_isAddress 20 = .ok (.invokestatic 98, 3) := by decide +kernel
theorem dX9_isAddress_23 : decode cX9_isAddress 23 = .ok (.ifCond .eq 22, 3) := by decide +kernel
theorem dX9_isAddress_26 : decode cX9_isAddress 26 = .ok (.aload_n 0, 1) := by decide +kernel
theorem dX9_isAddress_27 : decode cX9_isAddress 27 = .ok (.iload_n 3, 1) := by decide +kernel
theorem dX9_isAddress_28 : decode cX9_isAddress 28 = .ok (.iconst 1, 1) := by decide +kernel
theorem dX9_isAddress_29 : decode cX9_isAddress 29 = .ok (.iadd, 1) := by decide +kernel
theorem dX9_isAddress_30 : decode cX9_isAddress 30 = .ok (.iload_n 2, 1) := by decide +kernel
theorem dX9_isAddress_31 : decode cX9_isAddress 31 = .ok (.bipush 60, 2) := by decide +kernel
theorem dX9_isAddress_33 : decode cX9_isAddress 33 = .ok (.ldc 102, 2) := by decide +kernel
theorem dX9_isAddress_35 : decode cX9_isAddress 35 = .ok (.invokestatic 98, 3) := by decide +kernel
theorem dX9_isAddress_38 : decode cX9_isAddress 38 = .ok (.ifCond .eq 7, 3) := by decide +kernel
theorem dX9_isAddress_41 : decode cX9_isAddress 41 = .ok (.iconst 1, 1) := by decide +kernel
theorem dX9_isAddress_42 : decode cX9_isAddress 42 = .ok (.goto 4, 3) := by decide +kernel
def fn_X9_isAddress (k0 : Nat) (x1 : Int32) (x2 : Int32) (s : uS) : Option Bool := (fn_X9_find k0 x1 x2 64 s).bind fun v1 => if v1 < 0 then (some false) else ((fn_X9_isDotted k0 x1 v1 40 kW_68 s).bind fun v5 => if v5 = true then ((fn_X9_isDotted k0 (v1 + 1) x2 60 kW_69 s).bind fun v9 => if v9 = true then (some true) else (some false)) else (some false))
set_option maxRecDepth 100000 in
set_option maxHeartbeats 4000000 in
theorem xc_X9_isAddress {l : Launch} {D : va_G} {A : Nat → ClassId} {B : Nat} {Z : State → Heap → Prop} {vF : Value} (uk : uK B Z vF) (un : uX A B Z) {k0 : Nat} {x1 : Int32} {x2 : Int32} {s : uS} {r : Bool}  (h : fn_X9_isAddress k0 x1 x2 s = some r) : CU l D A B Z 5 mX9_isAddress s [.ref (B + k0), .int x1, .int x2] (s, some (.int (bI r))) := by
  unfold fn_X9_isAddress at h
  refine cu_of rfl uk.1.1 (Nat.le_of_ble_eq_true rfl) ?_
  show GU _ _ _ _ _ _ _ _ _ 0 [(0, .ref (B + k0)), (1, .int x1), (2, .int x2)] []
  refine uu_aload_n dX9_isAddress_0 rfl (List.mem_of_getElem? (i := 0) rfl) ?_
  refine uu_iload_n dX9_isAddress_1 rfl (List.mem_of_getElem? (i := 1) rfl) ?_
  refine uu_iload_n dX9_isAddress_2 rfl (List.mem_of_getElem? (i := 2) rfl) ?_
  refine uu_bipush (v := 64) dX9_isAddress_3 (by decide) ?_
  obtain ⟨v1, e2, h⟩ := uu_ob h
  refine uu_cs (d1 := 0) (As := [.ref (B + k0), .int x1, .int x2, .int 64]) (st := []) (st' := [.int v1]) (xc_X9_find uk  e2) kX9_find lX9_92 sX9_find (by decide) (Nat.le_of_ble_eq_true rfl) dX9_isAddress_5 rfl ?_
  refine uu_istore_n dX9_isAddress_8 rfl (by decide) rfl ?_
  refine uu_iload_n dX9_isAddress_9 rfl (List.mem_of_getElem? (i := 0) rfl) ?_
  refine uu_if_lt (tgt := 45) dX9_isAddress_10 (by decide) (fun c3 => ?_) (fun c3 => ?_)
  · replace h := uu_pos c3 h
    refine uu_iconst (v := 0) dX9_isAddress_45 (by decide) ?_
    have hr := Option.some.inj h
    subst hr
    exact uu_zret (x := bI false) rfl (bI_z _) dX9_isAddress_46
  · replace h := uu_neg c3 h
    refine uu_aload_n dX9_isAddress_13 rfl (List.mem_of_getElem? (i := 1) rfl) ?_
    refine uu_iload_n dX9_isAddress_14 rfl (List.mem_of_getElem? (i := 2) rfl) ?_
    refine uu_iload_n dX9_isAddress_15 rfl (List.mem_of_getElem? (i := 0) rfl) ?_
    refine uu_bipush (v := 40) dX9_isAddress_16 (by decide) ?_
    obtain ⟨cq4, cp4, cv4, cw4⟩ := uk.2.1 68 _ rfl
    refine uu_ldcS cv4 dX9_isAddress_18 ?_
    obtain ⟨v5, e6, h⟩ := uu_ob h
    refine uu_cs (d1 := 4) (As := [.ref (B + k0), .int x1, .int v1, .int 40, .ref cq4]) (st := []) (st' := [.int (bI v5)]) (xc_X9_isDotted uk un cw4 e6) kX9_isDotted lX9_98 sX9_isDotted (by decide) (Nat.le_of_ble_eq_true rfl) dX9_isAddress_20 rfl ?_
    refine uu_ifb_eq (tgt := 45) dX9_isAddress_23 (by decide) (fun c7 => ?_) (fun c7 => ?_)
    · replace h := uu_neg c7 h
      refine uu_iconst (v := 0) dX9_isAddress_45 (by decide) ?_
      have hr := Option.some.inj h
      subst hr
      exact uu_zret (x := bI false) rfl (bI_z _) dX9_isAddress_46
    · replace h := uu_pos c7 h
      refine uu_aload_n dX9_isAddress_26 rfl (List.mem_of_getElem? (i := 1) rfl) ?_
      refine uu_iload_n dX9_isAddress_27 rfl (List.mem_of_getElem? (i := 0) rfl) ?_
      refine uu_iconst (v := 1) dX9_isAddress_28 (by decide) ?_
      refine uu_iadd dX9_isAddress_29 ?_
      refine uu_iload_n dX9_isAddress_30 rfl (List.mem_of_getElem? (i := 3) rfl) ?_
      refine uu_bipush (v := 60) dX9_isAddress_31 (by decide) ?_
      obtain ⟨cq8, cp8, cv8, cw8⟩ := uk.2.1 69 _ rfl
      refine uu_ldcS cv8 dX9_isAddress_33 ?_
      obtain ⟨v9, e10, h⟩ := uu_ob h
      refine uu_cs (d1 := 4) (As := [.ref (B + k0), .int (v1 + 1), .int x2, .int 60, .ref cq8]) (st := []) (st' := [.int (bI v9)]) (xc_X9_isDotted uk un cw8 e10) kX9_isDotted lX9_98 sX9_isDotted (by decide) (Nat.le_of_ble_eq_true rfl) dX9_isAddress_35 rfl ?_
      refine uu_ifb_eq (tgt := 45) dX9_isAddress_38 (by decide) (fun c11 => ?_) (fun c11 => ?_)
      · replace h := uu_neg c11 h
        refine uu_iconst (v := 0) dX9_isAddress_45 (by decide) ?_
        have hr := Option.some.inj h
        subst hr
        exact uu_zret (x := bI false) rfl (bI_z _) dX9_isAddress_46
      · replace h := uu_pos c11 h
        refine uu_iconst (v := 1) dX9_isAddress_41 (by decide) ?_
        refine uu_goto (tgt := 46) dX9_isAddress_42 (by decide) ?_
        have hr := Option.some.inj h
        subst hr
        exact uu_zret (x := bI true) rfl (bI_z _) dX9_isAddress_46
abbrev mX0_pathEnd : hM := (yX0_pathEnd, cX0_pathEnd, 6, (some (.int)))
theorem dX0_pathEnd_72 : decode cX0_pathEnd 72 = .ok (.istore 5, 2) := by decide +kernel
theorem dX0_pathEnd_74 : decode cX0_pathEnd 74 = .ok (.iload 5, 2) := by decide +kernel
theorem dX0_pathEnd_76 : decode cX0_pathEnd 76 = .ok (.ifCond .eq 10, 3) := by decide +kernel
theorem dX0_pathEnd_86 : decode cX0_pathEnd 86 = .ok (.iconst (-1), 1) := by decide +kernel
theorem dX0_pathEnd_87 : decode cX0_pathEnd 87 = .ok (.ireturn, 1) := by decide +kernel
theorem dX0_pathEnd_79 : decode cX0_pathEnd 79 = .ok (.iload 4, 2) := by decide +kernel
theorem dX0_pathEnd_81 : decode cX0_pathEnd 81 = .ok (.iconst 1, 1) := by decide +kernel
theorem dX0_pathEnd_82 : decode cX0_pathEnd 82 = .ok (.iadd, 1) := by decide +kernel
theorem dX0_pathEnd_83 : decode cX0_pathEnd 83 = .ok (.goto 4, 3) := by decide +kernel
theorem dX0_pathEnd_52 : decode cX0_pathEnd 52 = .ok (.aload_n 0, 1) := by decide +kernel
theorem dX0_pathEnd_53 : decode cX0_pathEnd 53 = .ok (.getfield 25, 3) := by decide +kernel
theorem dX0_pathEnd_56 : decode cX0_pathEnd 56 = .ok (.iload_n 1, 1) := by decide +kernel
theorem dX0_pathEnd_57 : decode cX0_pathEnd 57 = .ok (.iconst 1, 1) := by decide +kernel
theorem dX0_pathEnd_58 : decode cX0_pathEnd 58 = .ok (.iadd, 1) := by decide +kernel
theorem dX0_pathEnd_59 : decode cX0_pathEnd 59 = .ok (.iload 4, 2) := by decide +kernel
theorem kX9_isAddress : h_ml mX9_isAddress 3 := ⟨h_t4 62 rfl rfl, h_t1 4 rfl rfl, ⟨by decide, by decide, by decide +kernel⟩, by decide⟩
theorem lX0_204 : Cond.methodLink RX0 204 mX9_isAddress.1 ∈ lw_g := h_t4 60 rfl rfl
theorem sX9_isAddress : Cond.static mX9_isAddress.1 ∈ lw_g := h_t4 61 rfl rfl
theorem dX0_pathEnd_61 : decode cX0_pathEnd 61 = .ok (.invokestatic 204, 3) := by decide +kernel
theorem dX0_pathEnd_64 : decode cX0_pathEnd 64 = .ok (.ifCond .eq 7, 3) := by decide +kernel
theorem dX0_pathEnd_71 : decode cX0_pathEnd 71 = .ok (.iconst 0, 1) := by decide +kernel
theorem dX0_pathEnd_67 : decode cX0_pathEnd 67 = .ok (.iconst 1, 1) := by decide +kernel
theorem dX0_pathEnd_68 : decode cX0_pathEnd 68 = .ok (.goto 4, 3) := by decide +kernel
theorem dX0_pathEnd_19 : decode cX0_pathEnd 19 = .ok (.istore 4, 2) := by decide +kernel
theorem dX0_pathEnd_21 : decode cX0_pathEnd 21 = .ok (.iload 4, 2) := by decide +kernel
theorem dX0_pathEnd_23 : decode cX0_pathEnd 23 = .ok (.iload_n 1, 1) := by decide +kernel
theorem dX0_pathEnd_24 : decode cX0_pathEnd 24 = .ok (.if_icmp .le 14, 3) := by decide +kernel
theorem dX0_pathEnd_38 : decode cX0_pathEnd 38 = .ok (.iconst (-1), 1) := by decide +kernel
theorem dX0_pathEnd_39 : decode cX0_pathEnd 39 = .ok (.ireturn, 1) := by decide +kernel
theorem dX0_pathEnd_27 : decode cX0_pathEnd 27 = .ok (.aload_n 0, 1) := by decide +kernel
theorem dX0_pathEnd_28 : decode cX0_pathEnd 28 = .ok (.getfield 25, 3) := by decide +kernel
theorem dX0_pathEnd_31 : decode cX0_pathEnd 31 = .ok (.iload_n 1, 1) := by decide +kernel
theorem dX0_pathEnd_32 : decode cX0_pathEnd 32 = .ok (.baload, 1) := by decide +kernel
theorem dX0_pathEnd_33 : decode cX0_pathEnd 33 = .ok (.bipush 60, 2) := by decide +kernel
theorem dX0_pathEnd_35 : decode cX0_pathEnd 35 = .ok (.if_icmp .eq 5, 3) := by decide +kernel
theorem dX0_pathEnd_40 : decode cX0_pathEnd 40 = .ok (.iload_n 3, 1) := by decide +kernel
theorem dX0_pathEnd_41 : decode cX0_pathEnd 41 = .ok (.ifCond .eq 11, 3) := by decide +kernel
theorem dX0_pathEnd_44 : decode cX0_pathEnd 44 = .ok (.iload 4, 2) := by decide +kernel
theorem dX0_pathEnd_46 : decode cX0_pathEnd 46 = .ok (.iload_n 1, 1) := by decide +kernel
theorem dX0_pathEnd_47 : decode cX0_pathEnd 47 = .ok (.iconst 1, 1) := by decide +kernel
theorem dX0_pathEnd_48 : decode cX0_pathEnd 48 = .ok (.iadd, 1) := by decide +kernel
theorem dX0_pathEnd_49 : decode cX0_pathEnd 49 = .ok (.if_icmp .eq 18, 3) := by decide +kernel
theorem dX0_pathEnd_0 : decode cX0_pathEnd 0 = .ok (.iload_n 1, 1) := by decide +kernel
theorem dX0_pathEnd_1 : decode cX0_pathEnd 1 = .ok (.ifCond .ge 7, 3) := by decide +kernel
theorem dX0_pathEnd_8 : decode cX0_pathEnd 8 = .ok (.aload_n 0, 1) := by decide +kernel
theorem dX0_pathEnd_9 : decode cX0_pathEnd 9 = .ok (.getfield 25, 3) := by decide +kernel
theorem dX0_pathEnd_12 : decode cX0_pathEnd 12 = .ok (.iload_n 1, 1) := by decide +kernel
theorem dX0_pathEnd_13 : decode cX0_pathEnd 13 = .ok (.iload_n 2, 1) := by decide +kernel
theorem dX0_pathEnd_14 : decode cX0_pathEnd 14 = .ok (.bipush 62, 2) := by decide +kernel
theorem dX0_pathEnd_16 : decode cX0_pathEnd 16 = .ok (.invokestatic 113, 3) := by decide +kernel
theorem dX0_pathEnd_4 : decode cX0_pathEnd 4 = .ok (.iconst (-1), 1) := by decide +kernel
theorem dX0_pathEnd_5 : decode cX0_pathEnd 5 = .ok (.goto 14, 3) := by decide +kernel
def fb_X0_pathEnd_72  (x4 : Int32) (bs0 : Bool) (s : uS) : Option Int32 := if bs0 = true then (some (x4 + 1)) else (some (-1 : Int32))
set_option maxRecDepth 100000 in
set_option maxHeartbeats 4000000 in
theorem xb_X0_pathEnd_72 {l : Launch} {D : va_G} {A : Nat → ClassId} {B : Nat} {Z : State → Heap → Prop} {vF : Value} (uk : uK B Z vF) (un : uX A B Z)   {x4 : Int32} {bs0 : Bool} {s : uS} {r : Int32}  (h : fb_X0_pathEnd_72  x4 bs0 s = some r) : GU l D A B Z mX0_pathEnd 6 (s, some (.int r)) s 72 [(4, .int x4)] [.int (bI bs0)] := by
  unfold fb_X0_pathEnd_72 at h
  refine uu_istore dX0_pathEnd_72 (by decide) rfl ?_
  refine uu_iload dX0_pathEnd_74 (List.mem_of_getElem? (i := 0) rfl) ?_
  refine uu_ifb_eq (tgt := 86) dX0_pathEnd_76 (by decide) (fun c1 => ?_) (fun c1 => ?_)
  · replace h := uu_neg c1 h
    refine uu_iconst (v := -1) dX0_pathEnd_86 (by decide) ?_
    have hr := Option.some.inj h
    subst hr
    exact uu_iret rfl dX0_pathEnd_87
  · replace h := uu_pos c1 h
    refine uu_iload dX0_pathEnd_79 (List.mem_of_getElem? (i := 1) rfl) ?_
    refine uu_iconst (v := 1) dX0_pathEnd_81 (by decide) ?_
    refine uu_iadd dX0_pathEnd_82 ?_
    refine uu_goto (tgt := 87) dX0_pathEnd_83 (by decide) ?_
    have hr := Option.some.inj h
    subst hr
    exact uu_iret rfl dX0_pathEnd_87
def fb_X0_pathEnd_52  (x1 : Int32) (x4 : Int32) (s : uS) : Option Int32 := (fn_X9_isAddress 1052 (x1 + 1) x4 s).bind fun v1 => if v1 = true then (fb_X0_pathEnd_72 x4 true s) else (fb_X0_pathEnd_72 x4 false s)
set_option maxRecDepth 100000 in
set_option maxHeartbeats 4000000 in
theorem xb_X0_pathEnd_52 {l : Launch} {D : va_G} {A : Nat → ClassId} {B : Nat} {Z : State → Heap → Prop} {vF : Value} (uk : uK B Z vF) (un : uX A B Z)   {x1 : Int32} {x4 : Int32} {s : uS} {r : Int32}  (h : fb_X0_pathEnd_52  x1 x4 s = some r) : GU l D A B Z mX0_pathEnd 6 (s, some (.int r)) s 52 [(0, .ref (B + 1042)), (1, .int x1), (4, .int x4)] [] := by
  unfold fb_X0_pathEnd_52 at h
  refine uu_aload_n dX0_pathEnd_52 rfl (List.mem_of_getElem? (i := 0) rfl) ?_
  refine uu_geta (ci := 0) (N := 12) fX0_25 (by decide) so_1042.is (by decide) (c := 1052) (by decide) dX0_pathEnd_53 ?_
  refine uu_iload_n dX0_pathEnd_56 rfl (List.mem_of_getElem? (i := 1) rfl) ?_
  refine uu_iconst (v := 1) dX0_pathEnd_57 (by decide) ?_
  refine uu_iadd dX0_pathEnd_58 ?_
  refine uu_iload dX0_pathEnd_59 (List.mem_of_getElem? (i := 2) rfl) ?_
  obtain ⟨v1, e2, h⟩ := uu_ob h
  refine uu_cs (d1 := 5) (As := [.ref (B + 1052), .int (x1 + 1), .int x4]) (st := []) (st' := [.int (bI v1)]) (xc_X9_isAddress uk un  e2) kX9_isAddress lX0_204 sX9_isAddress (by decide) (Nat.le_of_ble_eq_true rfl) dX0_pathEnd_61 rfl ?_
  refine uu_ifb_eq (tgt := 71) dX0_pathEnd_64 (by decide) (fun c3 => ?_) (fun c3 => ?_)
  · replace h := uu_neg c3 h
    refine uu_iconst (v := 0) dX0_pathEnd_71 (by decide) ?_
    refine uu_lv [2] (lv' := [(4, .int x4)]) rfl ?_
    exact xb_X0_pathEnd_72 uk un  h
  · replace h := uu_pos c3 h
    refine uu_iconst (v := 1) dX0_pathEnd_67 (by decide) ?_
    refine uu_goto (tgt := 72) dX0_pathEnd_68 (by decide) ?_
    refine uu_lv [2] (lv' := [(4, .int x4)]) rfl ?_
    exact xb_X0_pathEnd_72 uk un  h
def fb_X0_pathEnd_19  (x1 : Int32) (b3 : Bool) (xs0 : Int32) (s : uS) : Option Int32 := if xs0 ≤ x1 then (some (-1 : Int32)) else ((iget 21 s 1052 x1).bind fun v2 => if v2 = 60 then (if b3 = true then (if xs0 = (x1 + 1) then (fb_X0_pathEnd_72 xs0 true s) else (fb_X0_pathEnd_52 x1 xs0 s)) else (fb_X0_pathEnd_52 x1 xs0 s)) else (some (-1 : Int32)))
set_option maxRecDepth 100000 in
set_option maxHeartbeats 4000000 in
theorem xb_X0_pathEnd_19 {l : Launch} {D : va_G} {A : Nat → ClassId} {B : Nat} {Z : State → Heap → Prop} {vF : Value} (uk : uK B Z vF) (un : uX A B Z)   {x1 : Int32} {b3 : Bool} {xs0 : Int32} {s : uS} {r : Int32}  (h : fb_X0_pathEnd_19  x1 b3 xs0 s = some r) : GU l D A B Z mX0_pathEnd 6 (s, some (.int r)) s 19 [(0, .ref (B + 1042)), (1, .int x1), (3, .int (bI b3))] [.int xs0] := by
  unfold fb_X0_pathEnd_19 at h
  refine uu_istore dX0_pathEnd_19 (by decide) rfl ?_
  refine uu_iload dX0_pathEnd_21 (List.mem_of_getElem? (i := 0) rfl) ?_
  refine uu_iload_n dX0_pathEnd_23 rfl (List.mem_of_getElem? (i := 2) rfl) ?_
  refine uu_icmp_le (tgt := 38) dX0_pathEnd_24 (by decide) (fun c1 => ?_) (fun c1 => ?_)
  · replace h := uu_pos c1 h
    refine uu_iconst (v := -1) dX0_pathEnd_38 (by decide) ?_
    have hr := Option.some.inj h
    subst hr
    exact uu_iret rfl dX0_pathEnd_39
  · replace h := uu_neg c1 h
    refine uu_aload_n dX0_pathEnd_27 rfl (List.mem_of_getElem? (i := 1) rfl) ?_
    refine uu_geta (ci := 0) (N := 12) fX0_25 (by decide) so_1042.is (by decide) (c := 1052) (by decide) dX0_pathEnd_28 ?_
    refine uu_iload_n dX0_pathEnd_31 rfl (List.mem_of_getElem? (i := 2) rfl) ?_
    obtain ⟨v2, e3, h⟩ := uu_ob h
    refine uu_bald e3 dX0_pathEnd_32 ?_
    refine uu_bipush (v := 60) dX0_pathEnd_33 (by decide) ?_
    refine uu_icmp_eq (tgt := 40) dX0_pathEnd_35 (by decide) (fun c4 => ?_) (fun c4 => ?_)
    · replace h := uu_pos c4 h
      refine uu_iload_n dX0_pathEnd_40 rfl (List.mem_of_getElem? (i := 3) rfl) ?_
      refine uu_ifb_eq (tgt := 52) dX0_pathEnd_41 (by decide) (fun c5 => ?_) (fun c5 => ?_)
      · replace h := uu_neg c5 h
        refine uu_lv [1, 2, 0] (lv' := [(0, .ref (B + 1042)), (1, .int x1), (4, .int xs0)]) rfl ?_
        exact xb_X0_pathEnd_52 uk un  h
      · replace h := uu_pos c5 h
        refine uu_iload dX0_pathEnd_44 (List.mem_of_getElem? (i := 0) rfl) ?_
        refine uu_iload_n dX0_pathEnd_46 rfl (List.mem_of_getElem? (i := 2) rfl) ?_
        refine uu_iconst (v := 1) dX0_pathEnd_47 (by decide) ?_
        refine uu_iadd dX0_pathEnd_48 ?_
        refine uu_icmp_eq (tgt := 67) dX0_pathEnd_49 (by decide) (fun c6 => ?_) (fun c6 => ?_)
        · replace h := uu_pos c6 h
          refine uu_iconst (v := 1) dX0_pathEnd_67 (by decide) ?_
          refine uu_goto (tgt := 72) dX0_pathEnd_68 (by decide) ?_
          refine uu_lv [0] (lv' := [(4, .int xs0)]) rfl ?_
          exact xb_X0_pathEnd_72 uk un  h
        · replace h := uu_neg c6 h
          refine uu_lv [1, 2, 0] (lv' := [(0, .ref (B + 1042)), (1, .int x1), (4, .int xs0)]) rfl ?_
          exact xb_X0_pathEnd_52 uk un  h
    · replace h := uu_neg c4 h
      refine uu_iconst (v := -1) dX0_pathEnd_38 (by decide) ?_
      have hr := Option.some.inj h
      subst hr
      exact uu_iret rfl dX0_pathEnd_39
def fn_X0_pathEnd (x1 : Int32) (x2 : Int32) (b3 : Bool) (s : uS) : Option Int32 := if 0 ≤ x1 then ((fn_X9_find 1052 x1 x2 62 s).bind fun v2 => fb_X0_pathEnd_19 x1 b3 v2 s) else (fb_X0_pathEnd_19 x1 b3 (-1) s)
set_option maxRecDepth 100000 in
set_option maxHeartbeats 4000000 in
theorem xc_X0_pathEnd {l : Launch} {D : va_G} {A : Nat → ClassId} {B : Nat} {Z : State → Heap → Prop} {vF : Value} (uk : uK B Z vF) (un : uX A B Z) {x1 : Int32} {x2 : Int32} {b3 : Bool} {s : uS} {r : Int32}  (h : fn_X0_pathEnd x1 x2 b3 s = some r) : CU l D A B Z 6 mX0_pathEnd s [.ref (B + 1042), .int x1, .int x2, .int (bI b3)] (s, some (.int r)) := by
  unfold fn_X0_pathEnd at h
  refine cu_of rfl uk.1.1 (Nat.le_of_ble_eq_true rfl) ?_
  show GU _ _ _ _ _ _ _ _ _ 0 [(0, .ref (B + 1042)), (1, .int x1), (2, .int x2), (3, .int (bI b3))] []
  refine uu_iload_n dX0_pathEnd_0 rfl (List.mem_of_getElem? (i := 1) rfl) ?_
  refine uu_if_ge (tgt := 8) dX0_pathEnd_1 (by decide) (fun c1 => ?_) (fun c1 => ?_)
  · replace h := uu_pos c1 h
    refine uu_aload_n dX0_pathEnd_8 rfl (List.mem_of_getElem? (i := 0) rfl) ?_
    refine uu_geta (ci := 0) (N := 12) fX0_25 (by decide) so_1042.is (by decide) (c := 1052) (by decide) dX0_pathEnd_9 ?_
    refine uu_iload_n dX0_pathEnd_12 rfl (List.mem_of_getElem? (i := 1) rfl) ?_
    refine uu_iload_n dX0_pathEnd_13 rfl (List.mem_of_getElem? (i := 2) rfl) ?_
    refine uu_bipush (v := 62) dX0_pathEnd_14 (by decide) ?_
    obtain ⟨v2, e3, h⟩ := uu_ob h
    refine uu_cs (d1 := 0) (As := [.ref (B + 1052), .int x1, .int x2, .int 62]) (st := []) (st' := [.int v2]) (xc_X9_find uk  e3) kX9_find lX0_113 sX9_find (by decide) (Nat.le_of_ble_eq_true rfl) dX0_pathEnd_16 rfl ?_
    refine uu_lv [0, 1, 3] (lv' := [(0, .ref (B + 1042)), (1, .int x1), (3, .int (bI b3))]) rfl ?_
    exact xb_X0_pathEnd_19 uk un  h
  · replace h := uu_neg c1 h
    refine uu_iconst (v := -1) dX0_pathEnd_4 (by decide) ?_
    refine uu_goto (tgt := 19) dX0_pathEnd_5 (by decide) ?_
    refine uu_lv [0, 1, 3] (lv' := [(0, .ref (B + 1042)), (1, .int x1), (3, .int (bI b3))]) rfl ?_
    exact xb_X0_pathEnd_19 uk un  h
abbrev mX9_putRange : hM := (yX9_putRange, cX9_putRange, 5, none)
theorem dX9_putRange_0 : decode cX9_putRange 0 = .ok (.iload_n 3, 1) := by decide +kernel
theorem dX9_putRange_1 : decode cX9_putRange 1 = .ok (.aload_n 1, 1) := by decide +kernel
theorem dX9_putRange_2 : decode cX9_putRange 2 = .ok (.arraylength, 1) := by decide +kernel
theorem lX9_44 : Cond.methodLink RX9 44 Lib.Math.min.name ∈ lw_g := h_t4 83 rfl rfl
theorem dX9_putRange_3 : decode cX9_putRange 3 = .ok (.invokestatic 44, 3) := by decide +kernel
theorem dX9_putRange_6 : decode cX9_putRange 6 = .ok (.iload_n 2, 1) := by decide +kernel
theorem dX9_putRange_7 : decode cX9_putRange 7 = .ok (.isub, 1) := by decide +kernel
theorem dX9_putRange_8 : decode cX9_putRange 8 = .ok (.aload_n 0, 1) := by decide +kernel
theorem dX9_putRange_9 : decode cX9_putRange 9 = .ok (.getfield 9, 3) := by decide +kernel
theorem dX9_putRange_12 : decode cX9_putRange 12 = .ok (.arraylength, 1) := by decide +kernel
theorem dX9_putRange_13 : decode cX9_putRange 13 = .ok (.aload_n 0, 1) := by decide +kernel
theorem dX9_putRange_14 : decode cX9_putRange 14 = .ok (.getfield 27, 3) := by decide +kernel
theorem dX9_putRange_17 : decode cX9_putRange 17 = .ok (.isub, 1) := by decide +kernel
theorem dX9_putRange_18 : decode cX9_putRange 18 = .ok (.invokestatic 44, 3) := by decide +kernel
theorem dX9_putRange_21 : decode cX9_putRange 21 = .ok (.istore 4, 2) := by decide +kernel
theorem dX9_putRange_23 : decode cX9_putRange 23 = .ok (.iload_n 2, 1) := by decide +kernel
theorem dX9_putRange_24 : decode cX9_putRange 24 = .ok (.ifCond .lt 34, 3) := by decide +kernel
theorem dX9_putRange_58 : decode cX9_putRange 58 = .ok (.return_, 1) := by decide +kernel
theorem dX9_putRange_27 : decode cX9_putRange 27 = .ok (.iload 4, 2) := by decide +kernel
theorem dX9_putRange_29 : decode cX9_putRange 29 = .ok (.ifCond .le 29, 3) := by decide +kernel
theorem dX9_putRange_32 : decode cX9_putRange 32 = .ok (.aload_n 1, 1) := by decide +kernel
theorem dX9_putRange_33 : decode cX9_putRange 33 = .ok (.iload_n 2, 1) := by decide +kernel
theorem dX9_putRange_34 : decode cX9_putRange 34 = .ok (.aload_n 0, 1) := by decide +kernel
theorem dX9_putRange_35 : decode cX9_putRange 35 = .ok (.getfield 9, 3) := by decide +kernel
theorem dX9_putRange_38 : decode cX9_putRange 38 = .ok (.aload_n 0, 1) := by decide +kernel
theorem dX9_putRange_39 : decode cX9_putRange 39 = .ok (.getfield 27, 3) := by decide +kernel
theorem dX9_putRange_42 : decode cX9_putRange 42 = .ok (.iload 4, 2) := by decide +kernel
theorem laX9_50 : Cond.methodLink RX9 50 arraycopyName ∈ lw_g := h_t4 84 rfl rfl
theorem dX9_putRange_44 : decode cX9_putRange 44 = .ok (.invokestatic 50, 3) := by decide +kernel
theorem dX9_putRange_47 : decode cX9_putRange 47 = .ok (.aload_n 0, 1) := by decide +kernel
theorem dX9_putRange_48 : decode cX9_putRange 48 = .ok (.dup, 1) := by decide +kernel
theorem dX9_putRange_49 : decode cX9_putRange 49 = .ok (.getfield 27, 3) := by decide +kernel
theorem dX9_putRange_52 : decode cX9_putRange 52 = .ok (.iload 4, 2) := by decide +kernel
theorem dX9_putRange_54 : decode cX9_putRange 54 = .ok (.iadd, 1) := by decide +kernel
theorem dX9_putRange_55 : decode cX9_putRange 55 = .ok (.putfield 27, 3) := by decide +kernel
def fn_X9_putRange (k0 : Nat) (k1 : Nat) (x2 : Int32) (x3 : Int32) (s : uS) : Option uS := (ulen s k1).bind fun v1 => (ulen s (k0 + 1)).bind fun v3 => if x2 < 0 then (some s) else (if (if (v3 - (s.I k0 5)) < ((if v1 < x3 then v1 else x3) - x2) then (v3 - (s.I k0 5)) else ((if v1 < x3 then v1 else x3) - x2)) ≤ 0 then (some s) else ((acpy s k1 x2 (k0 + 1) (s.I k0 5) (if (v3 - (s.I k0 5)) < ((if v1 < x3 then v1 else x3) - x2) then (v3 - (s.I k0 5)) else ((if v1 < x3 then v1 else x3) - x2))).bind fun s7 => some (wI s7 k0 5 ((s7.I k0 5) + (if (v3 - (s.I k0 5)) < ((if v1 < x3 then v1 else x3) - x2) then (v3 - (s.I k0 5)) else ((if v1 < x3 then v1 else x3) - x2))))))
set_option maxRecDepth 100000 in
set_option maxHeartbeats 4000000 in
theorem xc_X9_putRange {l : Launch} {D : va_G} {A : Nat → ClassId} {B : Nat} {Z : State → Heap → Prop} {vF : Value} (uk : uK B Z vF) (un : uX A B Z) {k0 : Nat} {k1 : Nat} {x2 : Int32} {x3 : Int32} {s : uS} {r : uS} (hk0 : uSo k0 9) (h : fn_X9_putRange k0 k1 x2 x3 s = some r) : CU l D A B Z 1 mX9_putRange s [.ref (B + k0), .ref (B + k1), .int x2, .int x3] (r, none) := by
  unfold fn_X9_putRange at h
  refine cu_of rfl uk.1.1 (Nat.le_of_ble_eq_true rfl) ?_
  show GU _ _ _ _ _ _ _ _ _ 0 [(0, .ref (B + k0)), (1, .ref (B + k1)), (2, .int x2), (3, .int x3)] []
  refine uu_iload_n dX9_putRange_0 rfl (List.mem_of_getElem? (i := 3) rfl) ?_
  refine uu_aload_n dX9_putRange_1 rfl (List.mem_of_getElem? (i := 1) rfl) ?_
  obtain ⟨v1, e2, h⟩ := uu_ob h
  refine uu_alen e2 dX9_putRange_2 ?_
  refine uu_mmin lX9_44 (by decide) (Nat.le_of_ble_eq_true rfl) dX9_putRange_3 ?_
  refine uu_iload_n dX9_putRange_6 rfl (List.mem_of_getElem? (i := 2) rfl) ?_
  refine uu_isub dX9_putRange_7 ?_
  refine uu_aload_n dX9_putRange_8 rfl (List.mem_of_getElem? (i := 0) rfl) ?_
  refine uu_getc (ci := 9) (N := 6) fX9_9 (by decide) hk0.is (by decide) (c := 1) (by decide) (k2 := k0 + 1) rfl dX9_putRange_9 ?_
  obtain ⟨v3, e4, h⟩ := uu_ob h
  refine uu_alen e4 dX9_putRange_12 ?_
  refine uu_aload_n dX9_putRange_13 rfl (List.mem_of_getElem? (i := 0) rfl) ?_
  refine uu_geti (ci := 9) (N := 6) fX9_27 (by decide) hk0.is (by decide) (by decide) dX9_putRange_14 ?_
  refine uu_isub dX9_putRange_17 ?_
  refine uu_mmin lX9_44 (by decide) (Nat.le_of_ble_eq_true rfl) dX9_putRange_18 ?_
  refine uu_istore dX9_putRange_21 (by decide) rfl ?_
  refine uu_iload_n dX9_putRange_23 rfl (List.mem_of_getElem? (i := 3) rfl) ?_
  refine uu_if_lt (tgt := 58) dX9_putRange_24 (by decide) (fun c5 => ?_) (fun c5 => ?_)
  · replace h := uu_pos c5 h
    have hr := Option.some.inj h
    subst hr
    exact uu_vret rfl dX9_putRange_58
  · replace h := uu_neg c5 h
    refine uu_iload dX9_putRange_27 (List.mem_of_getElem? (i := 0) rfl) ?_
    refine uu_if_le (tgt := 58) dX9_putRange_29 (by decide) (fun c6 => ?_) (fun c6 => ?_)
    · replace h := uu_pos c6 h
      have hr := Option.some.inj h
      subst hr
      exact uu_vret rfl dX9_putRange_58
    · replace h := uu_neg c6 h
      refine uu_aload_n dX9_putRange_32 rfl (List.mem_of_getElem? (i := 2) rfl) ?_
      refine uu_iload_n dX9_putRange_33 rfl (List.mem_of_getElem? (i := 3) rfl) ?_
      refine uu_aload_n dX9_putRange_34 rfl (List.mem_of_getElem? (i := 1) rfl) ?_
      refine uu_getc (ci := 9) (N := 6) fX9_9 (by decide) hk0.is (by decide) (c := 1) (by decide) (k2 := k0 + 1) rfl dX9_putRange_35 ?_
      refine uu_aload_n dX9_putRange_38 rfl (List.mem_of_getElem? (i := 1) rfl) ?_
      refine uu_geti (ci := 9) (N := 6) fX9_27 (by decide) hk0.is (by decide) (by decide) dX9_putRange_39 ?_
      refine uu_iload dX9_putRange_42 (List.mem_of_getElem? (i := 0) rfl) ?_
      obtain ⟨s7, e8, h⟩ := uu_ob h
      refine uu_copy e8 laX9_50 (by decide) (Nat.le_of_ble_eq_true rfl) dX9_putRange_44 ?_
      refine uu_aload_n dX9_putRange_47 rfl (List.mem_of_getElem? (i := 1) rfl) ?_
      refine uu_dup dX9_putRange_48 rfl ?_
      refine uu_geti (ci := 9) (N := 6) fX9_27 (by decide) hk0.is (by decide) (by decide) dX9_putRange_49 ?_
      refine uu_iload dX9_putRange_52 (List.mem_of_getElem? (i := 0) rfl) ?_
      refine uu_iadd dX9_putRange_54 ?_
      refine uu_puti (ft := .int) (ci := 9) (N := 6) fX9_27 ptX9 (Or.inl rfl) (by decide) hk0.is (by decide) (by decide) (by decide +kernel) rfl rfl dX9_putRange_55 ?_
      have hr := Option.some.inj h
      subst hr
      exact uu_vret rfl dX9_putRange_58
abbrev mX0_answerRcpt : hM := (yX0_answerRcpt, cX0_answerRcpt, 4, none)
theorem dX0_answerRcpt_0 : decode cX0_answerRcpt 0 = .ok (.aload_n 0, 1) := by decide +kernel
theorem dX0_answerRcpt_1 : decode cX0_answerRcpt 1 = .ok (.ldc 181, 2) := by decide +kernel
theorem dX0_answerRcpt_3 : decode cX0_answerRcpt 3 = .ok (.iload_n 1, 1) := by decide +kernel
theorem kX0_pathStart : h_ml mX0_pathStart 2 := ⟨h_t4 54 rfl rfl, h_t1 13 rfl rfl, ⟨by decide, by decide, by decide +kernel⟩, by decide⟩
theorem lX0_156 : Cond.methodLink RX0 156 mX0_pathStart.1 ∈ lw_g := h_t4 51 rfl rfl
theorem sX0_pathStart : Cond.instanceMethod mX0_pathStart.1 ∈ lw_g ∧ Cond.selects mX0_pathStart.1.cls mX0_pathStart.1 mX0_pathStart.1 ∈ lw_g := ⟨h_t4 53 rfl rfl, h_ins 6 rfl⟩
theorem dX0_answerRcpt_4 : decode cX0_answerRcpt 4 = .ok (.invokevirtual 156, 3) := by decide +kernel
theorem dX0_answerRcpt_7 : decode cX0_answerRcpt 7 = .ok (.istore_n 2, 1) := by decide +kernel
theorem dX0_answerRcpt_8 : decode cX0_answerRcpt 8 = .ok (.aload_n 0, 1) := by decide +kernel
theorem dX0_answerRcpt_9 : decode cX0_answerRcpt 9 = .ok (.iload_n 2, 1) := by decide +kernel
theorem dX0_answerRcpt_10 : decode cX0_answerRcpt 10 = .ok (.iload_n 1, 1) := by decide +kernel
theorem dX0_answerRcpt_11 : decode cX0_answerRcpt 11 = .ok (.iconst 0, 1) := by decide +kernel
theorem kX0_pathEnd : h_ml mX0_pathEnd 3 := ⟨h_t4 59 rfl rfl, h_t1 13 rfl rfl, ⟨by decide, by decide, by decide +kernel⟩, by decide⟩
theorem lX0_159 : Cond.methodLink RX0 159 mX0_pathEnd.1 ∈ lw_g := h_t4 56 rfl rfl
theorem sX0_pathEnd : Cond.instanceMethod mX0_pathEnd.1 ∈ lw_g ∧ Cond.selects mX0_pathEnd.1.cls mX0_pathEnd.1 mX0_pathEnd.1 ∈ lw_g := ⟨h_t4 58 rfl rfl, h_ins 7 rfl⟩
theorem dX0_answerRcpt_12 : decode cX0_answerRcpt 12 = .ok (.invokevirtual 159, 3) := by decide +kernel
theorem dX0_answerRcpt_15 : decode cX0_answerRcpt 15 = .ok (.istore_n 3, 1) := by decide +kernel
theorem dX0_answerRcpt_16 : decode cX0_answerRcpt 16 = .ok (.iload_n 3, 1) := by decide +kernel
theorem dX0_answerRcpt_17 : decode cX0_answerRcpt 17 = .ok (.iload_n 1, 1) := by decide +kernel
theorem dX0_answerRcpt_18 : decode cX0_answerRcpt 18 = .ok (.if_icmp .eq 15, 3) := by decide +kernel
theorem dX0_answerRcpt_33 : decode cX0_answerRcpt 33 = .ok (.aload_n 0, 1) := by decide +kernel
theorem dX0_answerRcpt_34 : decode cX0_answerRcpt 34 = .ok (.getfield 12, 3) := by decide +kernel
theorem dX0_answerRcpt_37 : decode cX0_answerRcpt 37 = .ok (.getfield 167, 3) := by decide +kernel
theorem dX0_answerRcpt_40 : decode cX0_answerRcpt 40 = .ok (.ifCond .ne 15, 3) := by decide +kernel
theorem dX0_answerRcpt_55 : decode cX0_answerRcpt 55 = .ok (.ldc 65, 2) := by decide +kernel
theorem dX0_answerRcpt_57 : decode cX0_answerRcpt 57 = .ok (.aload_n 0, 1) := by decide +kernel
theorem dX0_answerRcpt_58 : decode cX0_answerRcpt 58 = .ok (.getfield 25, 3) := by decide +kernel
theorem dX0_answerRcpt_61 : decode cX0_answerRcpt 61 = .ok (.iload_n 2, 1) := by decide +kernel
theorem dX0_answerRcpt_62 : decode cX0_answerRcpt 62 = .ok (.iconst 1, 1) := by decide +kernel
theorem dX0_answerRcpt_63 : decode cX0_answerRcpt 63 = .ok (.iadd, 1) := by decide +kernel
theorem dX0_answerRcpt_64 : decode cX0_answerRcpt 64 = .ok (.iload_n 3, 1) := by decide +kernel
theorem dX0_answerRcpt_65 : decode cX0_answerRcpt 65 = .ok (.iconst 1, 1) := by decide +kernel
theorem dX0_answerRcpt_66 : decode cX0_answerRcpt 66 = .ok (.isub, 1) := by decide +kernel
theorem dX0_answerRcpt_67 : decode cX0_answerRcpt 67 = .ok (.invokestatic 119, 3) := by decide +kernel
theorem dX0_answerRcpt_70 : decode cX0_answerRcpt 70 = .ok (.ifCond .ge 15, 3) := by decide +kernel
theorem dX0_answerRcpt_85 : decode cX0_answerRcpt 85 = .ok (.aload_n 0, 1) := by decide +kernel
theorem dX0_answerRcpt_86 : decode cX0_answerRcpt 86 = .ok (.getfield 18, 3) := by decide +kernel
theorem dX0_answerRcpt_89 : decode cX0_answerRcpt 89 = .ok (.getfield 167, 3) := by decide +kernel
theorem dX0_answerRcpt_92 : decode cX0_answerRcpt 92 = .ok (.iconst 4, 1) := by decide +kernel
theorem dX0_answerRcpt_93 : decode cX0_answerRcpt 93 = .ok (.if_icmp .ne 15, 3) := by decide +kernel
theorem dX0_answerRcpt_108 : decode cX0_answerRcpt 108 = .ok (.aload_n 0, 1) := by decide +kernel
theorem dX0_answerRcpt_109 : decode cX0_answerRcpt 109 = .ok (.getfield 18, 3) := by decide +kernel
theorem dX0_answerRcpt_112 : decode cX0_answerRcpt 112 = .ok (.aload_n 0, 1) := by decide +kernel
theorem dX0_answerRcpt_113 : decode cX0_answerRcpt 113 = .ok (.getfield 25, 3) := by decide +kernel
theorem dX0_answerRcpt_116 : decode cX0_answerRcpt 116 = .ok (.iload_n 2, 1) := by decide +kernel
theorem dX0_answerRcpt_117 : decode cX0_answerRcpt 117 = .ok (.iconst 1, 1) := by decide +kernel
theorem dX0_answerRcpt_118 : decode cX0_answerRcpt 118 = .ok (.iadd, 1) := by decide +kernel
theorem dX0_answerRcpt_119 : decode cX0_answerRcpt 119 = .ok (.iload_n 3, 1) := by decide +kernel
theorem dX0_answerRcpt_120 : decode cX0_answerRcpt 120 = .ok (.iconst 1, 1) := by decide +kernel
theorem dX0_answerRcpt_121 : decode cX0_answerRcpt 121 = .ok (.isub, 1) := by decide +kernel
theorem kX9_putRange : h_ml mX9_putRange 3 := ⟨h_t4 82 rfl rfl, h_t1 4 rfl rfl, ⟨by decide, by decide, by decide +kernel⟩, by decide⟩
theorem lX0_175 : Cond.methodLink RX0 175 mX9_putRange.1 ∈ lw_g := h_t4 79 rfl rfl
theorem sX9_putRange : Cond.instanceMethod mX9_putRange.1 ∈ lw_g ∧ Cond.selects mX9_putRange.1.cls mX9_putRange.1 mX9_putRange.1 ∈ lw_g := ⟨h_t4 80 rfl rfl, h_t4 81 rfl rfl⟩
theorem dX0_answerRcpt_122 : decode cX0_answerRcpt 122 = .ok (.invokevirtual 175, 3) := by decide +kernel
theorem dX0_answerRcpt_125 : decode cX0_answerRcpt 125 = .ok (.aload_n 0, 1) := by decide +kernel
theorem dX0_answerRcpt_126 : decode cX0_answerRcpt 126 = .ok (.getfield 18, 3) := by decide +kernel
theorem lX0_178 : Cond.methodLink RX0 178 mX9_close.1 ∈ lw_g := h_t4 87 rfl rfl
theorem dX0_answerRcpt_129 : decode cX0_answerRcpt 129 = .ok (.invokevirtual 178, 3) := by decide +kernel
theorem dX0_answerRcpt_132 : decode cX0_answerRcpt 132 = .ok (.aload_n 0, 1) := by decide +kernel
theorem dX0_answerRcpt_133 : decode cX0_answerRcpt 133 = .ok (.getfield 28, 3) := by decide +kernel
theorem dX0_answerRcpt_136 : decode cX0_answerRcpt 136 = .ok (.ldc 187, 2) := by decide +kernel
theorem dX0_answerRcpt_138 : decode cX0_answerRcpt 138 = .ok (.invokevirtual 41, 3) := by decide +kernel
theorem dX0_answerRcpt_141 : decode cX0_answerRcpt 141 = .ok (.return_, 1) := by decide +kernel
theorem dX0_answerRcpt_96 : decode cX0_answerRcpt 96 = .ok (.aload_n 0, 1) := by decide +kernel
theorem dX0_answerRcpt_97 : decode cX0_answerRcpt 97 = .ok (.getfield 28, 3) := by decide +kernel
theorem dX0_answerRcpt_100 : decode cX0_answerRcpt 100 = .ok (.ldc 185, 2) := by decide +kernel
theorem dX0_answerRcpt_102 : decode cX0_answerRcpt 102 = .ok (.invokevirtual 41, 3) := by decide +kernel
theorem dX0_answerRcpt_105 : decode cX0_answerRcpt 105 = .ok (.goto 36, 3) := by decide +kernel
theorem dX0_answerRcpt_73 : decode cX0_answerRcpt 73 = .ok (.aload_n 0, 1) := by decide +kernel
theorem dX0_answerRcpt_74 : decode cX0_answerRcpt 74 = .ok (.getfield 28, 3) := by decide +kernel
theorem dX0_answerRcpt_77 : decode cX0_answerRcpt 77 = .ok (.ldc 183, 2) := by decide +kernel
theorem dX0_answerRcpt_79 : decode cX0_answerRcpt 79 = .ok (.invokevirtual 41, 3) := by decide +kernel
theorem dX0_answerRcpt_82 : decode cX0_answerRcpt 82 = .ok (.goto 59, 3) := by decide +kernel
theorem dX0_answerRcpt_43 : decode cX0_answerRcpt 43 = .ok (.aload_n 0, 1) := by decide +kernel
theorem dX0_answerRcpt_44 : decode cX0_answerRcpt 44 = .ok (.getfield 28, 3) := by decide +kernel
theorem dX0_answerRcpt_47 : decode cX0_answerRcpt 47 = .ok (.ldc 125, 2) := by decide +kernel
theorem dX0_answerRcpt_49 : decode cX0_answerRcpt 49 = .ok (.invokevirtual 41, 3) := by decide +kernel
theorem dX0_answerRcpt_52 : decode cX0_answerRcpt 52 = .ok (.goto 89, 3) := by decide +kernel
theorem dX0_answerRcpt_21 : decode cX0_answerRcpt 21 = .ok (.aload_n 0, 1) := by decide +kernel
theorem dX0_answerRcpt_22 : decode cX0_answerRcpt 22 = .ok (.getfield 28, 3) := by decide +kernel
theorem dX0_answerRcpt_25 : decode cX0_answerRcpt 25 = .ok (.ldc 136, 2) := by decide +kernel
theorem dX0_answerRcpt_27 : decode cX0_answerRcpt 27 = .ok (.invokevirtual 41, 3) := by decide +kernel
theorem dX0_answerRcpt_30 : decode cX0_answerRcpt 30 = .ok (.goto 111, 3) := by decide +kernel
def fn_X0_answerRcpt (x1 : Int32) (s : uS) : Option uS := (fn_X0_pathStart kW_25 x1 s).bind fun v2 => (fn_X0_pathEnd v2 x1 false s).bind fun v4 => if v4 = x1 then (if (s.I 1043 3) = 0 then ((fn_X5_line 1040 kW_17 s).bind fun s27 => some s27) else ((fn_X9_place kW_11 1052 (v2 + 1) (v4 - 1) s).bind fun v9 => if 0 ≤ v9 then (if (s.I 1047 3) = 4 then ((fn_X5_line 1040 kW_27 s).bind fun s21 => some s21) else ((fn_X9_putRange 1047 1052 (v2 + 1) (v4 - 1) s).bind fun s13 => (fn_X9_close 1047 s13).bind fun s15 => (fn_X5_line 1040 kW_28 s15).bind fun s18 => some s18)) else ((fn_X5_line 1040 kW_26 s).bind fun s24 => some s24))) else ((fn_X5_line 1040 kW_18 s).bind fun s30 => some s30)
set_option maxRecDepth 100000 in
set_option maxHeartbeats 4000000 in
theorem xc_X0_answerRcpt {l : Launch} {D : va_G} {A : Nat → ClassId} {B : Nat} {Z : State → Heap → Prop} {vF : Value} (uk : uK B Z vF) (un : uX A B Z) {x1 : Int32} {s : uS} {r : uS}  (h : fn_X0_answerRcpt x1 s = some r) : CU l D A B Z 7 mX0_answerRcpt s [.ref (B + 1042), .int x1] (r, none) := by
  unfold fn_X0_answerRcpt at h
  refine cu_of rfl uk.1.1 (Nat.le_of_ble_eq_true rfl) ?_
  show GU _ _ _ _ _ _ _ _ _ 0 [(0, .ref (B + 1042)), (1, .int x1)] []
  refine uu_aload_n dX0_answerRcpt_0 rfl (List.mem_of_getElem? (i := 0) rfl) ?_
  obtain ⟨cq1, cp1, cv1, cw1⟩ := uk.2.1 25 _ rfl
  refine uu_ldcS cv1 dX0_answerRcpt_1 ?_
  refine uu_iload_n dX0_answerRcpt_3 rfl (List.mem_of_getElem? (i := 1) rfl) ?_
  obtain ⟨v2, e3, h⟩ := uu_ob h
  refine uu_cv (d1 := 5) (k := 1042) (ci := 0) (T := TX0) (N := 12) (As := [.ref cq1, .int x1]) (st := []) (st' := [.int v2]) (xc_X0_pathStart uk cw1 e3) so_1042.is (by decide) rfl kX0_pathStart lX0_156 sX0_pathStart (by decide) (Nat.le_of_ble_eq_true rfl) dX0_answerRcpt_4 rfl ?_
  refine uu_istore_n dX0_answerRcpt_7 rfl (by decide) rfl ?_
  refine uu_aload_n dX0_answerRcpt_8 rfl (List.mem_of_getElem? (i := 1) rfl) ?_
  refine uu_iload_n dX0_answerRcpt_9 rfl (List.mem_of_getElem? (i := 0) rfl) ?_
  refine uu_iload_n dX0_answerRcpt_10 rfl (List.mem_of_getElem? (i := 2) rfl) ?_
  refine uu_iconst (v := 0) dX0_answerRcpt_11 (by decide) ?_
  obtain ⟨v4, e5, h⟩ := uu_ob h
  refine uu_cv (d1 := 6) (k := 1042) (ci := 0) (T := TX0) (N := 12) (As := [.int v2, .int x1, .int 0]) (st := []) (st' := [.int v4]) (xc_X0_pathEnd uk un  e5) so_1042.is (by decide) rfl kX0_pathEnd lX0_159 sX0_pathEnd (by decide) (Nat.le_of_ble_eq_true rfl) dX0_answerRcpt_12 rfl ?_
  refine uu_istore_n dX0_answerRcpt_15 rfl (by decide) rfl ?_
  refine uu_iload_n dX0_answerRcpt_16 rfl (List.mem_of_getElem? (i := 0) rfl) ?_
  refine uu_iload_n dX0_answerRcpt_17 rfl (List.mem_of_getElem? (i := 3) rfl) ?_
  refine uu_icmp_eq (tgt := 33) dX0_answerRcpt_18 (by decide) (fun c6 => ?_) (fun c6 => ?_)
  · replace h := uu_pos c6 h
    refine uu_aload_n dX0_answerRcpt_33 rfl (List.mem_of_getElem? (i := 2) rfl) ?_
    refine uu_geta (ci := 0) (N := 12) fX0_12 (by decide) so_1042.is (by decide) (c := 1043) (by decide) dX0_answerRcpt_34 ?_
    refine uu_geti (ci := 9) (N := 6) fX0_167 (by decide) so_1043.is (by decide) (by decide) dX0_answerRcpt_37 ?_
    refine uu_if_ne (tgt := 55) dX0_answerRcpt_40 (by decide) (fun c7 => ?_) (fun c7 => ?_)
    · replace h := uu_neg c7 h
      obtain ⟨cq8, cp8, cv8, cw8⟩ := uk.2.1 11 _ rfl
      refine uu_ldcS cv8 dX0_answerRcpt_55 ?_
      refine uu_aload_n dX0_answerRcpt_57 rfl (List.mem_of_getElem? (i := 2) rfl) ?_
      refine uu_geta (ci := 0) (N := 12) fX0_25 (by decide) so_1042.is (by decide) (c := 1052) (by decide) dX0_answerRcpt_58 ?_
      refine uu_iload_n dX0_answerRcpt_61 rfl (List.mem_of_getElem? (i := 1) rfl) ?_
      refine uu_iconst (v := 1) dX0_answerRcpt_62 (by decide) ?_
      refine uu_iadd dX0_answerRcpt_63 ?_
      refine uu_iload_n dX0_answerRcpt_64 rfl (List.mem_of_getElem? (i := 0) rfl) ?_
      refine uu_iconst (v := 1) dX0_answerRcpt_65 (by decide) ?_
      refine uu_isub dX0_answerRcpt_66 ?_
      obtain ⟨v9, e10, h⟩ := uu_ob h
      refine uu_cs (d1 := 4) (As := [.ref cq8, .ref (B + 1052), .int (v2 + 1), .int (v4 - 1)]) (st := []) (st' := [.int v9]) (xc_X9_place uk cw8 e10) kX9_place lX0_119 sX9_place (by decide) (Nat.le_of_ble_eq_true rfl) dX0_answerRcpt_67 rfl ?_
      refine uu_if_ge (tgt := 85) dX0_answerRcpt_70 (by decide) (fun c11 => ?_) (fun c11 => ?_)
      · replace h := uu_pos c11 h
        refine uu_aload_n dX0_answerRcpt_85 rfl (List.mem_of_getElem? (i := 2) rfl) ?_
        refine uu_geta (ci := 0) (N := 12) fX0_18 (by decide) so_1042.is (by decide) (c := 1047) (by decide) dX0_answerRcpt_86 ?_
        refine uu_geti (ci := 9) (N := 6) fX0_167 (by decide) so_1047.is (by decide) (by decide) dX0_answerRcpt_89 ?_
        refine uu_iconst (v := 4) dX0_answerRcpt_92 (by decide) ?_
        refine uu_icmp_ne (tgt := 108) dX0_answerRcpt_93 (by decide) (fun c12 => ?_) (fun c12 => ?_)
        · replace h := uu_neg c12 h
          refine uu_aload_n dX0_answerRcpt_108 rfl (List.mem_of_getElem? (i := 2) rfl) ?_
          refine uu_geta (ci := 0) (N := 12) fX0_18 (by decide) so_1042.is (by decide) (c := 1047) (by decide) dX0_answerRcpt_109 ?_
          refine uu_aload_n dX0_answerRcpt_112 rfl (List.mem_of_getElem? (i := 2) rfl) ?_
          refine uu_geta (ci := 0) (N := 12) fX0_25 (by decide) so_1042.is (by decide) (c := 1052) (by decide) dX0_answerRcpt_113 ?_
          refine uu_iload_n dX0_answerRcpt_116 rfl (List.mem_of_getElem? (i := 1) rfl) ?_
          refine uu_iconst (v := 1) dX0_answerRcpt_117 (by decide) ?_
          refine uu_iadd dX0_answerRcpt_118 ?_
          refine uu_iload_n dX0_answerRcpt_119 rfl (List.mem_of_getElem? (i := 0) rfl) ?_
          refine uu_iconst (v := 1) dX0_answerRcpt_120 (by decide) ?_
          refine uu_isub dX0_answerRcpt_121 ?_
          obtain ⟨s13, e14, h⟩ := uu_ob h
          refine uu_cv (d1 := 1) (k := 1047) (ci := 9) (T := TX9) (N := 6) (As := [.ref (B + 1052), .int (v2 + 1), .int (v4 - 1)]) (st := []) (st' := []) (xc_X9_putRange uk un so_1047 e14) so_1047.is (by decide) rfl kX9_putRange lX0_175 sX9_putRange (by decide) (Nat.le_of_ble_eq_true rfl) dX0_answerRcpt_122 rfl ?_
          refine uu_aload_n dX0_answerRcpt_125 rfl (List.mem_of_getElem? (i := 2) rfl) ?_
          refine uu_geta (ci := 0) (N := 12) fX0_18 (by decide) so_1042.is (by decide) (c := 1047) (by decide) dX0_answerRcpt_126 ?_
          obtain ⟨s15, e16, h⟩ := uu_ob h
          refine uu_cv (d1 := 0) (k := 1047) (ci := 9) (T := TX9) (N := 6) (As := []) (st := []) (st' := []) (xc_X9_close uk so_1047 e16) so_1047.is (by decide) rfl kX9_close lX0_178 sX9_close (by decide) (Nat.le_of_ble_eq_true rfl) dX0_answerRcpt_129 rfl ?_
          refine uu_aload_n dX0_answerRcpt_132 rfl (List.mem_of_getElem? (i := 2) rfl) ?_
          refine uu_geta (ci := 0) (N := 12) fX0_28 (by decide) so_1042.is (by decide) (c := 1040) (by decide) dX0_answerRcpt_133 ?_
          obtain ⟨cq17, cp17, cv17, cw17⟩ := uk.2.1 28 _ rfl
          refine uu_ldcS cv17 dX0_answerRcpt_136 ?_
          obtain ⟨s18, e19, h⟩ := uu_ob h
          refine uu_cv (d1 := 5) (k := 1040) (ci := 5) (T := TX5) (N := 3) (As := [.ref cq17]) (st := []) (st' := []) (xc_X5_line uk so_1040 cw17 e19) so_1040.is (by decide) rfl kX5_line lX0_41 sX5_line (by decide) (Nat.le_of_ble_eq_true rfl) dX0_answerRcpt_138 rfl ?_
          have hr := Option.some.inj h
          subst hr
          exact uu_vret rfl dX0_answerRcpt_141
        · replace h := uu_pos c12 h
          refine uu_aload_n dX0_answerRcpt_96 rfl (List.mem_of_getElem? (i := 2) rfl) ?_
          refine uu_geta (ci := 0) (N := 12) fX0_28 (by decide) so_1042.is (by decide) (c := 1040) (by decide) dX0_answerRcpt_97 ?_
          obtain ⟨cq20, cp20, cv20, cw20⟩ := uk.2.1 27 _ rfl
          refine uu_ldcS cv20 dX0_answerRcpt_100 ?_
          obtain ⟨s21, e22, h⟩ := uu_ob h
          refine uu_cv (d1 := 5) (k := 1040) (ci := 5) (T := TX5) (N := 3) (As := [.ref cq20]) (st := []) (st' := []) (xc_X5_line uk so_1040 cw20 e22) so_1040.is (by decide) rfl kX5_line lX0_41 sX5_line (by decide) (Nat.le_of_ble_eq_true rfl) dX0_answerRcpt_102 rfl ?_
          refine uu_goto (tgt := 141) dX0_answerRcpt_105 (by decide) ?_
          have hr := Option.some.inj h
          subst hr
          exact uu_vret rfl dX0_answerRcpt_141
      · replace h := uu_neg c11 h
        refine uu_aload_n dX0_answerRcpt_73 rfl (List.mem_of_getElem? (i := 2) rfl) ?_
        refine uu_geta (ci := 0) (N := 12) fX0_28 (by decide) so_1042.is (by decide) (c := 1040) (by decide) dX0_answerRcpt_74 ?_
        obtain ⟨cq23, cp23, cv23, cw23⟩ := uk.2.1 26 _ rfl
        refine uu_ldcS cv23 dX0_answerRcpt_77 ?_
        obtain ⟨s24, e25, h⟩ := uu_ob h
        refine uu_cv (d1 := 5) (k := 1040) (ci := 5) (T := TX5) (N := 3) (As := [.ref cq23]) (st := []) (st' := []) (xc_X5_line uk so_1040 cw23 e25) so_1040.is (by decide) rfl kX5_line lX0_41 sX5_line (by decide) (Nat.le_of_ble_eq_true rfl) dX0_answerRcpt_79 rfl ?_
        refine uu_goto (tgt := 141) dX0_answerRcpt_82 (by decide) ?_
        have hr := Option.some.inj h
        subst hr
        exact uu_vret rfl dX0_answerRcpt_141
    · replace h := uu_pos c7 h
      refine uu_aload_n dX0_answerRcpt_43 rfl (List.mem_of_getElem? (i := 2) rfl) ?_
      refine uu_geta (ci := 0) (N := 12) fX0_28 (by decide) so_1042.is (by decide) (c := 1040) (by decide) dX0_answerRcpt_44 ?_
      obtain ⟨cq26, cp26, cv26, cw26⟩ := uk.2.1 17 _ rfl
      refine uu_ldcS cv26 dX0_answerRcpt_47 ?_
      obtain ⟨s27, e28, h⟩ := uu_ob h
      refine uu_cv (d1 := 5) (k := 1040) (ci := 5) (T := TX5) (N := 3) (As := [.ref cq26]) (st := []) (st' := []) (xc_X5_line uk so_1040 cw26 e28) so_1040.is (by decide) rfl kX5_line lX0_41 sX5_line (by decide) (Nat.le_of_ble_eq_true rfl) dX0_answerRcpt_49 rfl ?_
      refine uu_goto (tgt := 141) dX0_answerRcpt_52 (by decide) ?_
      have hr := Option.some.inj h
      subst hr
      exact uu_vret rfl dX0_answerRcpt_141
  · replace h := uu_neg c6 h
    refine uu_aload_n dX0_answerRcpt_21 rfl (List.mem_of_getElem? (i := 2) rfl) ?_
    refine uu_geta (ci := 0) (N := 12) fX0_28 (by decide) so_1042.is (by decide) (c := 1040) (by decide) dX0_answerRcpt_22 ?_
    obtain ⟨cq29, cp29, cv29, cw29⟩ := uk.2.1 18 _ rfl
    refine uu_ldcS cv29 dX0_answerRcpt_25 ?_
    obtain ⟨s30, e31, h⟩ := uu_ob h
    refine uu_cv (d1 := 5) (k := 1040) (ci := 5) (T := TX5) (N := 3) (As := [.ref cq29]) (st := []) (st' := []) (xc_X5_line uk so_1040 cw29 e31) so_1040.is (by decide) rfl kX5_line lX0_41 sX5_line (by decide) (Nat.le_of_ble_eq_true rfl) dX0_answerRcpt_27 rfl ?_
    refine uu_goto (tgt := 141) dX0_answerRcpt_30 (by decide) ?_
    have hr := Option.some.inj h
    subst hr
    exact uu_vret rfl dX0_answerRcpt_141
abbrev mX0_answerMail : hM := (yX0_answerMail, cX0_answerMail, 4, none)
theorem dX0_answerMail_29 : decode cX0_answerMail 29 = .ok (.aload_n 0, 1) := by decide +kernel
theorem dX0_answerMail_30 : decode cX0_answerMail 30 = .ok (.getfield 28, 3) := by decide +kernel
theorem dX0_answerMail_33 : decode cX0_answerMail 33 = .ok (.ldc 136, 2) := by decide +kernel
theorem dX0_answerMail_35 : decode cX0_answerMail 35 = .ok (.invokevirtual 41, 3) := by decide +kernel
theorem dX0_answerMail_38 : decode cX0_answerMail 38 = .ok (.goto 77, 3) := by decide +kernel
theorem dX0_answerMail_115 : decode cX0_answerMail 115 = .ok (.return_, 1) := by decide +kernel
theorem dX0_answerMail_0 : decode cX0_answerMail 0 = .ok (.aload_n 0, 1) := by decide +kernel
theorem dX0_answerMail_1 : decode cX0_answerMail 1 = .ok (.ldc 154, 2) := by decide +kernel
theorem dX0_answerMail_3 : decode cX0_answerMail 3 = .ok (.iload_n 1, 1) := by decide +kernel
theorem dX0_answerMail_4 : decode cX0_answerMail 4 = .ok (.invokevirtual 156, 3) := by decide +kernel
theorem dX0_answerMail_7 : decode cX0_answerMail 7 = .ok (.istore_n 2, 1) := by decide +kernel
theorem dX0_answerMail_8 : decode cX0_answerMail 8 = .ok (.aload_n 0, 1) := by decide +kernel
theorem dX0_answerMail_9 : decode cX0_answerMail 9 = .ok (.iload_n 2, 1) := by decide +kernel
theorem dX0_answerMail_10 : decode cX0_answerMail 10 = .ok (.iload_n 1, 1) := by decide +kernel
theorem dX0_answerMail_11 : decode cX0_answerMail 11 = .ok (.iconst 1, 1) := by decide +kernel
theorem dX0_answerMail_12 : decode cX0_answerMail 12 = .ok (.invokevirtual 159, 3) := by decide +kernel
theorem dX0_answerMail_15 : decode cX0_answerMail 15 = .ok (.istore_n 3, 1) := by decide +kernel
theorem dX0_answerMail_16 : decode cX0_answerMail 16 = .ok (.iload_n 3, 1) := by decide +kernel
theorem dX0_answerMail_17 : decode cX0_answerMail 17 = .ok (.ifCond .lt 12, 3) := by decide +kernel
theorem dX0_answerMail_20 : decode cX0_answerMail 20 = .ok (.aload_n 0, 1) := by decide +kernel
theorem dX0_answerMail_21 : decode cX0_answerMail 21 = .ok (.iload_n 3, 1) := by decide +kernel
theorem dX0_answerMail_22 : decode cX0_answerMail 22 = .ok (.iload_n 1, 1) := by decide +kernel
theorem kX0_areOptions : h_ml mX0_areOptions 2 := ⟨h_t4 68 rfl rfl, h_t1 13 rfl rfl, ⟨by decide, by decide, by decide +kernel⟩, by decide⟩
theorem lX0_163 : Cond.methodLink RX0 163 mX0_areOptions.1 ∈ lw_g := h_t4 65 rfl rfl
theorem sX0_areOptions : Cond.instanceMethod mX0_areOptions.1 ∈ lw_g ∧ Cond.selects mX0_areOptions.1.cls mX0_areOptions.1 mX0_areOptions.1 ∈ lw_g := ⟨h_t4 67 rfl rfl, h_ins 8 rfl⟩
theorem dX0_answerMail_23 : decode cX0_answerMail 23 = .ok (.invokevirtual 163, 3) := by decide +kernel
theorem dX0_answerMail_26 : decode cX0_answerMail 26 = .ok (.ifCond .ne 15, 3) := by decide +kernel
theorem dX0_answerMail_41 : decode cX0_answerMail 41 = .ok (.aload_n 0, 1) := by decide +kernel
theorem dX0_answerMail_42 : decode cX0_answerMail 42 = .ok (.getfield 12, 3) := by decide +kernel
theorem dX0_answerMail_45 : decode cX0_answerMail 45 = .ok (.getfield 167, 3) := by decide +kernel
theorem dX0_answerMail_48 : decode cX0_answerMail 48 = .ok (.ifCond .le 15, 3) := by decide +kernel
theorem dX0_answerMail_63 : decode cX0_answerMail 63 = .ok (.aload_n 0, 1) := by decide +kernel
theorem dX0_answerMail_64 : decode cX0_answerMail 64 = .ok (.getfield 170, 3) := by decide +kernel
theorem dX0_answerMail_67 : decode cX0_answerMail 67 = .ok (.ifCond .eq 15, 3) := by decide +kernel
theorem dX0_answerMail_82 : decode cX0_answerMail 82 = .ok (.aload_n 0, 1) := by decide +kernel
theorem dX0_answerMail_83 : decode cX0_answerMail 83 = .ok (.getfield 12, 3) := by decide +kernel
theorem dX0_answerMail_86 : decode cX0_answerMail 86 = .ok (.aload_n 0, 1) := by decide +kernel
theorem dX0_answerMail_87 : decode cX0_answerMail 87 = .ok (.getfield 25, 3) := by decide +kernel
theorem dX0_answerMail_90 : decode cX0_answerMail 90 = .ok (.iload_n 2, 1) := by decide +kernel
theorem dX0_answerMail_91 : decode cX0_answerMail 91 = .ok (.iconst 1, 1) := by decide +kernel
theorem dX0_answerMail_92 : decode cX0_answerMail 92 = .ok (.iadd, 1) := by decide +kernel
theorem dX0_answerMail_93 : decode cX0_answerMail 93 = .ok (.iload_n 3, 1) := by decide +kernel
theorem dX0_answerMail_94 : decode cX0_answerMail 94 = .ok (.iconst 1, 1) := by decide +kernel
theorem dX0_answerMail_95 : decode cX0_answerMail 95 = .ok (.isub, 1) := by decide +kernel
theorem dX0_answerMail_96 : decode cX0_answerMail 96 = .ok (.invokevirtual 175, 3) := by decide +kernel
theorem dX0_answerMail_99 : decode cX0_answerMail 99 = .ok (.aload_n 0, 1) := by decide +kernel
theorem dX0_answerMail_100 : decode cX0_answerMail 100 = .ok (.getfield 12, 3) := by decide +kernel
theorem dX0_answerMail_103 : decode cX0_answerMail 103 = .ok (.invokevirtual 178, 3) := by decide +kernel
theorem dX0_answerMail_106 : decode cX0_answerMail 106 = .ok (.aload_n 0, 1) := by decide +kernel
theorem dX0_answerMail_107 : decode cX0_answerMail 107 = .ok (.getfield 28, 3) := by decide +kernel
theorem dX0_answerMail_110 : decode cX0_answerMail 110 = .ok (.ldc 179, 2) := by decide +kernel
theorem dX0_answerMail_112 : decode cX0_answerMail 112 = .ok (.invokevirtual 41, 3) := by decide +kernel
theorem dX0_answerMail_70 : decode cX0_answerMail 70 = .ok (.aload_n 0, 1) := by decide +kernel
theorem dX0_answerMail_71 : decode cX0_answerMail 71 = .ok (.getfield 28, 3) := by decide +kernel
theorem dX0_answerMail_74 : decode cX0_answerMail 74 = .ok (.ldc 173, 2) := by decide +kernel
theorem dX0_answerMail_76 : decode cX0_answerMail 76 = .ok (.invokevirtual 41, 3) := by decide +kernel
theorem dX0_answerMail_79 : decode cX0_answerMail 79 = .ok (.goto 36, 3) := by decide +kernel
theorem dX0_answerMail_51 : decode cX0_answerMail 51 = .ok (.aload_n 0, 1) := by decide +kernel
theorem dX0_answerMail_52 : decode cX0_answerMail 52 = .ok (.getfield 28, 3) := by decide +kernel
theorem dX0_answerMail_55 : decode cX0_answerMail 55 = .ok (.ldc 125, 2) := by decide +kernel
theorem dX0_answerMail_57 : decode cX0_answerMail 57 = .ok (.invokevirtual 41, 3) := by decide +kernel
theorem dX0_answerMail_60 : decode cX0_answerMail 60 = .ok (.goto 55, 3) := by decide +kernel
def fb_X0_answerMail_29   (s : uS) : Option uS := (fn_X5_line 1040 kW_18 s).bind fun s2 => some s2
set_option maxRecDepth 100000 in
set_option maxHeartbeats 4000000 in
theorem xb_X0_answerMail_29 {l : Launch} {D : va_G} {A : Nat → ClassId} {B : Nat} {Z : State → Heap → Prop} {vF : Value} (uk : uK B Z vF) (un : uX A B Z)    {s : uS} {r : uS}  (h : fb_X0_answerMail_29   s = some r) : GU l D A B Z mX0_answerMail 7 (r, none) s 29 [(0, .ref (B + 1042))] [] := by
  unfold fb_X0_answerMail_29 at h
  refine uu_aload_n dX0_answerMail_29 rfl (List.mem_of_getElem? (i := 0) rfl) ?_
  refine uu_geta (ci := 0) (N := 12) fX0_28 (by decide) so_1042.is (by decide) (c := 1040) (by decide) dX0_answerMail_30 ?_
  obtain ⟨cq1, cp1, cv1, cw1⟩ := uk.2.1 18 _ rfl
  refine uu_ldcS cv1 dX0_answerMail_33 ?_
  obtain ⟨s2, e3, h⟩ := uu_ob h
  refine uu_cv (d1 := 5) (k := 1040) (ci := 5) (T := TX5) (N := 3) (As := [.ref cq1]) (st := []) (st' := []) (xc_X5_line uk so_1040 cw1 e3) so_1040.is (by decide) rfl kX5_line lX0_41 sX5_line (by decide) (Nat.le_of_ble_eq_true rfl) dX0_answerMail_35 rfl ?_
  refine uu_goto (tgt := 115) dX0_answerMail_38 (by decide) ?_
  have hr := Option.some.inj h
  subst hr
  exact uu_vret rfl dX0_answerMail_115
def fn_X0_answerMail (x1 : Int32) (s : uS) : Option uS := (fn_X0_pathStart kW_22 x1 s).bind fun v2 => (fn_X0_pathEnd v2 x1 true s).bind fun v4 => if v4 < 0 then (fb_X0_answerMail_29 s) else ((fn_X0_areOptions v4 x1 s).bind fun r7 => if r7.2 = true then (if (r7.1.I 1043 3) ≤ 0 then (if (r7.1.I 1042 11) = 0 then ((fn_X9_putRange 1043 1052 (v2 + 1) (v4 - 1) r7.1).bind fun s12 => (fn_X9_close 1043 s12).bind fun s14 => (fn_X5_line 1040 kW_24 s14).bind fun s17 => some s17) else ((fn_X5_line 1040 kW_23 r7.1).bind fun s20 => some s20)) else ((fn_X5_line 1040 kW_17 r7.1).bind fun s23 => some s23)) else (fb_X0_answerMail_29 r7.1))
set_option maxRecDepth 100000 in
set_option maxHeartbeats 4000000 in
theorem xc_X0_answerMail {l : Launch} {D : va_G} {A : Nat → ClassId} {B : Nat} {Z : State → Heap → Prop} {vF : Value} (uk : uK B Z vF) (un : uX A B Z) {x1 : Int32} {s : uS} {r : uS}  (h : fn_X0_answerMail x1 s = some r) : CU l D A B Z 7 mX0_answerMail s [.ref (B + 1042), .int x1] (r, none) := by
  unfold fn_X0_answerMail at h
  refine cu_of rfl uk.1.1 (Nat.le_of_ble_eq_true rfl) ?_
  show GU _ _ _ _ _ _ _ _ _ 0 [(0, .ref (B + 1042)), (1, .int x1)] []
  refine uu_aload_n dX0_answerMail_0 rfl (List.mem_of_getElem? (i := 0) rfl) ?_
  obtain ⟨cq1, cp1, cv1, cw1⟩ := uk.2.1 22 _ rfl
  refine uu_ldcS cv1 dX0_answerMail_1 ?_
  refine uu_iload_n dX0_answerMail_3 rfl (List.mem_of_getElem? (i := 1) rfl) ?_
  obtain ⟨v2, e3, h⟩ := uu_ob h
  refine uu_cv (d1 := 5) (k := 1042) (ci := 0) (T := TX0) (N := 12) (As := [.ref cq1, .int x1]) (st := []) (st' := [.int v2]) (xc_X0_pathStart uk cw1 e3) so_1042.is (by decide) rfl kX0_pathStart lX0_156 sX0_pathStart (by decide) (Nat.le_of_ble_eq_true rfl) dX0_answerMail_4 rfl ?_
  refine uu_istore_n dX0_answerMail_7 rfl (by decide) rfl ?_
  refine uu_aload_n dX0_answerMail_8 rfl (List.mem_of_getElem? (i := 1) rfl) ?_
  refine uu_iload_n dX0_answerMail_9 rfl (List.mem_of_getElem? (i := 0) rfl) ?_
  refine uu_iload_n dX0_answerMail_10 rfl (List.mem_of_getElem? (i := 2) rfl) ?_
  refine uu_iconst (v := 1) dX0_answerMail_11 (by decide) ?_
  obtain ⟨v4, e5, h⟩ := uu_ob h
  refine uu_cv (d1 := 6) (k := 1042) (ci := 0) (T := TX0) (N := 12) (As := [.int v2, .int x1, .int 1]) (st := []) (st' := [.int v4]) (xc_X0_pathEnd uk un  e5) so_1042.is (by decide) rfl kX0_pathEnd lX0_159 sX0_pathEnd (by decide) (Nat.le_of_ble_eq_true rfl) dX0_answerMail_12 rfl ?_
  refine uu_istore_n dX0_answerMail_15 rfl (by decide) rfl ?_
  refine uu_iload_n dX0_answerMail_16 rfl (List.mem_of_getElem? (i := 0) rfl) ?_
  refine uu_if_lt (tgt := 29) dX0_answerMail_17 (by decide) (fun c6 => ?_) (fun c6 => ?_)
  · replace h := uu_pos c6 h
    refine uu_lv [2] (lv' := [(0, .ref (B + 1042))]) rfl ?_
    exact xb_X0_answerMail_29 uk un  h
  · replace h := uu_neg c6 h
    refine uu_aload_n dX0_answerMail_20 rfl (List.mem_of_getElem? (i := 2) rfl) ?_
    refine uu_iload_n dX0_answerMail_21 rfl (List.mem_of_getElem? (i := 0) rfl) ?_
    refine uu_iload_n dX0_answerMail_22 rfl (List.mem_of_getElem? (i := 3) rfl) ?_
    obtain ⟨r7, e8, h⟩ := uu_ob h
    refine uu_cv (d1 := 6) (k := 1042) (ci := 0) (T := TX0) (N := 12) (As := [.int v4, .int x1]) (st := []) (st' := [.int (bI r7.2)]) (xc_X0_areOptions uk  e8) so_1042.is (by decide) rfl kX0_areOptions lX0_163 sX0_areOptions (by decide) (Nat.le_of_ble_eq_true rfl) dX0_answerMail_23 rfl ?_
    refine uu_ifb_ne (tgt := 41) dX0_answerMail_26 (by decide) (fun c9 => ?_) (fun c9 => ?_)
    · replace h := uu_pos c9 h
      refine uu_aload_n dX0_answerMail_41 rfl (List.mem_of_getElem? (i := 2) rfl) ?_
      refine uu_geta (ci := 0) (N := 12) fX0_12 (by decide) so_1042.is (by decide) (c := 1043) (by decide) dX0_answerMail_42 ?_
      refine uu_geti (ci := 9) (N := 6) fX0_167 (by decide) so_1043.is (by decide) (by decide) dX0_answerMail_45 ?_
      refine uu_if_le (tgt := 63) dX0_answerMail_48 (by decide) (fun c10 => ?_) (fun c10 => ?_)
      · replace h := uu_pos c10 h
        refine uu_aload_n dX0_answerMail_63 rfl (List.mem_of_getElem? (i := 2) rfl) ?_
        refine uu_geti (ci := 0) (N := 12) fX0_170 (by decide) so_1042.is (by decide) (by decide) dX0_answerMail_64 ?_
        refine uu_if_eq (tgt := 82) dX0_answerMail_67 (by decide) (fun c11 => ?_) (fun c11 => ?_)
        · replace h := uu_pos c11 h
          refine uu_aload_n dX0_answerMail_82 rfl (List.mem_of_getElem? (i := 2) rfl) ?_
          refine uu_geta (ci := 0) (N := 12) fX0_12 (by decide) so_1042.is (by decide) (c := 1043) (by decide) dX0_answerMail_83 ?_
          refine uu_aload_n dX0_answerMail_86 rfl (List.mem_of_getElem? (i := 2) rfl) ?_
          refine uu_geta (ci := 0) (N := 12) fX0_25 (by decide) so_1042.is (by decide) (c := 1052) (by decide) dX0_answerMail_87 ?_
          refine uu_iload_n dX0_answerMail_90 rfl (List.mem_of_getElem? (i := 1) rfl) ?_
          refine uu_iconst (v := 1) dX0_answerMail_91 (by decide) ?_
          refine uu_iadd dX0_answerMail_92 ?_
          refine uu_iload_n dX0_answerMail_93 rfl (List.mem_of_getElem? (i := 0) rfl) ?_
          refine uu_iconst (v := 1) dX0_answerMail_94 (by decide) ?_
          refine uu_isub dX0_answerMail_95 ?_
          obtain ⟨s12, e13, h⟩ := uu_ob h
          refine uu_cv (d1 := 1) (k := 1043) (ci := 9) (T := TX9) (N := 6) (As := [.ref (B + 1052), .int (v2 + 1), .int (v4 - 1)]) (st := []) (st' := []) (xc_X9_putRange uk un so_1043 e13) so_1043.is (by decide) rfl kX9_putRange lX0_175 sX9_putRange (by decide) (Nat.le_of_ble_eq_true rfl) dX0_answerMail_96 rfl ?_
          refine uu_aload_n dX0_answerMail_99 rfl (List.mem_of_getElem? (i := 2) rfl) ?_
          refine uu_geta (ci := 0) (N := 12) fX0_12 (by decide) so_1042.is (by decide) (c := 1043) (by decide) dX0_answerMail_100 ?_
          obtain ⟨s14, e15, h⟩ := uu_ob h
          refine uu_cv (d1 := 0) (k := 1043) (ci := 9) (T := TX9) (N := 6) (As := []) (st := []) (st' := []) (xc_X9_close uk so_1043 e15) so_1043.is (by decide) rfl kX9_close lX0_178 sX9_close (by decide) (Nat.le_of_ble_eq_true rfl) dX0_answerMail_103 rfl ?_
          refine uu_aload_n dX0_answerMail_106 rfl (List.mem_of_getElem? (i := 2) rfl) ?_
          refine uu_geta (ci := 0) (N := 12) fX0_28 (by decide) so_1042.is (by decide) (c := 1040) (by decide) dX0_answerMail_107 ?_
          obtain ⟨cq16, cp16, cv16, cw16⟩ := uk.2.1 24 _ rfl
          refine uu_ldcS cv16 dX0_answerMail_110 ?_
          obtain ⟨s17, e18, h⟩ := uu_ob h
          refine uu_cv (d1 := 5) (k := 1040) (ci := 5) (T := TX5) (N := 3) (As := [.ref cq16]) (st := []) (st' := []) (xc_X5_line uk so_1040 cw16 e18) so_1040.is (by decide) rfl kX5_line lX0_41 sX5_line (by decide) (Nat.le_of_ble_eq_true rfl) dX0_answerMail_112 rfl ?_
          have hr := Option.some.inj h
          subst hr
          exact uu_vret rfl dX0_answerMail_115
        · replace h := uu_neg c11 h
          refine uu_aload_n dX0_answerMail_70 rfl (List.mem_of_getElem? (i := 2) rfl) ?_
          refine uu_geta (ci := 0) (N := 12) fX0_28 (by decide) so_1042.is (by decide) (c := 1040) (by decide) dX0_answerMail_71 ?_
          obtain ⟨cq19, cp19, cv19, cw19⟩ := uk.2.1 23 _ rfl
          refine uu_ldcS cv19 dX0_answerMail_74 ?_
          obtain ⟨s20, e21, h⟩ := uu_ob h
          refine uu_cv (d1 := 5) (k := 1040) (ci := 5) (T := TX5) (N := 3) (As := [.ref cq19]) (st := []) (st' := []) (xc_X5_line uk so_1040 cw19 e21) so_1040.is (by decide) rfl kX5_line lX0_41 sX5_line (by decide) (Nat.le_of_ble_eq_true rfl) dX0_answerMail_76 rfl ?_
          refine uu_goto (tgt := 115) dX0_answerMail_79 (by decide) ?_
          have hr := Option.some.inj h
          subst hr
          exact uu_vret rfl dX0_answerMail_115
      · replace h := uu_neg c10 h
        refine uu_aload_n dX0_answerMail_51 rfl (List.mem_of_getElem? (i := 2) rfl) ?_
        refine uu_geta (ci := 0) (N := 12) fX0_28 (by decide) so_1042.is (by decide) (c := 1040) (by decide) dX0_answerMail_52 ?_
        obtain ⟨cq22, cp22, cv22, cw22⟩ := uk.2.1 17 _ rfl
        refine uu_ldcS cv22 dX0_answerMail_55 ?_
        obtain ⟨s23, e24, h⟩ := uu_ob h
        refine uu_cv (d1 := 5) (k := 1040) (ci := 5) (T := TX5) (N := 3) (As := [.ref cq22]) (st := []) (st' := []) (xc_X5_line uk so_1040 cw22 e24) so_1040.is (by decide) rfl kX5_line lX0_41 sX5_line (by decide) (Nat.le_of_ble_eq_true rfl) dX0_answerMail_57 rfl ?_
        refine uu_goto (tgt := 115) dX0_answerMail_60 (by decide) ?_
        have hr := Option.some.inj h
        subst hr
        exact uu_vret rfl dX0_answerMail_115
    · replace h := uu_neg c9 h
      refine uu_lv [2] (lv' := [(0, .ref (B + 1042))]) rfl ?_
      exact xb_X0_answerMail_29 uk un  h
abbrev mX9_isDomain : hM := (yX9_isDomain, cX9_isDomain, 3, (some (.boolean)))
theorem dX9_isDomain_0 : decode cX9_isDomain 0 = .ok (.aload_n 0, 1) := by decide +kernel
theorem dX9_isDomain_1 : decode cX9_isDomain 1 = .ok (.iload_n 1, 1) := by decide +kernel
theorem dX9_isDomain_2 : decode cX9_isDomain 2 = .ok (.iload_n 2, 1) := by decide +kernel
theorem dX9_isDomain_3 : decode cX9_isDomain 3 = .ok (.bipush 60, 2) := by decide +kernel
theorem dX9_isDomain_5 : decode cX9_isDomain 5 = .ok (.ldc 102, 2) := by decide +kernel
theorem dX9_isDomain_7 : decode cX9_isDomain 7 = .ok (.invokestatic 98, 3) := by decide +kernel
theorem dX9_isDomain_10 : decode cX9_isDomain 10 = .ok (.ireturn, 1) := by decide +kernel
def fn_X9_isDomain (k0 : Nat) (x1 : Int32) (x2 : Int32) (s : uS) : Option Bool := (fn_X9_isDotted k0 x1 x2 60 kW_69 s).bind fun v2 => some v2
set_option maxRecDepth 100000 in
set_option maxHeartbeats 4000000 in
theorem xc_X9_isDomain {l : Launch} {D : va_G} {A : Nat → ClassId} {B : Nat} {Z : State → Heap → Prop} {vF : Value} (uk : uK B Z vF) (un : uX A B Z) {k0 : Nat} {x1 : Int32} {x2 : Int32} {s : uS} {r : Bool}  (h : fn_X9_isDomain k0 x1 x2 s = some r) : CU l D A B Z 5 mX9_isDomain s [.ref (B + k0), .int x1, .int x2] (s, some (.int (bI r))) := by
  unfold fn_X9_isDomain at h
  refine cu_of rfl uk.1.1 (Nat.le_of_ble_eq_true rfl) ?_
  show GU _ _ _ _ _ _ _ _ _ 0 [(0, .ref (B + k0)), (1, .int x1), (2, .int x2)] []
  refine uu_aload_n dX9_isDomain_0 rfl (List.mem_of_getElem? (i := 0) rfl) ?_
  refine uu_iload_n dX9_isDomain_1 rfl (List.mem_of_getElem? (i := 1) rfl) ?_
  refine uu_iload_n dX9_isDomain_2 rfl (List.mem_of_getElem? (i := 2) rfl) ?_
  refine uu_bipush (v := 60) dX9_isDomain_3 (by decide) ?_
  obtain ⟨cq1, cp1, cv1, cw1⟩ := uk.2.1 69 _ rfl
  refine uu_ldcS cv1 dX9_isDomain_5 ?_
  obtain ⟨v2, e3, h⟩ := uu_ob h
  refine uu_cs (d1 := 4) (As := [.ref (B + k0), .int x1, .int x2, .int 60, .ref cq1]) (st := []) (st' := [.int (bI v2)]) (xc_X9_isDotted uk un cw1 e3) kX9_isDotted lX9_98 sX9_isDotted (by decide) (Nat.le_of_ble_eq_true rfl) dX9_isDomain_7 rfl ?_
  have hr := Option.some.inj h
  subst hr
  exact uu_zret (x := bI v2) rfl (bI_z _) dX9_isDomain_10
abbrev mX0_answerLhlo : hM := (yX0_answerLhlo, cX0_answerLhlo, 2, none)
theorem dX0_answerLhlo_0 : decode cX0_answerLhlo 0 = .ok (.aload_n 0, 1) := by decide +kernel
theorem dX0_answerLhlo_1 : decode cX0_answerLhlo 1 = .ok (.getfield 25, 3) := by decide +kernel
theorem dX0_answerLhlo_4 : decode cX0_answerLhlo 4 = .ok (.iconst 5, 1) := by decide +kernel
theorem dX0_answerLhlo_5 : decode cX0_answerLhlo 5 = .ok (.iload_n 1, 1) := by decide +kernel
theorem kX9_isDomain : h_ml mX9_isDomain 3 := ⟨h_t3 216 rfl rfl, h_t1 4 rfl rfl, ⟨by decide, by decide, by decide +kernel⟩, by decide⟩
theorem lX0_141 : Cond.methodLink RX0 141 mX9_isDomain.1 ∈ lw_g := h_t3 214 rfl rfl
theorem sX9_isDomain : Cond.static mX9_isDomain.1 ∈ lw_g := h_t3 215 rfl rfl
theorem dX0_answerLhlo_6 : decode cX0_answerLhlo 6 = .ok (.invokestatic 141, 3) := by decide +kernel
theorem dX0_answerLhlo_9 : decode cX0_answerLhlo 9 = .ok (.ifCond .ne 13, 3) := by decide +kernel
theorem dX0_answerLhlo_22 : decode cX0_answerLhlo 22 = .ok (.aload_n 0, 1) := by decide +kernel
theorem dX0_answerLhlo_23 : decode cX0_answerLhlo 23 = .ok (.iconst 1, 1) := by decide +kernel
theorem dX0_answerLhlo_24 : decode cX0_answerLhlo 24 = .ok (.putfield 46, 3) := by decide +kernel
theorem dX0_answerLhlo_27 : decode cX0_answerLhlo 27 = .ok (.aload_n 0, 1) := by decide +kernel
theorem dX0_answerLhlo_28 : decode cX0_answerLhlo 28 = .ok (.invokevirtual 145, 3) := by decide +kernel
theorem dX0_answerLhlo_31 : decode cX0_answerLhlo 31 = .ok (.aload_n 0, 1) := by decide +kernel
theorem dX0_answerLhlo_32 : decode cX0_answerLhlo 32 = .ok (.getfield 28, 3) := by decide +kernel
theorem dX0_answerLhlo_35 : decode cX0_answerLhlo 35 = .ok (.ldc 148, 2) := by decide +kernel
theorem dX0_answerLhlo_37 : decode cX0_answerLhlo 37 = .ok (.invokevirtual 41, 3) := by decide +kernel
theorem dX0_answerLhlo_40 : decode cX0_answerLhlo 40 = .ok (.aload_n 0, 1) := by decide +kernel
theorem dX0_answerLhlo_41 : decode cX0_answerLhlo 41 = .ok (.getfield 28, 3) := by decide +kernel
theorem dX0_answerLhlo_44 : decode cX0_answerLhlo 44 = .ok (.ldc 150, 2) := by decide +kernel
theorem dX0_answerLhlo_46 : decode cX0_answerLhlo 46 = .ok (.invokevirtual 41, 3) := by decide +kernel
theorem dX0_answerLhlo_49 : decode cX0_answerLhlo 49 = .ok (.aload_n 0, 1) := by decide +kernel
theorem dX0_answerLhlo_50 : decode cX0_answerLhlo 50 = .ok (.getfield 28, 3) := by decide +kernel
theorem dX0_answerLhlo_53 : decode cX0_answerLhlo 53 = .ok (.ldc 152, 2) := by decide +kernel
theorem dX0_answerLhlo_55 : decode cX0_answerLhlo 55 = .ok (.invokevirtual 41, 3) := by decide +kernel
theorem dX0_answerLhlo_58 : decode cX0_answerLhlo 58 = .ok (.return_, 1) := by decide +kernel
theorem dX0_answerLhlo_12 : decode cX0_answerLhlo 12 = .ok (.aload_n 0, 1) := by decide +kernel
theorem dX0_answerLhlo_13 : decode cX0_answerLhlo 13 = .ok (.getfield 28, 3) := by decide +kernel
theorem dX0_answerLhlo_16 : decode cX0_answerLhlo 16 = .ok (.ldc 136, 2) := by decide +kernel
theorem dX0_answerLhlo_18 : decode cX0_answerLhlo 18 = .ok (.invokevirtual 41, 3) := by decide +kernel
theorem dX0_answerLhlo_21 : decode cX0_answerLhlo 21 = .ok (.return_, 1) := by decide +kernel
def fn_X0_answerLhlo (x1 : Int32) (s : uS) : Option uS := (fn_X9_isDomain 1052 5 x1 s).bind fun v1 => if v1 = true then ((fn_X0_forget (wI s 1042 10 1)).bind fun s4 => (fn_X5_line 1040 kW_19 s4).bind fun s7 => (fn_X5_line 1040 kW_20 s7).bind fun s10 => (fn_X5_line 1040 kW_21 s10).bind fun s13 => some s13) else ((fn_X5_line 1040 kW_18 s).bind fun s16 => some s16)
set_option maxRecDepth 100000 in
set_option maxHeartbeats 4000000 in
theorem xc_X0_answerLhlo {l : Launch} {D : va_G} {A : Nat → ClassId} {B : Nat} {Z : State → Heap → Prop} {vF : Value} (uk : uK B Z vF) (un : uX A B Z) {x1 : Int32} {s : uS} {r : uS}  (h : fn_X0_answerLhlo x1 s = some r) : CU l D A B Z 6 mX0_answerLhlo s [.ref (B + 1042), .int x1] (r, none) := by
  unfold fn_X0_answerLhlo at h
  refine cu_of rfl uk.1.1 (Nat.le_of_ble_eq_true rfl) ?_
  show GU _ _ _ _ _ _ _ _ _ 0 [(0, .ref (B + 1042)), (1, .int x1)] []
  refine uu_aload_n dX0_answerLhlo_0 rfl (List.mem_of_getElem? (i := 0) rfl) ?_
  refine uu_geta (ci := 0) (N := 12) fX0_25 (by decide) so_1042.is (by decide) (c := 1052) (by decide) dX0_answerLhlo_1 ?_
  refine uu_iconst (v := 5) dX0_answerLhlo_4 (by decide) ?_
  refine uu_iload_n dX0_answerLhlo_5 rfl (List.mem_of_getElem? (i := 1) rfl) ?_
  obtain ⟨v1, e2, h⟩ := uu_ob h
  refine uu_cs (d1 := 5) (As := [.ref (B + 1052), .int 5, .int x1]) (st := []) (st' := [.int (bI v1)]) (xc_X9_isDomain uk un  e2) kX9_isDomain lX0_141 sX9_isDomain (by decide) (Nat.le_of_ble_eq_true rfl) dX0_answerLhlo_6 rfl ?_
  refine uu_ifb_ne (tgt := 22) dX0_answerLhlo_9 (by decide) (fun c3 => ?_) (fun c3 => ?_)
  · replace h := uu_pos c3 h
    refine uu_aload_n dX0_answerLhlo_22 rfl (List.mem_of_getElem? (i := 0) rfl) ?_
    refine uu_iconst (v := 1) dX0_answerLhlo_23 (by decide) ?_
    refine uu_puti (ft := .boolean) (ci := 0) (N := 12) fX0_46 ptX0 (Or.inl rfl) (by decide) so_1042.is (by decide) (by decide) (by decide +kernel) rfl rfl dX0_answerLhlo_24 ?_
    refine uu_aload_n dX0_answerLhlo_27 rfl (List.mem_of_getElem? (i := 0) rfl) ?_
    obtain ⟨s4, e5, h⟩ := uu_ob h
    refine uu_cv (d1 := 1) (k := 1042) (ci := 0) (T := TX0) (N := 12) (As := []) (st := []) (st' := []) (xc_X0_forget uk  e5) so_1042.is (by decide) rfl kX0_forget lX0_145 sX0_forget (by decide) (Nat.le_of_ble_eq_true rfl) dX0_answerLhlo_28 rfl ?_
    refine uu_aload_n dX0_answerLhlo_31 rfl (List.mem_of_getElem? (i := 0) rfl) ?_
    refine uu_geta (ci := 0) (N := 12) fX0_28 (by decide) so_1042.is (by decide) (c := 1040) (by decide) dX0_answerLhlo_32 ?_
    obtain ⟨cq6, cp6, cv6, cw6⟩ := uk.2.1 19 _ rfl
    refine uu_ldcS cv6 dX0_answerLhlo_35 ?_
    obtain ⟨s7, e8, h⟩ := uu_ob h
    refine uu_cv (d1 := 5) (k := 1040) (ci := 5) (T := TX5) (N := 3) (As := [.ref cq6]) (st := []) (st' := []) (xc_X5_line uk so_1040 cw6 e8) so_1040.is (by decide) rfl kX5_line lX0_41 sX5_line (by decide) (Nat.le_of_ble_eq_true rfl) dX0_answerLhlo_37 rfl ?_
    refine uu_aload_n dX0_answerLhlo_40 rfl (List.mem_of_getElem? (i := 0) rfl) ?_
    refine uu_geta (ci := 0) (N := 12) fX0_28 (by decide) so_1042.is (by decide) (c := 1040) (by decide) dX0_answerLhlo_41 ?_
    obtain ⟨cq9, cp9, cv9, cw9⟩ := uk.2.1 20 _ rfl
    refine uu_ldcS cv9 dX0_answerLhlo_44 ?_
    obtain ⟨s10, e11, h⟩ := uu_ob h
    refine uu_cv (d1 := 5) (k := 1040) (ci := 5) (T := TX5) (N := 3) (As := [.ref cq9]) (st := []) (st' := []) (xc_X5_line uk so_1040 cw9 e11) so_1040.is (by decide) rfl kX5_line lX0_41 sX5_line (by decide) (Nat.le_of_ble_eq_true rfl) dX0_answerLhlo_46 rfl ?_
    refine uu_aload_n dX0_answerLhlo_49 rfl (List.mem_of_getElem? (i := 0) rfl) ?_
    refine uu_geta (ci := 0) (N := 12) fX0_28 (by decide) so_1042.is (by decide) (c := 1040) (by decide) dX0_answerLhlo_50 ?_
    obtain ⟨cq12, cp12, cv12, cw12⟩ := uk.2.1 21 _ rfl
    refine uu_ldcS cv12 dX0_answerLhlo_53 ?_
    obtain ⟨s13, e14, h⟩ := uu_ob h
    refine uu_cv (d1 := 5) (k := 1040) (ci := 5) (T := TX5) (N := 3) (As := [.ref cq12]) (st := []) (st' := []) (xc_X5_line uk so_1040 cw12 e14) so_1040.is (by decide) rfl kX5_line lX0_41 sX5_line (by decide) (Nat.le_of_ble_eq_true rfl) dX0_answerLhlo_55 rfl ?_
    have hr := Option.some.inj h
    subst hr
    exact uu_vret rfl dX0_answerLhlo_58
  · replace h := uu_neg c3 h
    refine uu_aload_n dX0_answerLhlo_12 rfl (List.mem_of_getElem? (i := 0) rfl) ?_
    refine uu_geta (ci := 0) (N := 12) fX0_28 (by decide) so_1042.is (by decide) (c := 1040) (by decide) dX0_answerLhlo_13 ?_
    obtain ⟨cq15, cp15, cv15, cw15⟩ := uk.2.1 18 _ rfl
    refine uu_ldcS cv15 dX0_answerLhlo_16 ?_
    obtain ⟨s16, e17, h⟩ := uu_ob h
    refine uu_cv (d1 := 5) (k := 1040) (ci := 5) (T := TX5) (N := 3) (As := [.ref cq15]) (st := []) (st' := []) (xc_X5_line uk so_1040 cw15 e17) so_1040.is (by decide) rfl kX5_line lX0_41 sX5_line (by decide) (Nat.le_of_ble_eq_true rfl) dX0_answerLhlo_18 rfl ?_
    have hr := Option.some.inj h
    subst hr
    exact uu_vret rfl dX0_answerLhlo_21
theorem dX0_answerLine_106 : decode cX0_answerLine 106 = .ok (.aload_n 0, 1) := by decide +kernel
theorem dX0_answerLine_107 : decode cX0_answerLine 107 = .ok (.getfield 28, 3) := by decide +kernel
theorem dX0_answerLine_110 : decode cX0_answerLine 110 = .ok (.ldc 125, 2) := by decide +kernel
theorem dX0_answerLine_112 : decode cX0_answerLine 112 = .ok (.invokevirtual 41, 3) := by decide +kernel
theorem dX0_answerLine_115 : decode cX0_answerLine 115 = .ok (.goto 67, 3) := by decide +kernel
theorem dX0_answerLine_182 : decode cX0_answerLine 182 = .ok (.return_, 1) := by decide +kernel
theorem dX0_answerLine_118 : decode cX0_answerLine 118 = .ok (.iload 4, 2) := by decide +kernel
theorem dX0_answerLine_120 : decode cX0_answerLine 120 = .ok (.ifCond .ne 11, 3) := by decide +kernel
theorem dX0_answerLine_131 : decode cX0_answerLine 131 = .ok (.iload 4, 2) := by decide +kernel
theorem dX0_answerLine_133 : decode cX0_answerLine 133 = .ok (.iconst 1, 1) := by decide +kernel
theorem dX0_answerLine_134 : decode cX0_answerLine 134 = .ok (.if_icmp .ne 11, 3) := by decide +kernel
theorem dX0_answerLine_145 : decode cX0_answerLine 145 = .ok (.iload 4, 2) := by decide +kernel
theorem dX0_answerLine_147 : decode cX0_answerLine 147 = .ok (.iconst 2, 1) := by decide +kernel
theorem dX0_answerLine_148 : decode cX0_answerLine 148 = .ok (.if_icmp .ne 11, 3) := by decide +kernel
theorem dX0_answerLine_159 : decode cX0_answerLine 159 = .ok (.iload_n 1, 1) := by decide +kernel
theorem dX0_answerLine_160 : decode cX0_answerLine 160 = .ok (.iload_n 3, 1) := by decide +kernel
theorem dX0_answerLine_161 : decode cX0_answerLine 161 = .ok (.if_icmp .le 15, 3) := by decide +kernel
theorem dX0_answerLine_176 : decode cX0_answerLine 176 = .ok (.aload_n 0, 1) := by decide +kernel
theorem dX0_answerLine_177 : decode cX0_answerLine 177 = .ok (.iload 4, 2) := by decide +kernel
theorem kX0_answerBareWord : h_ml mX0_answerBareWord 1 := ⟨h_t4 101 rfl rfl, h_t1 13 rfl rfl, ⟨by decide, by decide, by decide +kernel⟩, by decide⟩
theorem lX0_138 : Cond.methodLink RX0 138 mX0_answerBareWord.1 ∈ lw_g := h_t4 98 rfl rfl
theorem sX0_answerBareWord : Cond.instanceMethod mX0_answerBareWord.1 ∈ lw_g ∧ Cond.selects mX0_answerBareWord.1.cls mX0_answerBareWord.1 mX0_answerBareWord.1 ∈ lw_g := ⟨h_t4 100 rfl rfl, h_ins 11 rfl⟩
theorem dX0_answerLine_179 : decode cX0_answerLine 179 = .ok (.invokevirtual 138, 3) := by decide +kernel
theorem dX0_answerLine_164 : decode cX0_answerLine 164 = .ok (.aload_n 0, 1) := by decide +kernel
theorem dX0_answerLine_165 : decode cX0_answerLine 165 = .ok (.getfield 28, 3) := by decide +kernel
theorem dX0_answerLine_168 : decode cX0_answerLine 168 = .ok (.ldc 136, 2) := by decide +kernel
theorem dX0_answerLine_170 : decode cX0_answerLine 170 = .ok (.invokevirtual 41, 3) := by decide +kernel
theorem dX0_answerLine_173 : decode cX0_answerLine 173 = .ok (.goto 9, 3) := by decide +kernel
theorem dX0_answerLine_151 : decode cX0_answerLine 151 = .ok (.aload_n 0, 1) := by decide +kernel
theorem dX0_answerLine_152 : decode cX0_answerLine 152 = .ok (.iload_n 1, 1) := by decide +kernel
theorem kX0_answerRcpt : h_ml mX0_answerRcpt 1 := ⟨h_t4 92 rfl rfl, h_t1 13 rfl rfl, ⟨by decide, by decide, by decide +kernel⟩, by decide⟩
theorem lX0_133 : Cond.methodLink RX0 133 mX0_answerRcpt.1 ∈ lw_g := h_t4 89 rfl rfl
theorem sX0_answerRcpt : Cond.instanceMethod mX0_answerRcpt.1 ∈ lw_g ∧ Cond.selects mX0_answerRcpt.1.cls mX0_answerRcpt.1 mX0_answerRcpt.1 ∈ lw_g := ⟨h_t4 91 rfl rfl, h_ins 10 rfl⟩
theorem dX0_answerLine_153 : decode cX0_answerLine 153 = .ok (.invokevirtual 133, 3) := by decide +kernel
theorem dX0_answerLine_156 : decode cX0_answerLine 156 = .ok (.goto 26, 3) := by decide +kernel
theorem dX0_answerLine_137 : decode cX0_answerLine 137 = .ok (.aload_n 0, 1) := by decide +kernel
theorem dX0_answerLine_138 : decode cX0_answerLine 138 = .ok (.iload_n 1, 1) := by decide +kernel
theorem kX0_answerMail : h_ml mX0_answerMail 1 := ⟨h_t4 49 rfl rfl, h_t1 13 rfl rfl, ⟨by decide, by decide, by decide +kernel⟩, by decide⟩
theorem lX0_130 : Cond.methodLink RX0 130 mX0_answerMail.1 ∈ lw_g := h_t4 46 rfl rfl
theorem sX0_answerMail : Cond.instanceMethod mX0_answerMail.1 ∈ lw_g ∧ Cond.selects mX0_answerMail.1.cls mX0_answerMail.1 mX0_answerMail.1 ∈ lw_g := ⟨h_t4 48 rfl rfl, h_ins 5 rfl⟩
theorem dX0_answerLine_139 : decode cX0_answerLine 139 = .ok (.invokevirtual 130, 3) := by decide +kernel
theorem dX0_answerLine_142 : decode cX0_answerLine 142 = .ok (.goto 40, 3) := by decide +kernel
theorem dX0_answerLine_123 : decode cX0_answerLine 123 = .ok (.aload_n 0, 1) := by decide +kernel
theorem dX0_answerLine_124 : decode cX0_answerLine 124 = .ok (.iload_n 1, 1) := by decide +kernel
theorem kX0_answerLhlo : h_ml mX0_answerLhlo 1 := ⟨h_t3 213 rfl rfl, h_t1 13 rfl rfl, ⟨by decide, by decide, by decide +kernel⟩, by decide⟩
theorem lX0_127 : Cond.methodLink RX0 127 mX0_answerLhlo.1 ∈ lw_g := h_t3 210 rfl rfl
theorem sX0_answerLhlo : Cond.instanceMethod mX0_answerLhlo.1 ∈ lw_g ∧ Cond.selects mX0_answerLhlo.1.cls mX0_answerLhlo.1 mX0_answerLhlo.1 ∈ lw_g := ⟨h_t3 212 rfl rfl, h_ins 4 rfl⟩
theorem dX0_answerLine_125 : decode cX0_answerLine 125 = .ok (.invokevirtual 127, 3) := by decide +kernel
theorem dX0_answerLine_128 : decode cX0_answerLine 128 = .ok (.goto 54, 3) := by decide +kernel
theorem dX0_answerLine_50 : decode cX0_answerLine 50 = .ok (.istore_n 3, 1) := by decide +kernel
theorem dX0_answerLine_51 : decode cX0_answerLine 51 = .ok (.ldc 117, 2) := by decide +kernel
theorem dX0_answerLine_53 : decode cX0_answerLine 53 = .ok (.aload_n 0, 1) := by decide +kernel
theorem dX0_answerLine_54 : decode cX0_answerLine 54 = .ok (.getfield 25, 3) := by decide +kernel
theorem dX0_answerLine_57 : decode cX0_answerLine 57 = .ok (.iconst 0, 1) := by decide +kernel
theorem dX0_answerLine_58 : decode cX0_answerLine 58 = .ok (.iload_n 3, 1) := by decide +kernel
theorem dX0_answerLine_59 : decode cX0_answerLine 59 = .ok (.invokestatic 119, 3) := by decide +kernel
theorem dX0_answerLine_62 : decode cX0_answerLine 62 = .ok (.istore 4, 2) := by decide +kernel
theorem dX0_answerLine_64 : decode cX0_answerLine 64 = .ok (.iload 4, 2) := by decide +kernel
theorem dX0_answerLine_66 : decode cX0_answerLine 66 = .ok (.ifCond .ge 15, 3) := by decide +kernel
theorem dX0_answerLine_81 : decode cX0_answerLine 81 = .ok (.aload_n 0, 1) := by decide +kernel
theorem dX0_answerLine_82 : decode cX0_answerLine 82 = .ok (.getfield 46, 3) := by decide +kernel
theorem dX0_answerLine_85 : decode cX0_answerLine 85 = .ok (.ifCond .ne 33, 3) := by decide +kernel
theorem dX0_answerLine_88 : decode cX0_answerLine 88 = .ok (.iload 4, 2) := by decide +kernel
theorem dX0_answerLine_90 : decode cX0_answerLine 90 = .ok (.iconst 1, 1) := by decide +kernel
theorem dX0_answerLine_91 : decode cX0_answerLine 91 = .ok (.if_icmp .eq 15, 3) := by decide +kernel
theorem dX0_answerLine_94 : decode cX0_answerLine 94 = .ok (.iload 4, 2) := by decide +kernel
theorem dX0_answerLine_96 : decode cX0_answerLine 96 = .ok (.iconst 2, 1) := by decide +kernel
theorem dX0_answerLine_97 : decode cX0_answerLine 97 = .ok (.if_icmp .eq 9, 3) := by decide +kernel
theorem dX0_answerLine_100 : decode cX0_answerLine 100 = .ok (.iload 4, 2) := by decide +kernel
theorem dX0_answerLine_102 : decode cX0_answerLine 102 = .ok (.iconst 3, 1) := by decide +kernel
theorem dX0_answerLine_103 : decode cX0_answerLine 103 = .ok (.if_icmp .ne 15, 3) := by decide +kernel
theorem dX0_answerLine_69 : decode cX0_answerLine 69 = .ok (.aload_n 0, 1) := by decide +kernel
theorem dX0_answerLine_70 : decode cX0_answerLine 70 = .ok (.getfield 28, 3) := by decide +kernel
theorem dX0_answerLine_73 : decode cX0_answerLine 73 = .ok (.ldc 123, 2) := by decide +kernel
theorem dX0_answerLine_75 : decode cX0_answerLine 75 = .ok (.invokevirtual 41, 3) := by decide +kernel
theorem dX0_answerLine_78 : decode cX0_answerLine 78 = .ok (.goto 104, 3) := by decide +kernel
theorem dX0_answerLine_0 : decode cX0_answerLine 0 = .ok (.aload_n 0, 1) := by decide +kernel
theorem dX0_answerLine_1 : decode cX0_answerLine 1 = .ok (.getfield 52, 3) := by decide +kernel
theorem dX0_answerLine_4 : decode cX0_answerLine 4 = .ok (.iconst 1, 1) := by decide +kernel
theorem dX0_answerLine_5 : decode cX0_answerLine 5 = .ok (.isub, 1) := by decide +kernel
theorem dX0_answerLine_6 : decode cX0_answerLine 6 = .ok (.istore_n 1, 1) := by decide +kernel
theorem dX0_answerLine_7 : decode cX0_answerLine 7 = .ok (.aload_n 0, 1) := by decide +kernel
theorem dX0_answerLine_8 : decode cX0_answerLine 8 = .ok (.iconst 0, 1) := by decide +kernel
theorem dX0_answerLine_9 : decode cX0_answerLine 9 = .ok (.putfield 52, 3) := by decide +kernel
theorem dX0_answerLine_12 : decode cX0_answerLine 12 = .ok (.iload_n 1, 1) := by decide +kernel
theorem dX0_answerLine_13 : decode cX0_answerLine 13 = .ok (.sipush 500, 3) := by decide +kernel
theorem dX0_answerLine_16 : decode cX0_answerLine 16 = .ok (.if_icmp .le 13, 3) := by decide +kernel
theorem dX0_answerLine_29 : decode cX0_answerLine 29 = .ok (.aload_n 0, 1) := by decide +kernel
theorem dX0_answerLine_30 : decode cX0_answerLine 30 = .ok (.getfield 25, 3) := by decide +kernel
theorem dX0_answerLine_33 : decode cX0_answerLine 33 = .ok (.iconst 0, 1) := by decide +kernel
theorem dX0_answerLine_34 : decode cX0_answerLine 34 = .ok (.iload_n 1, 1) := by decide +kernel
theorem dX0_answerLine_35 : decode cX0_answerLine 35 = .ok (.bipush 32, 2) := by decide +kernel
theorem dX0_answerLine_37 : decode cX0_answerLine 37 = .ok (.invokestatic 113, 3) := by decide +kernel
theorem dX0_answerLine_40 : decode cX0_answerLine 40 = .ok (.istore_n 2, 1) := by decide +kernel
theorem dX0_answerLine_41 : decode cX0_answerLine 41 = .ok (.iload_n 2, 1) := by decide +kernel
theorem dX0_answerLine_42 : decode cX0_answerLine 42 = .ok (.ifCond .ge 7, 3) := by decide +kernel
theorem dX0_answerLine_49 : decode cX0_answerLine 49 = .ok (.iload_n 2, 1) := by decide +kernel
theorem dX0_answerLine_45 : decode cX0_answerLine 45 = .ok (.iload_n 1, 1) := by decide +kernel
theorem dX0_answerLine_46 : decode cX0_answerLine 46 = .ok (.goto 4, 3) := by decide +kernel
theorem dX0_answerLine_19 : decode cX0_answerLine 19 = .ok (.aload_n 0, 1) := by decide +kernel
theorem dX0_answerLine_20 : decode cX0_answerLine 20 = .ok (.getfield 28, 3) := by decide +kernel
theorem dX0_answerLine_23 : decode cX0_answerLine 23 = .ok (.ldc 111, 2) := by decide +kernel
theorem dX0_answerLine_25 : decode cX0_answerLine 25 = .ok (.invokevirtual 41, 3) := by decide +kernel
theorem dX0_answerLine_28 : decode cX0_answerLine 28 = .ok (.return_, 1) := by decide +kernel
def fb_X0_answerLine_106   (s : uS) : Option uS := (fn_X5_line 1040 kW_17 s).bind fun s2 => some s2
set_option maxRecDepth 100000 in
set_option maxHeartbeats 4000000 in
theorem xb_X0_answerLine_106 {l : Launch} {D : va_G} {A : Nat → ClassId} {B : Nat} {Z : State → Heap → Prop} {vF : Value} (uk : uK B Z vF) (un : uX A B Z)    {s : uS} {r : uS}  (h : fb_X0_answerLine_106   s = some r) : GU l D A B Z mX0_answerLine 8 (r, none) s 106 [(0, .ref (B + 1042))] [] := by
  unfold fb_X0_answerLine_106 at h
  refine uu_aload_n dX0_answerLine_106 rfl (List.mem_of_getElem? (i := 0) rfl) ?_
  refine uu_geta (ci := 0) (N := 12) fX0_28 (by decide) so_1042.is (by decide) (c := 1040) (by decide) dX0_answerLine_107 ?_
  obtain ⟨cq1, cp1, cv1, cw1⟩ := uk.2.1 17 _ rfl
  refine uu_ldcS cv1 dX0_answerLine_110 ?_
  obtain ⟨s2, e3, h⟩ := uu_ob h
  refine uu_cv (d1 := 5) (k := 1040) (ci := 5) (T := TX5) (N := 3) (As := [.ref cq1]) (st := []) (st' := []) (xc_X5_line uk so_1040 cw1 e3) so_1040.is (by decide) rfl kX5_line lX0_41 sX5_line (by decide) (Nat.le_of_ble_eq_true rfl) dX0_answerLine_112 rfl ?_
  refine uu_goto (tgt := 182) dX0_answerLine_115 (by decide) ?_
  have hr := Option.some.inj h
  subst hr
  exact uu_vret rfl dX0_answerLine_182
def fb_X0_answerLine_118  (x1 : Int32) (x3 : Int32) (x4 : Int32) (s : uS) : Option uS := if x4 = 0 then ((fn_X0_answerLhlo x1 s).bind fun s14 => some s14) else (if x4 = 1 then ((fn_X0_answerMail x1 s).bind fun s12 => some s12) else (if x4 = 2 then ((fn_X0_answerRcpt x1 s).bind fun s10 => some s10) else (if x1 ≤ x3 then ((fn_X0_answerBareWord x4 s).bind fun s5 => some s5) else ((fn_X5_line 1040 kW_18 s).bind fun s8 => some s8))))
set_option maxRecDepth 100000 in
set_option maxHeartbeats 4000000 in
theorem xb_X0_answerLine_118 {l : Launch} {D : va_G} {A : Nat → ClassId} {B : Nat} {Z : State → Heap → Prop} {vF : Value} (uk : uK B Z vF) (un : uX A B Z)   {x1 : Int32} {x3 : Int32} {x4 : Int32} {s : uS} {r : uS}  (h : fb_X0_answerLine_118  x1 x3 x4 s = some r) : GU l D A B Z mX0_answerLine 8 (r, none) s 118 [(0, .ref (B + 1042)), (1, .int x1), (3, .int x3), (4, .int x4)] [] := by
  unfold fb_X0_answerLine_118 at h
  refine uu_iload dX0_answerLine_118 (List.mem_of_getElem? (i := 3) rfl) ?_
  refine uu_if_ne (tgt := 131) dX0_answerLine_120 (by decide) (fun c1 => ?_) (fun c1 => ?_)
  · replace h := uu_neg c1 h
    refine uu_iload dX0_answerLine_131 (List.mem_of_getElem? (i := 3) rfl) ?_
    refine uu_iconst (v := 1) dX0_answerLine_133 (by decide) ?_
    refine uu_icmp_ne (tgt := 145) dX0_answerLine_134 (by decide) (fun c2 => ?_) (fun c2 => ?_)
    · replace h := uu_neg c2 h
      refine uu_iload dX0_answerLine_145 (List.mem_of_getElem? (i := 3) rfl) ?_
      refine uu_iconst (v := 2) dX0_answerLine_147 (by decide) ?_
      refine uu_icmp_ne (tgt := 159) dX0_answerLine_148 (by decide) (fun c3 => ?_) (fun c3 => ?_)
      · replace h := uu_neg c3 h
        refine uu_iload_n dX0_answerLine_159 rfl (List.mem_of_getElem? (i := 1) rfl) ?_
        refine uu_iload_n dX0_answerLine_160 rfl (List.mem_of_getElem? (i := 2) rfl) ?_
        refine uu_icmp_le (tgt := 176) dX0_answerLine_161 (by decide) (fun c4 => ?_) (fun c4 => ?_)
        · replace h := uu_pos c4 h
          refine uu_aload_n dX0_answerLine_176 rfl (List.mem_of_getElem? (i := 0) rfl) ?_
          refine uu_iload dX0_answerLine_177 (List.mem_of_getElem? (i := 3) rfl) ?_
          obtain ⟨s5, e6, h⟩ := uu_ob h
          refine uu_cv (d1 := 7) (k := 1042) (ci := 0) (T := TX0) (N := 12) (As := [.int x4]) (st := []) (st' := []) (xc_X0_answerBareWord uk  e6) so_1042.is (by decide) rfl kX0_answerBareWord lX0_138 sX0_answerBareWord (by decide) (Nat.le_of_ble_eq_true rfl) dX0_answerLine_179 rfl ?_
          have hr := Option.some.inj h
          subst hr
          exact uu_vret rfl dX0_answerLine_182
        · replace h := uu_neg c4 h
          refine uu_aload_n dX0_answerLine_164 rfl (List.mem_of_getElem? (i := 0) rfl) ?_
          refine uu_geta (ci := 0) (N := 12) fX0_28 (by decide) so_1042.is (by decide) (c := 1040) (by decide) dX0_answerLine_165 ?_
          obtain ⟨cq7, cp7, cv7, cw7⟩ := uk.2.1 18 _ rfl
          refine uu_ldcS cv7 dX0_answerLine_168 ?_
          obtain ⟨s8, e9, h⟩ := uu_ob h
          refine uu_cv (d1 := 5) (k := 1040) (ci := 5) (T := TX5) (N := 3) (As := [.ref cq7]) (st := []) (st' := []) (xc_X5_line uk so_1040 cw7 e9) so_1040.is (by decide) rfl kX5_line lX0_41 sX5_line (by decide) (Nat.le_of_ble_eq_true rfl) dX0_answerLine_170 rfl ?_
          refine uu_goto (tgt := 182) dX0_answerLine_173 (by decide) ?_
          have hr := Option.some.inj h
          subst hr
          exact uu_vret rfl dX0_answerLine_182
      · replace h := uu_pos c3 h
        refine uu_aload_n dX0_answerLine_151 rfl (List.mem_of_getElem? (i := 0) rfl) ?_
        refine uu_iload_n dX0_answerLine_152 rfl (List.mem_of_getElem? (i := 1) rfl) ?_
        obtain ⟨s10, e11, h⟩ := uu_ob h
        refine uu_cv (d1 := 7) (k := 1042) (ci := 0) (T := TX0) (N := 12) (As := [.int x1]) (st := []) (st' := []) (xc_X0_answerRcpt uk un  e11) so_1042.is (by decide) rfl kX0_answerRcpt lX0_133 sX0_answerRcpt (by decide) (Nat.le_of_ble_eq_true rfl) dX0_answerLine_153 rfl ?_
        refine uu_goto (tgt := 182) dX0_answerLine_156 (by decide) ?_
        have hr := Option.some.inj h
        subst hr
        exact uu_vret rfl dX0_answerLine_182
    · replace h := uu_pos c2 h
      refine uu_aload_n dX0_answerLine_137 rfl (List.mem_of_getElem? (i := 0) rfl) ?_
      refine uu_iload_n dX0_answerLine_138 rfl (List.mem_of_getElem? (i := 1) rfl) ?_
      obtain ⟨s12, e13, h⟩ := uu_ob h
      refine uu_cv (d1 := 7) (k := 1042) (ci := 0) (T := TX0) (N := 12) (As := [.int x1]) (st := []) (st' := []) (xc_X0_answerMail uk un  e13) so_1042.is (by decide) rfl kX0_answerMail lX0_130 sX0_answerMail (by decide) (Nat.le_of_ble_eq_true rfl) dX0_answerLine_139 rfl ?_
      refine uu_goto (tgt := 182) dX0_answerLine_142 (by decide) ?_
      have hr := Option.some.inj h
      subst hr
      exact uu_vret rfl dX0_answerLine_182
  · replace h := uu_pos c1 h
    refine uu_aload_n dX0_answerLine_123 rfl (List.mem_of_getElem? (i := 0) rfl) ?_
    refine uu_iload_n dX0_answerLine_124 rfl (List.mem_of_getElem? (i := 1) rfl) ?_
    obtain ⟨s14, e15, h⟩ := uu_ob h
    refine uu_cv (d1 := 6) (k := 1042) (ci := 0) (T := TX0) (N := 12) (As := [.int x1]) (st := []) (st' := []) (xc_X0_answerLhlo uk un  e15) so_1042.is (by decide) rfl kX0_answerLhlo lX0_127 sX0_answerLhlo (by decide) (Nat.le_of_ble_eq_true rfl) dX0_answerLine_125 rfl ?_
    refine uu_goto (tgt := 182) dX0_answerLine_128 (by decide) ?_
    have hr := Option.some.inj h
    subst hr
    exact uu_vret rfl dX0_answerLine_182
def fb_X0_answerLine_50  (x1 : Int32) (xs0 : Int32) (s : uS) : Option uS := (fn_X9_place kW_15 1052 0 xs0 s).bind fun v2 => if 0 ≤ v2 then (if (s.I 1042 10) = 0 then (if v2 = 1 then (fb_X0_answerLine_106 s) else (if v2 = 2 then (fb_X0_answerLine_106 s) else (if v2 = 3 then (fb_X0_answerLine_106 s) else (fb_X0_answerLine_118 x1 xs0 v2 s)))) else (fb_X0_answerLine_118 x1 xs0 v2 s)) else ((fn_X5_line 1040 kW_16 s).bind fun s10 => some s10)
set_option maxRecDepth 100000 in
set_option maxHeartbeats 4000000 in
theorem xb_X0_answerLine_50 {l : Launch} {D : va_G} {A : Nat → ClassId} {B : Nat} {Z : State → Heap → Prop} {vF : Value} (uk : uK B Z vF) (un : uX A B Z)   {x1 : Int32} {xs0 : Int32} {s : uS} {r : uS}  (h : fb_X0_answerLine_50  x1 xs0 s = some r) : GU l D A B Z mX0_answerLine 8 (r, none) s 50 [(0, .ref (B + 1042)), (1, .int x1)] [.int xs0] := by
  unfold fb_X0_answerLine_50 at h
  refine uu_istore_n dX0_answerLine_50 rfl (by decide) rfl ?_
  obtain ⟨cq1, cp1, cv1, cw1⟩ := uk.2.1 15 _ rfl
  refine uu_ldcS cv1 dX0_answerLine_51 ?_
  refine uu_aload_n dX0_answerLine_53 rfl (List.mem_of_getElem? (i := 1) rfl) ?_
  refine uu_geta (ci := 0) (N := 12) fX0_25 (by decide) so_1042.is (by decide) (c := 1052) (by decide) dX0_answerLine_54 ?_
  refine uu_iconst (v := 0) dX0_answerLine_57 (by decide) ?_
  refine uu_iload_n dX0_answerLine_58 rfl (List.mem_of_getElem? (i := 0) rfl) ?_
  obtain ⟨v2, e3, h⟩ := uu_ob h
  refine uu_cs (d1 := 4) (As := [.ref cq1, .ref (B + 1052), .int 0, .int xs0]) (st := []) (st' := [.int v2]) (xc_X9_place uk cw1 e3) kX9_place lX0_119 sX9_place (by decide) (Nat.le_of_ble_eq_true rfl) dX0_answerLine_59 rfl ?_
  refine uu_istore dX0_answerLine_62 (by decide) rfl ?_
  refine uu_iload dX0_answerLine_64 (List.mem_of_getElem? (i := 0) rfl) ?_
  refine uu_if_ge (tgt := 81) dX0_answerLine_66 (by decide) (fun c4 => ?_) (fun c4 => ?_)
  · replace h := uu_pos c4 h
    refine uu_aload_n dX0_answerLine_81 rfl (List.mem_of_getElem? (i := 2) rfl) ?_
    refine uu_geti (ci := 0) (N := 12) fX0_46 (by decide) so_1042.is (by decide) (by decide) dX0_answerLine_82 ?_
    refine uu_if_ne (tgt := 118) dX0_answerLine_85 (by decide) (fun c5 => ?_) (fun c5 => ?_)
    · replace h := uu_neg c5 h
      refine uu_lv [2, 3, 1, 0] (lv' := [(0, .ref (B + 1042)), (1, .int x1), (3, .int xs0), (4, .int v2)]) rfl ?_
      exact xb_X0_answerLine_118 uk un  h
    · replace h := uu_pos c5 h
      refine uu_iload dX0_answerLine_88 (List.mem_of_getElem? (i := 0) rfl) ?_
      refine uu_iconst (v := 1) dX0_answerLine_90 (by decide) ?_
      refine uu_icmp_eq (tgt := 106) dX0_answerLine_91 (by decide) (fun c6 => ?_) (fun c6 => ?_)
      · replace h := uu_pos c6 h
        refine uu_lv [2] (lv' := [(0, .ref (B + 1042))]) rfl ?_
        exact xb_X0_answerLine_106 uk un  h
      · replace h := uu_neg c6 h
        refine uu_iload dX0_answerLine_94 (List.mem_of_getElem? (i := 0) rfl) ?_
        refine uu_iconst (v := 2) dX0_answerLine_96 (by decide) ?_
        refine uu_icmp_eq (tgt := 106) dX0_answerLine_97 (by decide) (fun c7 => ?_) (fun c7 => ?_)
        · replace h := uu_pos c7 h
          refine uu_lv [2] (lv' := [(0, .ref (B + 1042))]) rfl ?_
          exact xb_X0_answerLine_106 uk un  h
        · replace h := uu_neg c7 h
          refine uu_iload dX0_answerLine_100 (List.mem_of_getElem? (i := 0) rfl) ?_
          refine uu_iconst (v := 3) dX0_answerLine_102 (by decide) ?_
          refine uu_icmp_ne (tgt := 118) dX0_answerLine_103 (by decide) (fun c8 => ?_) (fun c8 => ?_)
          · replace h := uu_neg c8 h
            refine uu_lv [2, 3, 1, 0] (lv' := [(0, .ref (B + 1042)), (1, .int x1), (3, .int xs0), (4, .int v2)]) rfl ?_
            exact xb_X0_answerLine_118 uk un  h
          · replace h := uu_pos c8 h
            refine uu_lv [2] (lv' := [(0, .ref (B + 1042))]) rfl ?_
            exact xb_X0_answerLine_106 uk un  h
  · replace h := uu_neg c4 h
    refine uu_aload_n dX0_answerLine_69 rfl (List.mem_of_getElem? (i := 2) rfl) ?_
    refine uu_geta (ci := 0) (N := 12) fX0_28 (by decide) so_1042.is (by decide) (c := 1040) (by decide) dX0_answerLine_70 ?_
    obtain ⟨cq9, cp9, cv9, cw9⟩ := uk.2.1 16 _ rfl
    refine uu_ldcS cv9 dX0_answerLine_73 ?_
    obtain ⟨s10, e11, h⟩ := uu_ob h
    refine uu_cv (d1 := 5) (k := 1040) (ci := 5) (T := TX5) (N := 3) (As := [.ref cq9]) (st := []) (st' := []) (xc_X5_line uk so_1040 cw9 e11) so_1040.is (by decide) rfl kX5_line lX0_41 sX5_line (by decide) (Nat.le_of_ble_eq_true rfl) dX0_answerLine_75 rfl ?_
    refine uu_goto (tgt := 182) dX0_answerLine_78 (by decide) ?_
    have hr := Option.some.inj h
    subst hr
    exact uu_vret rfl dX0_answerLine_182
def fn_X0_answerLine  (s : uS) : Option uS := if ((s.I 1042 7) - 1) ≤ 500 then ((fn_X9_find 1052 0 ((s.I 1042 7) - 1) 32 (wI s 1042 7 0)).bind fun v2 => if 0 ≤ v2 then (fb_X0_answerLine_50 ((s.I 1042 7) - 1) v2 (wI s 1042 7 0)) else (fb_X0_answerLine_50 ((s.I 1042 7) - 1) ((s.I 1042 7) - 1) (wI s 1042 7 0))) else ((fn_X5_line 1040 kW_14 (wI s 1042 7 0)).bind fun s6 => some s6)
set_option maxRecDepth 100000 in
set_option maxHeartbeats 4000000 in
theorem xc_X0_answerLine {l : Launch} {D : va_G} {A : Nat → ClassId} {B : Nat} {Z : State → Heap → Prop} {vF : Value} (uk : uK B Z vF) (un : uX A B Z)  {s : uS} {r : uS}  (h : fn_X0_answerLine  s = some r) : CU l D A B Z 8 mX0_answerLine s [.ref (B + 1042)] (r, none) := by
  unfold fn_X0_answerLine at h
  refine cu_of rfl uk.1.1 (Nat.le_of_ble_eq_true rfl) ?_
  show GU _ _ _ _ _ _ _ _ _ 0 [(0, .ref (B + 1042))] []
  refine uu_aload_n dX0_answerLine_0 rfl (List.mem_of_getElem? (i := 0) rfl) ?_
  refine uu_geti (ci := 0) (N := 12) fX0_52 (by decide) so_1042.is (by decide) (by decide) dX0_answerLine_1 ?_
  refine uu_iconst (v := 1) dX0_answerLine_4 (by decide) ?_
  refine uu_isub dX0_answerLine_5 ?_
  refine uu_istore_n dX0_answerLine_6 rfl (by decide) rfl ?_
  refine uu_aload_n dX0_answerLine_7 rfl (List.mem_of_getElem? (i := 1) rfl) ?_
  refine uu_iconst (v := 0) dX0_answerLine_8 (by decide) ?_
  refine uu_puti (ft := .int) (ci := 0) (N := 12) fX0_52 ptX0 (Or.inl rfl) (by decide) so_1042.is (by decide) (by decide) (by decide +kernel) rfl rfl dX0_answerLine_9 ?_
  refine uu_iload_n dX0_answerLine_12 rfl (List.mem_of_getElem? (i := 0) rfl) ?_
  refine uu_sipush (v := 500) dX0_answerLine_13 (by decide) ?_
  refine uu_icmp_le (tgt := 29) dX0_answerLine_16 (by decide) (fun c1 => ?_) (fun c1 => ?_)
  · replace h := uu_pos c1 h
    refine uu_aload_n dX0_answerLine_29 rfl (List.mem_of_getElem? (i := 1) rfl) ?_
    refine uu_geta (ci := 0) (N := 12) fX0_25 (by decide) so_1042.is (by decide) (c := 1052) (by decide) dX0_answerLine_30 ?_
    refine uu_iconst (v := 0) dX0_answerLine_33 (by decide) ?_
    refine uu_iload_n dX0_answerLine_34 rfl (List.mem_of_getElem? (i := 0) rfl) ?_
    refine uu_bipush (v := 32) dX0_answerLine_35 (by decide) ?_
    obtain ⟨v2, e3, h⟩ := uu_ob h
    refine uu_cs (d1 := 0) (As := [.ref (B + 1052), .int 0, .int ((s.I 1042 7) - 1), .int 32]) (st := []) (st' := [.int v2]) (xc_X9_find uk  e3) kX9_find lX0_113 sX9_find (by decide) (Nat.le_of_ble_eq_true rfl) dX0_answerLine_37 rfl ?_
    refine uu_istore_n dX0_answerLine_40 rfl (by decide) rfl ?_
    refine uu_iload_n dX0_answerLine_41 rfl (List.mem_of_getElem? (i := 0) rfl) ?_
    refine uu_if_ge (tgt := 49) dX0_answerLine_42 (by decide) (fun c4 => ?_) (fun c4 => ?_)
    · replace h := uu_pos c4 h
      refine uu_iload_n dX0_answerLine_49 rfl (List.mem_of_getElem? (i := 0) rfl) ?_
      refine uu_lv [2, 1] (lv' := [(0, .ref (B + 1042)), (1, .int ((s.I 1042 7) - 1))]) rfl ?_
      exact xb_X0_answerLine_50 uk un  h
    · replace h := uu_neg c4 h
      refine uu_iload_n dX0_answerLine_45 rfl (List.mem_of_getElem? (i := 1) rfl) ?_
      refine uu_goto (tgt := 50) dX0_answerLine_46 (by decide) ?_
      refine uu_lv [2, 1] (lv' := [(0, .ref (B + 1042)), (1, .int ((s.I 1042 7) - 1))]) rfl ?_
      exact xb_X0_answerLine_50 uk un  h
  · replace h := uu_neg c1 h
    refine uu_aload_n dX0_answerLine_19 rfl (List.mem_of_getElem? (i := 1) rfl) ?_
    refine uu_geta (ci := 0) (N := 12) fX0_28 (by decide) so_1042.is (by decide) (c := 1040) (by decide) dX0_answerLine_20 ?_
    obtain ⟨cq5, cp5, cv5, cw5⟩ := uk.2.1 14 _ rfl
    refine uu_ldcS cv5 dX0_answerLine_23 ?_
    obtain ⟨s6, e7, h⟩ := uu_ob h
    refine uu_cv (d1 := 5) (k := 1040) (ci := 5) (T := TX5) (N := 3) (As := [.ref cq5]) (st := []) (st' := []) (xc_X5_line uk so_1040 cw5 e7) so_1040.is (by decide) rfl kX5_line lX0_41 sX5_line (by decide) (Nat.le_of_ble_eq_true rfl) dX0_answerLine_25 rfl ?_
    have hr := Option.some.inj h
    subst hr
    exact uu_vret rfl dX0_answerLine_28
