/-- the array classes: ints, bytes, booleans, longs; Queue, ScriptSession, User, Entry, Node -/
def h_ty (A : Nat → ClassId) : List (ClassId × FieldType) := [(A 0, .int), (A 1, .byte), (A 2, .boolean), (A 3, .long), (A 4, .object RX5), (A 5, .object RX8), (A 6, .object RX10), (A 7, .object RX1), (A 8, .object RX3)]
theorem h_e {σ : hS} {a : Nat} {e : va_E} : (h_set σ a e).1 a = some e := if_pos rfl
theorem h_n {σ : hS} {a b : Nat} {e : va_E} {r : Option va_E} (h : b ≠ a) (hb : σ.1 b = r) : (h_set σ a e).1 b = r := (if_neg h).trans hb
theorem h_ne {σ : hS} {e : va_E} {k : Nat} : (h_new σ e k).1 σ.2.1 = some e := if_pos rfl
theorem h_nn {σ : hS} {b k : Nat} {e : va_E} {r : Option va_E} (h : b ≠ σ.2.1) (hb : σ.1 b = r) : (h_new σ e k).1 b = r := (if_neg h).trans hb
theorem h_nk {σ : hS} {a b : Nat} {x y : va_E} (ha : σ.1 a = some x) (hb : σ.1 b = some y) (h : x ≠ y) : a ≠ b := fun e => h (by subst e; exact Option.some.inj (ha.symm.trans hb))
theorem h_oa {x : Nat × List Value} {y : ClassId × vp_A} : (Sum.inr x : va_E) ≠ Sum.inl y := fun h => by cases h
theorem h_ao {x : Nat × List Value} {y : ClassId × vp_A} : (Sum.inl y : va_E) ≠ Sum.inr x := fun h => by cases h
theorem h_oo {i j : Nat} {x y : List Value} (h : i ≠ j) : (Sum.inr (i, x) : va_E) ≠ Sum.inr (j, y) := fun e => by cases e; exact h rfl
theorem h_eS {σ τ : hS} {a : Nat} {x : va_E} (e : τ = h_set σ a x) : τ.1 a = some x := by rw [e]; exact h_e
theorem h_nS {σ τ : hS} {a b : Nat} {x : va_E} {r : Option va_E} (e : τ = h_set σ a x) (h : b ≠ a) (hb : σ.1 b = r) : τ.1 b = r := by rw [e]; exact h_n h hb
theorem h_eN {σ τ : hS} {q k : Nat} {x : va_E} (e : τ = h_new σ x k) (hq : σ.2.1 = q) : τ.1 q = some x := by rw [e, ← hq]; exact h_ne
theorem h_nN {σ τ : hS} {q b k : Nat} {x : va_E} {r : Option va_E} (e : τ = h_new σ x k) (hq : σ.2.1 = q) (h : b ≠ q) (hb : σ.1 b = r) : τ.1 b = r := by rw [e]; exact h_nn (by rw [hq]; exact h) hb
/-- a constructor's work: k cells of s slots more; of the old ones only a is another -/
def cgr (σ σ1 : hS) (a k s : Nat) : Prop := σ1.2.1 = σ.2.1 + k ∧ σ1.2.2 = σ.2.2 + s ∧ ∀ q : Nat, q ≠ a → q < σ.2.1 → σ1.1 q = σ.1 q
theorem hv_byte {cA : ClassId} {N : Nat} : vp_cell cA (N, .inl (fun _ => 0)) = arrV cA N (fun _ => defaultValue .byte) := rfl
theorem hv_int {cA : ClassId} {N : Nat} : vp_cell cA (N, .inl (fun _ => 0)) = arrV cA N (fun _ => defaultValue .int) := rfl
theorem hv_boolean {cA : ClassId} {N : Nat} : vp_cell cA (N, .inl (fun _ => 0)) = arrV cA N (fun _ => defaultValue .boolean) := rfl
theorem hv_long {cA : ClassId} {N : Nat} : vp_cell cA (N, .inr (.inl (fun _ => 0))) = arrV cA N (fun _ => defaultValue .long) := rfl
theorem hv_0 {n : Nat} (h : n < 2 ^ 31) : ¬ nI n < 0 := nI_pos h
theorem h_ad {n i j : Nat} (h : i ≠ j) : n + i ≠ n + j := fun e => h (Nat.add_left_cancel e)
theorem h_al {x n j : Nat} (h : x < n) : x ≠ n + j := Nat.ne_of_lt (Nat.lt_of_lt_of_le h (Nat.le_add_right n j))
theorem h_ar {x n j : Nat} (h : x < n) : n + j ≠ x := (h_al h).symm
theorem h_lk {n i m k : Nat} (z : k = n + m) (h : i < m) : n + i < k := by rw [z]; exact Nat.add_lt_add_left h n
theorem h_lo {x n m k : Nat} (z : k = n + m) (h : x < n) : x < k := by rw [z]; exact Nat.lt_of_lt_of_le h (Nat.le_add_right n m)
theorem h_r1 {k n m K B : Nat} (z : k = n + m) (r : n + K ≤ B + 600000) (h : m + 1 ≤ K) : k + 1 ≤ B + h_CN := by rw [z]; show n + m + 1 ≤ B + 600000; omega
theorem h_r2 {k s m K N : Nat} (y : k = s + m) (r : s + K ≤ 7302250) (h : m + N ≤ K) : k + N ≤ h_CK := by rw [y]; show s + m + N ≤ 7302250; omega
theorem h_r3 {n m K j B : Nat} (r : n + K ≤ B + 600000) (h : m + j ≤ K) : (n + m) + j ≤ B + 600000 := by omega
theorem h_r4 {s m K j : Nat} (r : s + K ≤ 7302250) (h : m + j ≤ K) : (s + m) + j ≤ 7302250 := by omega
theorem h_z1 {σ τ : hS} {x : va_E} {n k N : Nat} (e : τ = h_new σ x N) (z : σ.2.1 = n + k) : τ.2.1 = n + (k + 1) := by rw [e]; show σ.2.1 + 1 = _; rw [z]; rfl
theorem h_y1 {σ τ : hS} {x : va_E} {n k N : Nat} (e : τ = h_new σ x N) (y : σ.2.2 = n + k) : τ.2.2 = n + (k + N) := by rw [e]; show σ.2.2 + N = _; rw [y]; exact Nat.add_assoc n k N
theorem h_z2 {σ τ : hS} {x : va_E} {a r : Nat} (e : τ = h_set σ a x) (z : σ.2.1 = r) : τ.2.1 = r := by rw [e]; exact z
theorem h_y2 {σ τ : hS} {x : va_E} {a r : Nat} (e : τ = h_set σ a x) (y : σ.2.2 = r) : τ.2.2 = r := by rw [e]; exact y
theorem h_z3 {a b n k j : Nat} (h : b = a + j) (z : a = n + k) : b = n + (k + j) := by rw [h, z]; exact Nat.add_assoc n k j
theorem h_lq {a b c : Nat} (h : a < b) (e : b = c) : a < c := e ▸ h
section HL
variable {l : Launch} {D : va_G} {ty : List (ClassId × FieldType)} {B : Nat} {Z : State → Heap → Prop} {M : hM} {d : Nat} {σ0 σ : hS} {P : hS → Option Value → Prop} {pc : Nat} {lv : List (Nat × Value)} {st : List Value}
theorem g_eqi {x : Int32} (y : Int32) (h : x = y) (k : G l D ty B Z M d σ0 P σ pc lv (.int y :: st)) : G l D ty B Z M d σ0 P σ pc lv (.int x :: st) := h ▸ k
theorem g_eql {x : Int64} (y : Int64) (h : x = y) (k : G l D ty B Z M d σ0 P σ pc lv (.long y :: st)) : G l D ty B Z M d σ0 P σ pc lv (.long x :: st) := h ▸ k
theorem g_eqv {x : Value} (y : Value) (h : x = y) (k : G l D ty B Z M d σ0 P σ pc lv (y :: st)) : G l D ty B Z M d σ0 P σ pc lv (x :: st) := h ▸ k
theorem g_eqs {σ1 : hS} (h : σ = σ1) (k : G l D ty B Z M d σ0 P σ1 pc lv st) : G l D ty B Z M d σ0 P σ pc lv st := h ▸ k
/-- the bounds that every state of a run keeps -/
theorem g_bd (k : B ≤ σ.2.1 → σ.2.1 ≤ B + h_CN → σ.2.2 ≤ h_CK → (∀ a e, σ.1 a = some e → a < σ.2.1) → G l D ty B Z M d σ0 P σ pc lv st) : G l D ty B Z M d σ0 P σ pc lv st := fun p e s m args below meth c C9 H locs ls hR hS h3 hl9 => k hR.2.2.2.2.1 hR.2.2.2.2.2.1 hR.2.2.2.2.2.2.1 (fun a e h => by have h1 := (hR.2.2.2.2.2.2.2 a e h).2.lt; rw [hR.2.2.1] at h1; exact h1) p e s m args below meth c C9 H locs ls hR hS h3 hl9
end HL
section HZ
variable {l : Launch} {D : va_G} {ty : List (ClassId × FieldType)} {B : Nat} {Z : State → Heap → Prop} {M : hM} {d : Nat} {σ0 σ : hS} {P : hS → Option Value → Prop} {pc : Nat} {lv : List (Nat × Value)} {st : List Value}
theorem g_gen (k : ∀ τ : hS, τ = σ → G l D ty B Z M d σ0 P τ pc lv st) : G l D ty B Z M d σ0 P σ pc lv st := k σ rfl
/-- a static -/
theorem g_gets {ix : Nat} {C n de : String} {v : Value} (hz : ∀ (U : State) (H : Heap), Z U H → va_Z C n de v (fun q : Nat => B ≤ q) U H) (hl : Cond.fieldLink M.1.cls ix C n de ∈ lw_g) (hd : decode M.2.1 pc = .ok (.getstatic ix, 3)) (k9 : G l D ty B Z M d σ0 P σ (pc + 3) lv (v :: st)) : G l D ty B Z M d σ0 P σ pc lv st :=
  fun p e s m args below meth c C9 H locs ls hR hS h3 hl9 => va_gets C9.1 C9.2.1 (hz s s.heap C9.2.2.2.2.2.2.2.2.2.2.1) hS C9.2.2.2.2.1 (C9.2.2.2.2.2.1 _ hl) (fun _ h => h) hd (k9 p e s m args below meth c C9 H locs ls hR hS h3 hl9)
/-- a constant object's field -/
theorem g_getk {ix q : Nat} {C n de : String} {v : Value} (hz : ∀ (U : State) (H : Heap), Z U H → va_OF C n de v q (fun q : Nat => B ≤ q) U H) (hl : Cond.fieldLink M.1.cls ix C n de ∈ lw_g) (hd : decode M.2.1 pc = .ok (.getfield ix, 3)) (k9 : G l D ty B Z M d σ0 P σ (pc + 3) lv (v :: st)) : G l D ty B Z M d σ0 P σ pc lv (.ref q :: st) :=
  fun p e s m args below meth c C9 H locs ls hR hS h3 hl9 => vk_getf C9.1 C9.2.1 (hz s s.heap C9.2.2.2.2.2.2.2.2.2.2.1) hS C9.2.2.2.2.1 (C9.2.2.2.2.2.1 _ hl) (fun _ h => h) hd (k9 p e s m args below meth c C9 H locs ls hR hS h3 hl9)
/-- a constant array -/
theorem g_tlen {q N : Nat} {et : FieldType} {f : Nat → Value} (hz : ∀ (U : State) (H : Heap), Z U H → va_T et q N f (fun q : Nat => B ≤ q) U H) (hd : decode M.2.1 pc = .ok (.arraylength, 1)) (k9 : G l D ty B Z M d σ0 P σ (pc + 1) lv (.int (nI N) :: st)) : G l D ty B Z M d σ0 P σ pc lv (.ref q :: st) :=
  fun p e s m args below meth c C9 H locs ls hR hS h3 hl9 => va_tlen C9.1 C9.2.1 (hz s s.heap C9.2.2.2.2.2.2.2.2.2.2.1) hS rfl hd (k9 p e s m args below meth c C9 H locs ls hR hS h3 hl9)
theorem g_tb {q N : Nat} {f : Nat → Value} {i : Int32} {v : Value} (hz : ∀ (U : State) (H : Heap), Z U H → va_T .byte q N f (fun q : Nat => B ≤ q) U H) (hin : vp_in i N) (hv : f i.toNatClampNeg = v) (hd : decode M.2.1 pc = .ok (.baload, 1)) (k9 : G l D ty B Z M d σ0 P σ (pc + 1) lv (v :: st)) : G l D ty B Z M d σ0 P σ pc lv (.int i :: .ref q :: st) :=
  fun p e s m args below meth c C9 H locs ls hR hS h3 hl9 => va_tb C9.1 C9.2.1 (hz s s.heap C9.2.2.2.2.2.2.2.2.2.2.1) hS hin hv hd (k9 p e s m args below meth c C9 H locs ls hR hS h3 hl9)
theorem g_ti {q N : Nat} {f : Nat → Value} {i : Int32} {v : Value} (hz : ∀ (U : State) (H : Heap), Z U H → va_T .int q N f (fun q : Nat => B ≤ q) U H) (hin : vp_in i N) (hv : f i.toNatClampNeg = v) (hd : decode M.2.1 pc = .ok (.iaload, 1)) (k9 : G l D ty B Z M d σ0 P σ (pc + 1) lv (v :: st)) : G l D ty B Z M d σ0 P σ pc lv (.int i :: .ref q :: st) :=
  fun p e s m args below meth c C9 H locs ls hR hS h3 hl9 => va_ti C9.1 C9.2.1 (hz s s.heap C9.2.2.2.2.2.2.2.2.2.2.1) hS hin hv hd (k9 p e s m args below meth c C9 H locs ls hR hS h3 hl9)
end HZ
/-- what the JDK's text methods need of the statics -/
def zs (B : Nat) (Z : State → Heap → Prop) (vF : Value) : Prop := h_st B Z ∧ (∀ (U : State) (H : Heap), Z U H → va_Z "java/lang/String" "COMPACT_STRINGS" "Z" (.int 1) (fun q : Nat => B ≤ q) U H) ∧ (∀ (U : State) (H : Heap), Z U H → va_Z "jdk/internal/util/Preconditions" "SIOOBE_FORMATTER" "Ljava/util/function/BiFunction;" vF (fun q : Nat => B ≤ q) U H) ∧ (vF = .null ∨ ∃ r, vF = .ref r)
/-- a String constant at q, its bytes bs in the array w -/
def sC (B : Nat) (Z : State → Heap → Prop) (q w : Nat) (bs : List Nat) : Prop := ∀ (U : State) (H : Heap), Z U H → va_O "java/lang/String" q (fun q : Nat => B ≤ q) U H ∧ va_OF "java/lang/String" "coder" "B" (.int 0) q (fun q : Nat => B ≤ q) U H ∧ va_OF "java/lang/String" "value" "[B" (.ref w) q (fun q : Nat => B ≤ q) U H ∧ va_T .byte w bs.length (fun j => .int (nI (bs.getD j 0))) (fun q : Nat => B ≤ q) U H
section HT
variable {l : Launch} {D : va_G} {ty : List (ClassId × FieldType)} {B : Nat} {Z : State → Heap → Prop} {d : Nat} {σ : hS} {vF : Value}
theorem sC.rc {q w : Nat} {bs : List Nat} (h : sC B Z q w bs) : h_rc D ty B Z σ "java/lang/String" q := fun s H hR => by
  obtain ⟨cell, h1, h2, h3, -⟩ := (h s H hR.2.1).1
  exact ⟨cell, h1, h2, h3⟩
theorem ct_coder (hs : zs B Z vF) {q w : Nat} {bs : List Nat} (h : sC B Z q w bs) : Ct l D ty B Z d mJ0_coder_7d493 σ [.ref q] (fun σ1 v => σ1 = σ ∧ v = some (.int 0)) := by
  refine ct_of rfl hs.1 (Nat.le_of_ble_eq_true rfl) ?_
  show G _ _ _ _ _ _ _ _ _ _ 0 [(0, .ref q)] []
  refine g_gets hs.2.1 fJ0_COMPACT_STRINGS dJ0_coder_7d493_0 ?_
  refine g_if_eq (tgt := 13) dJ0_coder_7d493_3 (by decide) (fun c => absurd c (by decide)) (fun _ => ?_)
  refine g_aload_n dJ0_coder_7d493_6 rfl (List.mem_of_getElem? (i := 0) rfl) ?_
  refine g_getk (fun U H hz => (h U H hz).2.1) fJ0_coder dJ0_coder_7d493_7 ?_
  refine g_goto (tgt := 14) dJ0_coder_7d493_10 (by decide) ?_
  exact g_zret rfl rfl dJ0_coder_7d493_14 ⟨rfl, rfl⟩
theorem ct_isLatin1 (hs : zs B Z vF) {q w : Nat} {bs : List Nat} (h : sC B Z q w bs) : Ct l D ty B Z d mJ0_isLatin1_aae02 σ [.ref q] (fun σ1 v => σ1 = σ ∧ v = some (.int 1)) := by
  refine ct_of rfl hs.1 (Nat.le_of_ble_eq_true rfl) ?_
  show G _ _ _ _ _ _ _ _ _ _ 0 [(0, .ref q)] []
  refine g_gets hs.2.1 fJ0_COMPACT_STRINGS dJ0_isLatin1_aae02_0 ?_
  refine g_if_eq (tgt := 17) dJ0_isLatin1_aae02_3 (by decide) (fun c => absurd c (by decide)) (fun _ => ?_)
  refine g_aload_n dJ0_isLatin1_aae02_6 rfl (List.mem_of_getElem? (i := 0) rfl) ?_
  refine g_getk (fun U H hz => (h U H hz).2.1) fJ0_coder dJ0_isLatin1_aae02_7 ?_
  refine g_if_ne (tgt := 17) dJ0_isLatin1_aae02_10 (by decide) (fun c => absurd rfl c) (fun _ => ?_)
  refine g_iconst (v := 1) dJ0_isLatin1_aae02_13 (by decide) ?_
  refine g_goto (tgt := 18) dJ0_isLatin1_aae02_14 (by decide) ?_
  exact g_zret rfl rfl dJ0_isLatin1_aae02_18 ⟨rfl, rfl⟩
/-- length() of a constant -/
theorem ct_len (hs : zs B Z vF) {q w : Nat} {bs : List Nat} (h : sC B Z q w bs) (hd1 : 1 ≤ d) : Ct l D ty B Z d mJ0_length_8abf5 σ [.ref q] (fun σ1 v => σ1 = σ ∧ v = some (.int (nI bs.length))) := by
  refine ct_of rfl hs.1 (Nat.le_of_ble_eq_true rfl) ?_
  show G _ _ _ _ _ _ _ _ _ _ 0 [(0, .ref q)] []
  refine g_aload_n dJ0_length_8abf5_0 rfl (List.mem_of_getElem? (i := 0) rfl) ?_
  refine g_getk (fun U H hz => (h U H hz).2.2.1) fJ0_value dJ0_length_8abf5_1 ?_
  refine g_tlen (fun U H hz => (h U H hz).2.2.2) dJ0_length_8abf5_4 ?_
  refine g_aload_n dJ0_length_8abf5_5 rfl (List.mem_of_getElem? (i := 0) rfl) ?_
  refine g_cv (d1 := 0) (As := []) (st := [.int (nI bs.length)]) (ct_coder hs h) h.rc kJ0_coder_7d493 lJ0_coder sJ0_coder_7d493 (by omega) (Nat.le_of_ble_eq_true rfl) dJ0_length_8abf5_6 (fun σ1 v h1 _ => ?_)
  obtain ⟨rfl, rfl⟩ := h1
  show G _ _ _ _ _ _ _ _ _ _ 9 _ [.int 0, .int (nI bs.length)]
  refine g_ishr dJ0_length_8abf5_9 ?_
  exact g_iret rfl dJ0_length_8abf5_10 ⟨rfl, by rw [sb_shr0]⟩
theorem ct_cki (hs : zs B Z vF) {i n : Int32} (h0 : ¬ i < 0) (h1 : i < n) : Ct l D ty B Z d mJ3_checkIndex_8e157 σ [.int i, .int n, vF] (fun σ1 v => σ1 = σ ∧ v = some (.int i)) := by
  have hv : (vF : Value).category = 1 := by rcases hs.2.2.2 with h | ⟨r, h⟩ <;> rw [h] <;> rfl
  rcases hs.2.2.2 with h | ⟨r, h⟩
  · subst h
    refine ct_of rfl hs.1 (Nat.le_of_ble_eq_true rfl) ?_
    show G _ _ _ _ _ _ _ _ _ _ 0 [(0, .int i), (1, .int n), (2, .null)] []
    refine g_iload_n dJ3_checkIndex_8e157_0 rfl (List.mem_of_getElem? (i := 0) rfl) ?_
    refine g_if_lt (tgt := 9) dJ3_checkIndex_8e157_1 (by decide) (fun c => absurd c h0) (fun _ => ?_)
    refine g_iload_n dJ3_checkIndex_8e157_4 rfl (List.mem_of_getElem? (i := 0) rfl) ?_
    refine g_iload_n dJ3_checkIndex_8e157_5 rfl (List.mem_of_getElem? (i := 1) rfl) ?_
    refine g_icmp_lt (tgt := 16) dJ3_checkIndex_8e157_6 (by decide) (fun _ => ?_) (fun c => absurd h1 c)
    refine g_iload_n dJ3_checkIndex_8e157_16 rfl (List.mem_of_getElem? (i := 0) rfl) ?_
    exact g_iret rfl dJ3_checkIndex_8e157_17 ⟨rfl, rfl⟩
  · subst h
    refine ct_of rfl hs.1 (Nat.le_of_ble_eq_true rfl) ?_
    show G _ _ _ _ _ _ _ _ _ _ 0 [(0, .int i), (1, .int n), (2, .ref r)] []
    refine g_iload_n dJ3_checkIndex_8e157_0 rfl (List.mem_of_getElem? (i := 0) rfl) ?_
    refine g_if_lt (tgt := 9) dJ3_checkIndex_8e157_1 (by decide) (fun c => absurd c h0) (fun _ => ?_)
    refine g_iload_n dJ3_checkIndex_8e157_4 rfl (List.mem_of_getElem? (i := 0) rfl) ?_
    refine g_iload_n dJ3_checkIndex_8e157_5 rfl (List.mem_of_getElem? (i := 1) rfl) ?_
    refine g_icmp_lt (tgt := 16) dJ3_checkIndex_8e157_6 (by decide) (fun _ => ?_) (fun c => absurd h1 c)
    refine g_iload_n dJ3_checkIndex_8e157_16 rfl (List.mem_of_getElem? (i := 0) rfl) ?_
    exact g_iret rfl dJ3_checkIndex_8e157_17 ⟨rfl, rfl⟩
theorem ct_ckS (hs : zs B Z vF) {i n : Int32} (h0 : ¬ i < 0) (h1 : i < n) (hd1 : 1 ≤ d) : Ct l D ty B Z d mJ0_checkIndex_df160 σ [.int i, .int n] (fun σ1 v => σ1 = σ ∧ v = none) := by
  refine ct_of rfl hs.1 (Nat.le_of_ble_eq_true rfl) ?_
  show G _ _ _ _ _ _ _ _ _ _ 0 [(0, .int i), (1, .int n)] []
  refine g_iload_n dJ0_checkIndex_df160_0 rfl (List.mem_of_getElem? (i := 0) rfl) ?_
  refine g_iload_n dJ0_checkIndex_df160_1 rfl (List.mem_of_getElem? (i := 1) rfl) ?_
  refine g_gets hs.2.2.1 fJ0_SIOOBE_FORMATTER dJ0_checkIndex_df160_2 ?_
  refine g_cs (d1 := 0) (As := [.int i, .int n, vF]) (st := []) (ct_cki hs h0 h1) kJ3_checkIndex_8e157 lJ0_checkIndex sJ3_checkIndex_8e157 (by omega) (Nat.le_of_ble_eq_true rfl) dJ0_checkIndex_df160_5 (fun σ1 v h1 _ => ?_)
  obtain ⟨rfl, rfl⟩ := h1
  show G _ _ _ _ _ _ _ _ _ _ 8 _ [.int i]
  refine g_pop dJ0_checkIndex_df160_8 rfl ?_
  exact g_vret rfl dJ0_checkIndex_df160_9 ⟨rfl, rfl⟩
theorem sc_ch {b : Nat} (h : b < 128) : ((nI b &&& 255).toUInt32 % 65536).toInt32 = nI b := by
  have : ∀ b, b < 128 → ((nI b &&& 255).toUInt32 % 65536).toInt32 = nI b := by decide +kernel
  exact this b h
theorem ct_cAL (hs : zs B Z vF) {q w k : Nat} {bs : List Nat} (h : sC B Z q w bs) (hk : k < bs.length) (hl : bs.length < 2 ^ 31) (hb : ∀ b ∈ bs, b < 128) (hd1 : 2 ≤ d) : Ct l D ty B Z d mJ1_charAt_3b067 σ [.ref w, .int (nI k)] (fun σ1 v => σ1 = σ ∧ v = some (.int (nI (bs.getD k 0)))) := by
  have hbk : bs.getD k 0 < 128 := hb _ (by rw [List.getD_eq_getElem?_getD, List.getElem?_eq_getElem hk]; exact List.getElem_mem hk)
  refine ct_of rfl hs.1 (Nat.le_of_ble_eq_true rfl) ?_
  show G _ _ _ _ _ _ _ _ _ _ 0 [(0, .ref w), (1, .int (nI k))] []
  refine g_iload_n dJ1_charAt_3b067_0 rfl (List.mem_of_getElem? (i := 1) rfl) ?_
  refine g_aload_n dJ1_charAt_3b067_1 rfl (List.mem_of_getElem? (i := 0) rfl) ?_
  refine g_tlen (fun U H hz => (h U H hz).2.2.2) dJ1_charAt_3b067_2 ?_
  refine g_cs (d1 := 1) (As := [.int (nI k), .int (nI bs.length)]) (st := []) (ct_ckS hs (nI_pos (by omega)) (nI_lt hk hl) (by omega)) kJ0_checkIndex_df160 lJ1_checkIndex sJ0_checkIndex_df160 (by omega) (Nat.le_of_ble_eq_true rfl) dJ1_charAt_3b067_3 (fun σ1 v h1 _ => ?_)
  obtain ⟨rfl, rfl⟩ := h1
  show G _ _ _ _ _ _ _ _ _ _ 6 _ []
  refine g_aload_n dJ1_charAt_3b067_6 rfl (List.mem_of_getElem? (i := 0) rfl) ?_
  refine g_iload_n dJ1_charAt_3b067_7 rfl (List.mem_of_getElem? (i := 1) rfl) ?_
  refine g_tb (v := .int (nI (bs.getD k 0))) (fun U H hz => (h U H hz).2.2.2) (vp_in_nI hk hl) (by rw [nI_clamp (by omega)]) dJ1_charAt_3b067_8 ?_
  refine g_sipush (v := 255) dJ1_charAt_3b067_9 (by decide) ?_
  refine g_iand dJ1_charAt_3b067_12 ?_
  refine g_i2c dJ1_charAt_3b067_13 rfl ?_
  refine g_eqi (nI (bs.getD k 0)) (sc_ch hbk) ?_
  exact g_zret rfl (pk_charN (by omega)).1 dJ1_charAt_3b067_14 ⟨rfl, rfl⟩
/-- charAt(k) of a constant -/
theorem ct_charAt (hs : zs B Z vF) {q w k : Nat} {bs : List Nat} (h : sC B Z q w bs) (hk : k < bs.length) (hl : bs.length < 2 ^ 31) (hb : ∀ b ∈ bs, b < 128) (hd1 : 3 ≤ d) : Ct l D ty B Z d mJ0_charAt_5068e σ [.ref q, .int (nI k)] (fun σ1 v => σ1 = σ ∧ v = some (.int (nI (bs.getD k 0)))) := by
  have hbk : bs.getD k 0 < 128 := hb _ (by rw [List.getD_eq_getElem?_getD, List.getElem?_eq_getElem hk]; exact List.getElem_mem hk)
  refine ct_of rfl hs.1 (Nat.le_of_ble_eq_true rfl) ?_
  show G _ _ _ _ _ _ _ _ _ _ 0 [(0, .ref q), (1, .int (nI k))] []
  refine g_aload_n dJ0_charAt_5068e_0 rfl (List.mem_of_getElem? (i := 0) rfl) ?_
  refine g_cv (d1 := 0) (As := []) (st := []) (ct_isLatin1 hs h) h.rc kJ0_isLatin1_aae02 lJ0_isLatin1 sJ0_isLatin1_aae02 (by omega) (Nat.le_of_ble_eq_true rfl) dJ0_charAt_5068e_1 (fun σ1 v h1 _ => ?_)
  obtain ⟨rfl, rfl⟩ := h1
  show G _ _ _ _ _ _ _ _ _ _ 4 _ [.int 1]
  refine g_if_eq (tgt := 16) dJ0_charAt_5068e_4 (by decide) (fun c => absurd c (by decide)) (fun _ => ?_)
  refine g_aload_n dJ0_charAt_5068e_7 rfl (List.mem_of_getElem? (i := 0) rfl) ?_
  refine g_getk (fun U H hz => (h U H hz).2.2.1) fJ0_value dJ0_charAt_5068e_8 ?_
  refine g_iload_n dJ0_charAt_5068e_11 rfl (List.mem_of_getElem? (i := 1) rfl) ?_
  refine g_cs (d1 := 2) (As := [.ref w, .int (nI k)]) (st := []) (ct_cAL hs h hk hl hb (by omega)) kJ1_charAt_3b067 lJ0_charAtL sJ1_charAt_3b067 (by omega) (Nat.le_of_ble_eq_true rfl) dJ0_charAt_5068e_12 (fun σ1 v h1 _ => ?_)
  obtain ⟨rfl, rfl⟩ := h1
  show G _ _ _ _ _ _ _ _ _ _ 15 _ [.int (nI (bs.getD k 0))]
  exact g_zret rfl (pk_charN (by omega)).1 dJ0_charAt_5068e_15 ⟨rfl, rfl⟩
end HT
