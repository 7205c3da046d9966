abbrev mX5_put : hM := (yX5_put, cX5_put, 2, none)
theorem dX5_put_0 : decode cX5_put 0 = .ok (.aload_n 0, 1) := by decide +kernel
theorem dX5_put_1 : decode cX5_put 1 = .ok (.getfield 13, 3) := by decide +kernel
theorem dX5_put_4 : decode cX5_put 4 = .ok (.sipush 10000, 3) := by decide +kernel
theorem dX5_put_7 : decode cX5_put 7 = .ok (.if_icmp .ge 33, 3) := by decide +kernel
theorem dX5_put_10 : decode cX5_put 10 = .ok (.aload_n 0, 1) := by decide +kernel
theorem dX5_put_11 : decode cX5_put 11 = .ok (.getfield 9, 3) := by decide +kernel
theorem dX5_put_14 : decode cX5_put 14 = .ok (.aload_n 0, 1) := by decide +kernel
theorem dX5_put_15 : decode cX5_put 15 = .ok (.getfield 17, 3) := by decide +kernel
theorem dX5_put_18 : decode cX5_put 18 = .ok (.aload_n 0, 1) := by decide +kernel
theorem dX5_put_19 : decode cX5_put 19 = .ok (.getfield 13, 3) := by decide +kernel
theorem dX5_put_22 : decode cX5_put 22 = .ok (.iadd, 1) := by decide +kernel
theorem dX5_put_23 : decode cX5_put 23 = .ok (.sipush 10000, 3) := by decide +kernel
theorem dX5_put_26 : decode cX5_put 26 = .ok (.irem, 1) := by decide +kernel
theorem dX5_put_27 : decode cX5_put 27 = .ok (.iload_n 1, 1) := by decide +kernel
theorem dX5_put_28 : decode cX5_put 28 = .ok (.i2b, 1) := by decide +kernel
theorem dX5_put_29 : decode cX5_put 29 = .ok (.bastore, 1) := by decide +kernel
theorem dX5_put_30 : decode cX5_put 30 = .ok (.aload_n 0, 1) := by decide +kernel
theorem dX5_put_31 : decode cX5_put 31 = .ok (.dup, 1) := by decide +kernel
theorem dX5_put_32 : decode cX5_put 32 = .ok (.getfield 13, 3) := by decide +kernel
theorem dX5_put_35 : decode cX5_put 35 = .ok (.iconst 1, 1) := by decide +kernel
theorem dX5_put_36 : decode cX5_put 36 = .ok (.iadd, 1) := by decide +kernel
theorem dX5_put_37 : decode cX5_put 37 = .ok (.putfield 13, 3) := by decide +kernel
theorem dX5_put_40 : decode cX5_put 40 = .ok (.return_, 1) := by decide +kernel
abbrev mX5_text : hM := (yX5_text, cX5_text, 3, none)
theorem dX5_text_0 : decode cX5_text 0 = .ok (.iconst 0, 1) := by decide +kernel
theorem dX5_text_1 : decode cX5_text 1 = .ok (.istore_n 2, 1) := by decide +kernel
theorem dX5_text_2 : decode cX5_text 2 = .ok (.iload_n 2, 1) := by decide +kernel
theorem dX5_text_3 : decode cX5_text 3 = .ok (.aload_n 1, 1) := by decide +kernel
theorem dX5_text_4 : decode cX5_text 4 = .ok (.invokevirtual 20, 3) := by decide +kernel
theorem lX5_20 : Cond.methodLink RX5 20 mJ0_length_8abf5.1 ∈ lw_g := h_t3 164 rfl rfl
theorem dX5_text_7 : decode cX5_text 7 = .ok (.if_icmp .ge 18, 3) := by decide +kernel
theorem dX5_text_10 : decode cX5_text 10 = .ok (.aload_n 0, 1) := by decide +kernel
theorem dX5_text_11 : decode cX5_text 11 = .ok (.aload_n 1, 1) := by decide +kernel
theorem dX5_text_12 : decode cX5_text 12 = .ok (.iload_n 2, 1) := by decide +kernel
theorem dX5_text_13 : decode cX5_text 13 = .ok (.invokevirtual 26, 3) := by decide +kernel
theorem lX5_26 : Cond.methodLink RX5 26 mJ0_charAt_5068e.1 ∈ lw_g := h_t3 165 rfl rfl
theorem dX5_text_16 : decode cX5_text 16 = .ok (.invokevirtual 30, 3) := by decide +kernel
theorem kX5_put : h_ml mX5_put 1 := ⟨h_t3 169 rfl rfl, h_t1 6 rfl rfl, ⟨by decide, by decide, by decide +kernel⟩, by decide⟩
theorem sX5_put : Cond.instanceMethod mX5_put.1 ∈ lw_g ∧ Cond.selects mX5_put.1.cls mX5_put.1 mX5_put.1 ∈ lw_g := ⟨h_t3 167 rfl rfl, h_t3 168 rfl rfl⟩
theorem lX5_30 : Cond.methodLink RX5 30 mX5_put.1 ∈ lw_g := h_t3 166 rfl rfl
theorem dX5_text_19 : decode cX5_text 19 = .ok (.iinc 2 1, 3) := by decide +kernel
theorem dX5_text_22 : decode cX5_text 22 = .ok (.goto (-20), 3) := by decide +kernel
theorem dX5_text_25 : decode cX5_text 25 = .ok (.return_, 1) := by decide +kernel
abbrev mX5_line : hM := (yX5_line, cX5_line, 2, none)
theorem dX5_line_0 : decode cX5_line 0 = .ok (.aload_n 0, 1) := by decide +kernel
theorem dX5_line_1 : decode cX5_line 1 = .ok (.aload_n 1, 1) := by decide +kernel
theorem dX5_line_2 : decode cX5_line 2 = .ok (.invokevirtual 34, 3) := by decide +kernel
theorem kX5_text : h_ml mX5_text 1 := ⟨h_t3 163 rfl rfl, h_t1 6 rfl rfl, ⟨by decide, by decide, by decide +kernel⟩, by decide⟩
theorem sX5_text : Cond.instanceMethod mX5_text.1 ∈ lw_g ∧ Cond.selects mX5_text.1.cls mX5_text.1 mX5_text.1 ∈ lw_g := ⟨h_t3 161 rfl rfl, h_t3 162 rfl rfl⟩
theorem lX5_34 : Cond.methodLink RX5 34 mX5_text.1 ∈ lw_g := h_t3 160 rfl rfl
theorem dX5_line_5 : decode cX5_line 5 = .ok (.aload_n 0, 1) := by decide +kernel
theorem dX5_line_6 : decode cX5_line 6 = .ok (.bipush 13, 2) := by decide +kernel
theorem dX5_line_8 : decode cX5_line 8 = .ok (.invokevirtual 30, 3) := by decide +kernel
theorem dX5_line_11 : decode cX5_line 11 = .ok (.aload_n 0, 1) := by decide +kernel
theorem dX5_line_12 : decode cX5_line 12 = .ok (.bipush 10, 2) := by decide +kernel
theorem dX5_line_14 : decode cX5_line 14 = .ok (.invokevirtual 30, 3) := by decide +kernel
theorem dX5_line_17 : decode cX5_line 17 = .ok (.return_, 1) := by decide +kernel
abbrev mX9_clear : hM := (yX9_clear, cX9_clear, 1, none)
theorem dX9_clear_0 : decode cX9_clear 0 = .ok (.aload_n 0, 1) := by decide +kernel
theorem dX9_clear_1 : decode cX9_clear 1 = .ok (.iconst 0, 1) := by decide +kernel
theorem dX9_clear_2 : decode cX9_clear 2 = .ok (.putfield 20, 3) := by decide +kernel
theorem dX9_clear_5 : decode cX9_clear 5 = .ok (.aload_n 0, 1) := by decide +kernel
theorem dX9_clear_6 : decode cX9_clear 6 = .ok (.iconst 0, 1) := by decide +kernel
theorem dX9_clear_7 : decode cX9_clear 7 = .ok (.putfield 24, 3) := by decide +kernel
theorem dX9_clear_10 : decode cX9_clear 10 = .ok (.aload_n 0, 1) := by decide +kernel
theorem dX9_clear_11 : decode cX9_clear 11 = .ok (.iconst 0, 1) := by decide +kernel
theorem dX9_clear_12 : decode cX9_clear 12 = .ok (.putfield 27, 3) := by decide +kernel
theorem dX9_clear_15 : decode cX9_clear 15 = .ok (.return_, 1) := by decide +kernel
abbrev mX0_close : hM := (yX0_close, cX0_close, 1, none)
theorem dX0_close_0 : decode cX0_close 0 = .ok (.aload_n 0, 1) := by decide +kernel
theorem dX0_close_1 : decode cX0_close 1 = .ok (.iconst 0, 1) := by decide +kernel
theorem dX0_close_2 : decode cX0_close 2 = .ok (.putfield 35, 3) := by decide +kernel
theorem fX0_35 : h_fl RX0 35 0 4 RX0 TX0 12 := ⟨rfl, by decide, inX0, h_t2 177 rfl rfl⟩
theorem dX0_close_5 : decode cX0_close 5 = .ok (.aload_n 0, 1) := by decide +kernel
theorem dX0_close_6 : decode cX0_close 6 = .ok (.iconst 0, 1) := by decide +kernel
theorem dX0_close_7 : decode cX0_close 7 = .ok (.putfield 46, 3) := by decide +kernel
theorem fX0_46 : h_fl RX0 46 0 10 RX0 TX0 12 := ⟨rfl, by decide, inX0, h_t2 184 rfl rfl⟩
theorem dX0_close_10 : decode cX0_close 10 = .ok (.aload_n 0, 1) := by decide +kernel
theorem dX0_close_11 : decode cX0_close 11 = .ok (.iconst 0, 1) := by decide +kernel
theorem dX0_close_12 : decode cX0_close 12 = .ok (.putfield 49, 3) := by decide +kernel
theorem fX0_49 : h_fl RX0 49 0 9 RX0 TX0 12 := ⟨rfl, by decide, inX0, h_t2 183 rfl rfl⟩
theorem dX0_close_15 : decode cX0_close 15 = .ok (.aload_n 0, 1) := by decide +kernel
theorem dX0_close_16 : decode cX0_close 16 = .ok (.iconst 0, 1) := by decide +kernel
theorem dX0_close_17 : decode cX0_close 17 = .ok (.putfield 52, 3) := by decide +kernel
theorem fX0_52 : h_fl RX0 52 0 7 RX0 TX0 12 := ⟨rfl, by decide, inX0, h_t2 181 rfl rfl⟩
theorem dX0_close_20 : decode cX0_close 20 = .ok (.aload_n 0, 1) := by decide +kernel
theorem dX0_close_21 : decode cX0_close 21 = .ok (.iconst 0, 1) := by decide +kernel
theorem dX0_close_22 : decode cX0_close 22 = .ok (.putfield 56, 3) := by decide +kernel
theorem fX0_56 : h_fl RX0 56 0 8 RX0 TX0 12 := ⟨rfl, by decide, inX0, h_t2 182 rfl rfl⟩
theorem dX0_close_25 : decode cX0_close 25 = .ok (.aload_n 0, 1) := by decide +kernel
theorem dX0_close_26 : decode cX0_close 26 = .ok (.getfield 12, 3) := by decide +kernel
theorem dX0_close_29 : decode cX0_close 29 = .ok (.invokevirtual 59, 3) := by decide +kernel
theorem kX9_clear : h_ml mX9_clear 0 := ⟨h_t3 154 rfl rfl, h_t1 4 rfl rfl, ⟨by decide, by decide, by decide +kernel⟩, by decide⟩
theorem sX9_clear : Cond.instanceMethod mX9_clear.1 ∈ lw_g ∧ Cond.selects mX9_clear.1.cls mX9_clear.1 mX9_clear.1 ∈ lw_g := ⟨h_t3 152 rfl rfl, h_t3 153 rfl rfl⟩
theorem lX0_59 : Cond.methodLink RX0 59 mX9_clear.1 ∈ lw_g := h_t3 151 rfl rfl
theorem dX0_close_32 : decode cX0_close 32 = .ok (.aload_n 0, 1) := by decide +kernel
theorem dX0_close_33 : decode cX0_close 33 = .ok (.getfield 18, 3) := by decide +kernel
theorem dX0_close_36 : decode cX0_close 36 = .ok (.invokevirtual 59, 3) := by decide +kernel
theorem dX0_close_39 : decode cX0_close 39 = .ok (.return_, 1) := by decide +kernel
set_option maxRecDepth 100000 in
set_option maxHeartbeats 4000000 in
/-- Queue.put: a byte more waits, if there is room -/
theorem ct_Q_put {l : Launch} {D : va_G} {A : Nat → ClassId} {B : Nat} {Z : State → Heap → Prop} (hZ : h_st B Z) {d : Nat} {σ : hS} {a row : Nat} {xs : List Int32} {b : Int32} (hq : qAt A σ a row xs) : Ct l D (h_ty A) B Z d mX5_put σ [.ref a, .int b] (fun σ1 v => v = none ∧ qAt A σ1 a row (q_add xs b) ∧ h_fr (fun q => q = a ∨ q = row) σ σ1) := by
  have hne := q_ne hq
  obtain ⟨fi, f, h1, h2, ha, hr, hf⟩ := id hq
  refine ct_of rfl hZ (Nat.le_of_ble_eq_true rfl) ?_
  show G _ _ _ _ _ _ _ _ _ _ 0 [(0, .ref a), (1, .int b)] []
  refine g_aload_n dX5_put_0 rfl (List.mem_of_getElem? (i := 0) rfl) ?_
  refine g_get fX5_13 ha (v := .int (nI xs.length)) rfl dX5_put_1 ?_
  refine g_sipush (v := 10000) dX5_put_4 (by decide) ?_
  refine g_icmp_ge (tgt := 40) dX5_put_7 (by decide) (fun c7 => ?_) (fun c7 => ?_)
  · have c7 : 10000 ≤ xs.length := (nI_leI (by decide) (by omega)).mp c7
    exact g_vret rfl dX5_put_40 (⟨rfl, by unfold q_add; rw [if_neg (by omega)]; exact hq, h_fr.rf⟩)
  · have c7 : ¬ 10000 ≤ xs.length := fun h => c7 ((nI_leI (by decide) (by omega)).mpr h)
    refine g_aload_n dX5_put_10 rfl (List.mem_of_getElem? (i := 0) rfl) ?_
    refine g_get fX5_9 ha (v := .ref row) rfl dX5_put_11 ?_
    refine g_aload_n dX5_put_14 rfl (List.mem_of_getElem? (i := 0) rfl) ?_
    refine g_get fX5_17 ha (v := .int (nI fi)) rfl dX5_put_15 ?_
    refine g_aload_n dX5_put_18 rfl (List.mem_of_getElem? (i := 0) rfl) ?_
    refine g_get fX5_13 ha (v := .int (nI xs.length)) rfl dX5_put_19 ?_
    refine g_iadd dX5_put_22 ?_
    refine g_sipush (v := 10000) dX5_put_23 (by decide) ?_
    refine g_irem dX5_put_26 (by decide) ?_
    refine g_eqi (nI ((fi + xs.length) % 10000)) (by rw [nI_add]; exact pk_rem (by omega) (by decide) (by decide)) ?_
    refine g_iload_n dX5_put_27 rfl (List.mem_of_getElem? (i := 1) rfl) ?_
    refine g_i2b dX5_put_28 rfl ?_
    refine g_bast (t0 := 1) rfl hr (vp_in_nI (Nat.mod_lt _ (by decide)) (by decide)) dX5_put_29 ?_
    refine g_aload_n dX5_put_30 rfl (List.mem_of_getElem? (i := 0) rfl) ?_
    refine g_dup dX5_put_31 rfl ?_
    refine g_get fX5_13 (h_n hne ha) (v := .int (nI xs.length)) rfl dX5_put_32 ?_
    refine g_iconst (v := 1) dX5_put_35 (by decide) ?_
    refine g_iadd dX5_put_36 ?_
    refine g_put (ft := .int) fX5_13 ptX5 (Or.inl rfl) (h_n hne ha) (by decide +kernel) rfl rfl (Nat.le_of_ble_eq_true rfl) dX5_put_37 ?_
    exact g_vret rfl dX5_put_40 (⟨rfl, q_add_ok h1 (by omega) hf h_e (h_n (Ne.symm hne) h_e), ⟨fun q hq => h_n (fun h => hq (Or.inl h)) (h_n (fun h => hq (Or.inr h)) rfl), rfl⟩⟩)
def q_adds (xs : List Int32) (bs : List Nat) : List Int32 := bs.foldl (fun x b => q_add x (nI b)) xs
def CRLF : List Nat := [13, 10]
set_option maxRecDepth 100000 in
set_option maxHeartbeats 4000000 in
theorem ct_Q_text_loop {l : Launch} {D : va_G} {A : Nat → ClassId} {B : Nat} {Z : State → Heap → Prop} {vF : Value} (hs : zs B Z vF) {d : Nat} (hd1 : 4 ≤ d) {σ : hS} {s w a row : Nat} {bs : List Nat} (x0 : List Int32) (hq : sC B Z s w bs) (hbl : bs.length < 2 ^ 31) (hb : ∀ b ∈ bs, b < 128) :
  ∀ (n k : Nat) (τ : hS) (x : List Int32), bs.length + 1 ≤ k + n → k ≤ bs.length → x = q_adds x0 (bs.take k) → qAt A τ a row x → h_fr (fun q => q = a ∨ q = row) σ τ →
    G l D (h_ty A) B Z mX5_text d σ (fun σ1 v => v = none ∧ qAt A σ1 a row (q_adds x0 bs) ∧ h_fr (fun q => q = a ∨ q = row) σ σ1) τ 2 [(0, .ref a), (1, .ref s), (2, .int (nI k))] [] := by
  intro n
  induction n with
  | zero => intro k τ x h1 h2; omega
  | succ n ih =>
    intro k τ x h1 h2 hx h hfr
    refine g_iload_n dX5_text_2 rfl (List.mem_of_getElem? (i := 2) rfl) ?_
    refine g_aload_n dX5_text_3 rfl (List.mem_of_getElem? (i := 1) rfl) ?_
    refine g_cv (d1 := 1) (As := []) (st := [.int (nI k)]) (ct_len hs hq (by omega)) hq.rc kJ0_length_8abf5 lX5_20 sJ0_length_8abf5 (by omega) (Nat.le_of_ble_eq_true rfl) dX5_text_4 (fun τ4 v4 h4 z4 => ?_)
    obtain ⟨rfl, rfl⟩ := h4
    show G _ _ _ _ _ _ _ _ _ _ 7 [(0, .ref a), (1, .ref s), (2, .int (nI k))] [.int (nI bs.length), .int (nI k)]
    refine g_icmp_ge (tgt := 25) dX5_text_7 (by decide) (fun c7 => ?_) (fun c7 => ?_)
    · have c7 : bs.length ≤ k := (nI_leI (by omega) (by omega)).mp c7
      exact g_vret rfl dX5_text_25 (⟨rfl, by rw [List.take_of_length_le c7] at hx; rw [← hx]; exact h, hfr⟩)
    · have hk : k < bs.length := Nat.lt_of_not_le fun x => c7 ((nI_leI (by omega) (by omega)).mpr x)
      obtain ⟨fs, hob⟩ := q_ob h
      refine g_aload_n dX5_text_10 rfl (List.mem_of_getElem? (i := 0) rfl) ?_
      refine g_aload_n dX5_text_11 rfl (List.mem_of_getElem? (i := 1) rfl) ?_
      refine g_iload_n dX5_text_12 rfl (List.mem_of_getElem? (i := 2) rfl) ?_
      refine g_cv (d1 := 3) (As := [.int (nI k)]) (st := [.ref a]) (ct_charAt hs hq (k := k) hk hbl hb (by omega)) hq.rc kJ0_charAt_5068e lX5_26 sJ0_charAt_5068e (by omega) (Nat.le_of_ble_eq_true rfl) dX5_text_13 (fun τ13 v13 h13 z13 => ?_)
      obtain ⟨rfl, rfl⟩ := h13
      show G _ _ _ _ _ _ _ _ _ _ 16 [(0, .ref a), (1, .ref s), (2, .int (nI k))] [.int (nI (bs.getD k 0)), .ref a]
      refine g_cv (d1 := 0) (As := [.int (nI (bs.getD k 0))]) (st := []) (ct_Q_put hs.1 h) (h_rcO (r := (RX5, TX5, 3)) hob rfl) kX5_put lX5_30 sX5_put (by omega) (Nat.le_of_ble_eq_true rfl) dX5_text_16 (fun τ16 v16 h16 z16 => ?_)
      obtain ⟨rfl, h, hfr16⟩ := h16
      show G _ _ _ _ _ _ _ _ _ _ 19 [(0, .ref a), (1, .ref s), (2, .int (nI k))] []
      refine g_iinc (v := nI (k + 1)) dX5_text_19 (k := 2) rfl (nI_1 k) (by decide) rfl ?_
      refine g_goto (tgt := 2) dX5_text_22 (by decide) ?_
      exact ih (k + 1) _ _ (by omega) (by omega) (by rw [List.take_succ_eq_append_getElem hk]; unfold q_adds at hx ⊢; rw [List.foldl_append, ← hx]; simp only [List.foldl_cons, List.foldl_nil, List.getD_eq_getElem?_getD, List.getElem?_eq_getElem hk, Option.getD_some]) h (hfr.tr hfr16) |> g_lv [1, 2, 0] rfl
set_option maxRecDepth 100000 in
set_option maxHeartbeats 4000000 in
/-- Queue.text -/
theorem ct_Q_text {l : Launch} {D : va_G} {A : Nat → ClassId} {B : Nat} {Z : State → Heap → Prop} {vF : Value} (hs : zs B Z vF) {d : Nat} {σ : hS} (hd1 : 4 ≤ d) {s w : Nat} {bs : List Nat} (hq : sC B Z s w bs) (hbl : bs.length < 2 ^ 31) (hb : ∀ b ∈ bs, b < 128) {a row : Nat} {xs : List Int32} (h : qAt A σ a row xs) : Ct l D (h_ty A) B Z d mX5_text σ [.ref a, .ref s] (fun σ1 v => v = none ∧ qAt A σ1 a row (q_adds xs bs) ∧ h_fr (fun q => q = a ∨ q = row) σ σ1) := by
  refine ct_of rfl hs.1 (Nat.le_of_ble_eq_true rfl) ?_
  show G _ _ _ _ _ _ _ _ _ _ 0 [(0, .ref a), (1, .ref s)] []
  refine g_iconst (v := 0) dX5_text_0 (by decide) ?_
  refine g_istore_n dX5_text_1 rfl (by decide) rfl ?_
  exact ct_Q_text_loop hs hd1 xs hq hbl hb (bs.length + 1) 0 σ xs (by omega) (by omega) rfl h h_fr.rf |> g_lv [1, 2, 0] rfl
set_option maxRecDepth 100000 in
set_option maxHeartbeats 4000000 in
/-- Queue.line -/
theorem ct_Q_line {l : Launch} {D : va_G} {A : Nat → ClassId} {B : Nat} {Z : State → Heap → Prop} {vF : Value} (hs : zs B Z vF) {d : Nat} {σ : hS} (hd1 : 5 ≤ d) {s w : Nat} {bs : List Nat} (hq : sC B Z s w bs) (hbl : bs.length < 2 ^ 31) (hb : ∀ b ∈ bs, b < 128) {a row : Nat} {xs : List Int32} (h : qAt A σ a row xs) : Ct l D (h_ty A) B Z d mX5_line σ [.ref a, .ref s] (fun σ1 v => v = none ∧ qAt A σ1 a row (q_adds xs (bs ++ CRLF)) ∧ h_fr (fun q => q = a ∨ q = row) σ σ1) := by
  obtain ⟨fs, hob⟩ := q_ob h
  refine ct_of rfl hs.1 (Nat.le_of_ble_eq_true rfl) ?_
  show G _ _ _ _ _ _ _ _ _ _ 0 [(0, .ref a), (1, .ref s)] []
  refine g_aload_n dX5_line_0 rfl (List.mem_of_getElem? (i := 0) rfl) ?_
  refine g_aload_n dX5_line_1 rfl (List.mem_of_getElem? (i := 1) rfl) ?_
  refine g_cv (d1 := 4) (As := [.ref s]) (st := []) (ct_Q_text hs (by omega) hq hbl hb h) (h_rcO (r := (RX5, TX5, 3)) hob rfl) kX5_text lX5_34 sX5_text (by omega) (Nat.le_of_ble_eq_true rfl) dX5_line_2 (fun τ2 v2 h2 z2 => ?_)
  obtain ⟨rfl, h, hf2⟩ := h2
  obtain ⟨fs, hob⟩ := q_ob h
  show G _ _ _ _ _ _ _ _ _ _ 5 [(0, .ref a), (1, .ref s)] []
  refine g_aload_n dX5_line_5 rfl (List.mem_of_getElem? (i := 0) rfl) ?_
  refine g_bipush (v := 13) dX5_line_6 (by decide) ?_
  refine g_cv (d1 := 0) (As := [.int 13]) (st := []) (ct_Q_put hs.1 h) (h_rcO (r := (RX5, TX5, 3)) hob rfl) kX5_put lX5_30 sX5_put (by omega) (Nat.le_of_ble_eq_true rfl) dX5_line_8 (fun τ8 v8 h8 z8 => ?_)
  obtain ⟨rfl, h, hf8⟩ := h8
  obtain ⟨fs, hob⟩ := q_ob h
  show G _ _ _ _ _ _ _ _ _ _ 11 [(0, .ref a), (1, .ref s)] []
  refine g_aload_n dX5_line_11 rfl (List.mem_of_getElem? (i := 0) rfl) ?_
  refine g_bipush (v := 10) dX5_line_12 (by decide) ?_
  refine g_cv (d1 := 0) (As := [.int 10]) (st := []) (ct_Q_put hs.1 h) (h_rcO (r := (RX5, TX5, 3)) hob rfl) kX5_put lX5_30 sX5_put (by omega) (Nat.le_of_ble_eq_true rfl) dX5_line_14 (fun τ14 v14 h14 z14 => ?_)
  obtain ⟨rfl, h, hf14⟩ := h14
  obtain ⟨fs, hob⟩ := q_ob h
  show G _ _ _ _ _ _ _ _ _ _ 17 [(0, .ref a), (1, .ref s)] []
  exact g_vret rfl dX5_line_17 (⟨rfl, by unfold q_adds at h ⊢; rw [List.foldl_append]; exact h, hf2.tr (hf8.tr hf14)⟩)
set_option maxRecDepth 100000 in
set_option maxHeartbeats 4000000 in
/-- Texts.clear -/
theorem ct_T_clear {l : Launch} {D : va_G} {A : Nat → ClassId} {B : Nat} {Z : State → Heap → Prop} (hZ : h_st B Z) {d : Nat} {σ : hS} {a r fr to_ cap mo : Nat} {g p q : Nat → Int32} {sz be us : Nat} (h : txA A σ a r fr to_ cap mo g p q sz be us) : Ct l D (h_ty A) B Z d mX9_clear σ [.ref a] (fun σ1 v => v = none ∧ txA A σ1 a r fr to_ cap mo g p q 0 0 0 ∧ h_fr (fun q => q = a) σ σ1) := by
  have hn := h.ne
  obtain ⟨ha, hr, hfr, hto, hx, hcap, hmo, hus, hsz, hbe⟩ := id h
  refine ct_of rfl hZ (Nat.le_of_ble_eq_true rfl) ?_
  show G _ _ _ _ _ _ _ _ _ _ 0 [(0, .ref a)] []
  refine g_aload_n dX9_clear_0 rfl (List.mem_of_getElem? (i := 0) rfl) ?_
  refine g_iconst (v := 0) dX9_clear_1 (by decide) ?_
  refine g_put (ft := .int) fX9_20 ptX9 (Or.inl rfl) ha (by decide +kernel) rfl rfl (Nat.le_of_ble_eq_true rfl) dX9_clear_2 ?_
  refine g_aload_n dX9_clear_5 rfl (List.mem_of_getElem? (i := 0) rfl) ?_
  refine g_iconst (v := 0) dX9_clear_6 (by decide) ?_
  refine g_put (ft := .int) fX9_24 ptX9 (Or.inl rfl) h_e (by decide +kernel) rfl rfl (Nat.le_of_ble_eq_true rfl) dX9_clear_7 ?_
  refine g_aload_n dX9_clear_10 rfl (List.mem_of_getElem? (i := 0) rfl) ?_
  refine g_iconst (v := 0) dX9_clear_11 (by decide) ?_
  refine g_put (ft := .int) fX9_27 ptX9 (Or.inl rfl) h_e (by decide +kernel) rfl rfl (Nat.le_of_ble_eq_true rfl) dX9_clear_12 ?_
  exact g_vret rfl dX9_clear_15 (⟨rfl, ⟨h_e, h_n (Ne.symm hn.1) (h_n (Ne.symm hn.1) (h_n (Ne.symm hn.1) hr)), h_n (Ne.symm hn.2.1) (h_n (Ne.symm hn.2.1) (h_n (Ne.symm hn.2.1) hfr)), h_n (Ne.symm hn.2.2) (h_n (Ne.symm hn.2.2) (h_n (Ne.symm hn.2.2) hto)), hx, hcap, hmo, Nat.zero_le _, Nat.zero_le _, Nat.le_refl _⟩, ⟨fun q hq => h_n hq (h_n hq (h_n hq rfl)), rfl⟩⟩)
set_option maxRecDepth 100000 in
set_option maxHeartbeats 4000000 in
/-- Delivery.close -/
theorem ct_D_close {l : Launch} {D : va_G} {A : Nat → ClassId} {B : Nat} {Z : State → Heap → Prop} (hZ : h_st B Z) {d : Nat} {σ : hS} {n0 : Nat} {txs io lz ste acr gre big : Int32} (hdl : σ.1 (n0 + 1041) = some (dlO n0 txs io lz ste acr gre big)) {sp sq : Nat → Int32} {sg rg : Nat → Int32} {rp rq : Nat → Int32} {ssz sbe sus rsz rbe rus : Nat} (hse : txA A σ (n0 + 1042) (n0 + 1043) (n0 + 1044) (n0 + 1045) 101 1 sg sp sq ssz sbe sus) (hre : txA A σ (n0 + 1046) (n0 + 1047) (n0 + 1048) (n0 + 1049) 404 4 rg rp rq rsz rbe rus) (hd1 : 1 ≤ d) : Ct l D (h_ty A) B Z d mX0_close σ [.ref (n0 + 1041)] (fun σ1 v => v = none ∧ σ1.1 (n0 + 1041) = some (dlO n0 txs 0 0 0 0 0 big) ∧ txA A σ1 (n0 + 1042) (n0 + 1043) (n0 + 1044) (n0 + 1045) 101 1 sg sp sq 0 0 0 ∧ txA A σ1 (n0 + 1046) (n0 + 1047) (n0 + 1048) (n0 + 1049) 404 4 rg rp rq 0 0 0 ∧ h_fr (fun q => q = n0 + 1041 ∨ q = n0 + 1042 ∨ q = n0 + 1046) σ σ1) := by
  refine ct_of rfl hZ (Nat.le_of_ble_eq_true rfl) ?_
  show G _ _ _ _ _ _ _ _ _ _ 0 [(0, .ref (n0 + 1041))] []
  refine g_aload_n dX0_close_0 rfl (List.mem_of_getElem? (i := 0) rfl) ?_
  refine g_iconst (v := 0) dX0_close_1 (by decide) ?_
  refine g_put (ft := .boolean) fX0_35 ptX0 (Or.inl rfl) hdl (by decide +kernel) rfl rfl (Nat.le_of_ble_eq_true rfl) dX0_close_2 ?_
  refine g_aload_n dX0_close_5 rfl (List.mem_of_getElem? (i := 0) rfl) ?_
  refine g_iconst (v := 0) dX0_close_6 (by decide) ?_
  refine g_put (ft := .boolean) fX0_46 ptX0 (Or.inl rfl) h_e (by decide +kernel) rfl rfl (Nat.le_of_ble_eq_true rfl) dX0_close_7 ?_
  refine g_aload_n dX0_close_10 rfl (List.mem_of_getElem? (i := 0) rfl) ?_
  refine g_iconst (v := 0) dX0_close_11 (by decide) ?_
  refine g_put (ft := .boolean) fX0_49 ptX0 (Or.inl rfl) h_e (by decide +kernel) rfl rfl (Nat.le_of_ble_eq_true rfl) dX0_close_12 ?_
  refine g_aload_n dX0_close_15 rfl (List.mem_of_getElem? (i := 0) rfl) ?_
  refine g_iconst (v := 0) dX0_close_16 (by decide) ?_
  refine g_put (ft := .int) fX0_52 ptX0 (Or.inl rfl) h_e (by decide +kernel) rfl rfl (Nat.le_of_ble_eq_true rfl) dX0_close_17 ?_
  refine g_aload_n dX0_close_20 rfl (List.mem_of_getElem? (i := 0) rfl) ?_
  refine g_iconst (v := 0) dX0_close_21 (by decide) ?_
  refine g_put (ft := .int) fX0_56 ptX0 (Or.inl rfl) h_e (by decide +kernel) rfl rfl (Nat.le_of_ble_eq_true rfl) dX0_close_22 ?_
  refine g_aload_n dX0_close_25 rfl (List.mem_of_getElem? (i := 0) rfl) ?_
  refine g_get fX0_12 h_e (v := .ref (n0 + 1042)) rfl dX0_close_26 ?_
  refine g_cv (d1 := 0) (As := []) (st := []) (ct_T_clear hZ (hse.fr (F := fun q => q = n0 + 1041) ⟨fun q hq => h_n hq (h_n hq (h_n hq (h_n hq (h_n hq rfl)))), rfl⟩ (h_ad (n := n0) (i := 1042) (j := 1041) (by decide)) (h_ad (n := n0) (i := 1043) (j := 1041) (by decide)) (h_ad (n := n0) (i := 1044) (j := 1041) (by decide)) (h_ad (n := n0) (i := 1045) (j := 1041) (by decide)))) (h_rcO (r := (RX9, TX9, 6)) (h_n (h_ad (n := n0) (i := 1042) (j := 1041) (by decide)) (h_n (h_ad (n := n0) (i := 1042) (j := 1041) (by decide)) (h_n (h_ad (n := n0) (i := 1042) (j := 1041) (by decide)) (h_n (h_ad (n := n0) (i := 1042) (j := 1041) (by decide)) (h_n (h_ad (n := n0) (i := 1042) (j := 1041) (by decide)) hse.1))))) rfl) kX9_clear lX0_59 sX9_clear (by omega) (Nat.le_of_ble_eq_true rfl) dX0_close_29 (fun τ29 v29 h29 z29 => ?_)
  obtain ⟨rfl, hse2, hfa⟩ := h29
  have hfr0 : h_fr (fun q => q = n0 + 1041 ∨ q = n0 + 1042) σ τ29 := h_fr.tr (σ1 := _) ⟨fun q hq => h_n (fun h => hq (Or.inl h)) (h_n (fun h => hq (Or.inl h)) (h_n (fun h => hq (Or.inl h)) (h_n (fun h => hq (Or.inl h)) (h_n (fun h => hq (Or.inl h)) rfl)))), rfl⟩ ⟨fun q hq => hfa.1 q (fun h => hq (Or.inr h)), hfa.2⟩
  show G _ _ _ _ _ _ _ _ _ _ 32 [(0, .ref (n0 + 1041))] []
  refine g_aload_n dX0_close_32 rfl (List.mem_of_getElem? (i := 0) rfl) ?_
  refine g_get fX0_18 ((hfa.1 _ (h_ad (n := n0) (i := 1041) (j := 1042) (by decide))).trans h_e) (v := .ref (n0 + 1046)) rfl dX0_close_33 ?_
  refine g_cv (d1 := 0) (As := []) (st := []) (ct_T_clear hZ (hre.fr hfr0 (fun h => h.elim (h_ad (n := n0) (i := 1046) (j := 1041) (by decide)) (h_ad (n := n0) (i := 1046) (j := 1042) (by decide))) (fun h => h.elim (h_ad (n := n0) (i := 1047) (j := 1041) (by decide)) (h_ad (n := n0) (i := 1047) (j := 1042) (by decide))) (fun h => h.elim (h_ad (n := n0) (i := 1048) (j := 1041) (by decide)) (h_ad (n := n0) (i := 1048) (j := 1042) (by decide))) (fun h => h.elim (h_ad (n := n0) (i := 1049) (j := 1041) (by decide)) (h_ad (n := n0) (i := 1049) (j := 1042) (by decide))))) (h_rcO (r := (RX9, TX9, 6)) ((hfr0.1 _ (fun h => h.elim (h_ad (n := n0) (i := 1046) (j := 1041) (by decide)) (h_ad (n := n0) (i := 1046) (j := 1042) (by decide)))).trans hre.1) rfl) kX9_clear lX0_59 sX9_clear (by omega) (Nat.le_of_ble_eq_true rfl) dX0_close_36 (fun τ36 v36 h36 z36 => ?_)
  obtain ⟨rfl, hre2, hfb⟩ := h36
  show G _ _ _ _ _ _ _ _ _ _ 39 [(0, .ref (n0 + 1041))] []
  exact g_vret rfl dX0_close_39 (⟨rfl, ((hfb.1 _ (h_ad (n := n0) (i := 1041) (j := 1046) (by decide))).trans ((hfa.1 _ (h_ad (n := n0) (i := 1041) (j := 1042) (by decide))).trans h_e)), hse2.fr hfb (h_ad (n := n0) (i := 1042) (j := 1046) (by decide)) (h_ad (n := n0) (i := 1043) (j := 1046) (by decide)) (h_ad (n := n0) (i := 1044) (j := 1046) (by decide)) (h_ad (n := n0) (i := 1045) (j := 1046) (by decide)), hre2, h_fr.tr (σ1 := _) ⟨fun q hq => hfr0.1 q (fun h => hq (h.elim Or.inl (fun h => Or.inr (Or.inl h)))), hfr0.2⟩ ⟨fun q hq => hfb.1 q (fun h => hq (Or.inr (Or.inr h))), hfb.2⟩⟩)
