abbrev mX9_put : hM := (yX9_put, cX9_put, 2, none)
theorem dX9_put_0 : decode cX9_put 0 = .ok (.aload_n 0, 1) := by decide +kernel
theorem dX9_put_1 : decode cX9_put 1 = .ok (.getfield 27, 3) := by decide +kernel
theorem fX9_27 : h_fl RX9 27 9 5 RX9 TX9 6 := ⟨rfl, by decide, inX9, h_t1 91 rfl rfl⟩
theorem dX9_put_4 : decode cX9_put 4 = .ok (.aload_n 0, 1) := by decide +kernel
theorem dX9_put_5 : decode cX9_put 5 = .ok (.getfield 9, 3) := by decide +kernel
theorem fX9_9 : h_fl RX9 9 9 0 RX9 TX9 6 := ⟨rfl, by decide, inX9, h_t1 56 rfl rfl⟩
theorem dX9_put_8 : decode cX9_put 8 = .ok (.arraylength, 1) := by decide +kernel
theorem dX9_put_9 : decode cX9_put 9 = .ok (.if_icmp .ge 24, 3) := by decide +kernel
theorem dX9_put_12 : decode cX9_put 12 = .ok (.aload_n 0, 1) := by decide +kernel
theorem dX9_put_13 : decode cX9_put 13 = .ok (.getfield 9, 3) := by decide +kernel
theorem dX9_put_16 : decode cX9_put 16 = .ok (.aload_n 0, 1) := by decide +kernel
theorem dX9_put_17 : decode cX9_put 17 = .ok (.getfield 27, 3) := by decide +kernel
theorem dX9_put_20 : decode cX9_put 20 = .ok (.iload_n 1, 1) := by decide +kernel
theorem dX9_put_21 : decode cX9_put 21 = .ok (.i2b, 1) := by decide +kernel
theorem dX9_put_22 : decode cX9_put 22 = .ok (.bastore, 1) := by decide +kernel
theorem dX9_put_23 : decode cX9_put 23 = .ok (.aload_n 0, 1) := by decide +kernel
theorem dX9_put_24 : decode cX9_put 24 = .ok (.dup, 1) := by decide +kernel
theorem dX9_put_25 : decode cX9_put 25 = .ok (.getfield 27, 3) := by decide +kernel
theorem dX9_put_28 : decode cX9_put 28 = .ok (.iconst 1, 1) := by decide +kernel
theorem dX9_put_29 : decode cX9_put 29 = .ok (.iadd, 1) := by decide +kernel
theorem dX9_put_30 : decode cX9_put 30 = .ok (.putfield 27, 3) := by decide +kernel
theorem dX9_put_33 : decode cX9_put 33 = .ok (.return_, 1) := by decide +kernel
abbrev mX9_close : hM := (yX9_close, cX9_close, 1, none)
theorem dX9_close_0 : decode cX9_close 0 = .ok (.aload_n 0, 1) := by decide +kernel
theorem dX9_close_1 : decode cX9_close 1 = .ok (.getfield 20, 3) := by decide +kernel
theorem fX9_20 : h_fl RX9 20 9 3 RX9 TX9 6 := ⟨rfl, by decide, inX9, h_t1 80 rfl rfl⟩
theorem dX9_close_4 : decode cX9_close 4 = .ok (.aload_n 0, 1) := by decide +kernel
theorem dX9_close_5 : decode cX9_close 5 = .ok (.getfield 13, 3) := by decide +kernel
theorem fX9_13 : h_fl RX9 13 9 1 RX9 TX9 6 := ⟨rfl, by decide, inX9, h_t1 64 rfl rfl⟩
theorem dX9_close_8 : decode cX9_close 8 = .ok (.arraylength, 1) := by decide +kernel
theorem dX9_close_9 : decode cX9_close 9 = .ok (.if_icmp .ge 39, 3) := by decide +kernel
theorem dX9_close_12 : decode cX9_close 12 = .ok (.aload_n 0, 1) := by decide +kernel
theorem dX9_close_13 : decode cX9_close 13 = .ok (.getfield 13, 3) := by decide +kernel
theorem dX9_close_16 : decode cX9_close 16 = .ok (.aload_n 0, 1) := by decide +kernel
theorem dX9_close_17 : decode cX9_close 17 = .ok (.getfield 20, 3) := by decide +kernel
theorem dX9_close_20 : decode cX9_close 20 = .ok (.aload_n 0, 1) := by decide +kernel
theorem dX9_close_21 : decode cX9_close 21 = .ok (.getfield 24, 3) := by decide +kernel
theorem fX9_24 : h_fl RX9 24 9 4 RX9 TX9 6 := ⟨rfl, by decide, inX9, h_t1 87 rfl rfl⟩
theorem dX9_close_24 : decode cX9_close 24 = .ok (.iastore, 1) := by decide +kernel
theorem dX9_close_25 : decode cX9_close 25 = .ok (.aload_n 0, 1) := by decide +kernel
theorem dX9_close_26 : decode cX9_close 26 = .ok (.getfield 17, 3) := by decide +kernel
theorem fX9_17 : h_fl RX9 17 9 2 RX9 TX9 6 := ⟨rfl, by decide, inX9, h_t1 72 rfl rfl⟩
theorem dX9_close_29 : decode cX9_close 29 = .ok (.aload_n 0, 1) := by decide +kernel
theorem dX9_close_30 : decode cX9_close 30 = .ok (.getfield 20, 3) := by decide +kernel
theorem dX9_close_33 : decode cX9_close 33 = .ok (.aload_n 0, 1) := by decide +kernel
theorem dX9_close_34 : decode cX9_close 34 = .ok (.getfield 27, 3) := by decide +kernel
theorem dX9_close_37 : decode cX9_close 37 = .ok (.iastore, 1) := by decide +kernel
theorem dX9_close_38 : decode cX9_close 38 = .ok (.aload_n 0, 1) := by decide +kernel
theorem dX9_close_39 : decode cX9_close 39 = .ok (.dup, 1) := by decide +kernel
theorem dX9_close_40 : decode cX9_close 40 = .ok (.getfield 20, 3) := by decide +kernel
theorem dX9_close_43 : decode cX9_close 43 = .ok (.iconst 1, 1) := by decide +kernel
theorem dX9_close_44 : decode cX9_close 44 = .ok (.iadd, 1) := by decide +kernel
theorem dX9_close_45 : decode cX9_close 45 = .ok (.putfield 20, 3) := by decide +kernel
theorem dX9_close_48 : decode cX9_close 48 = .ok (.aload_n 0, 1) := by decide +kernel
theorem dX9_close_49 : decode cX9_close 49 = .ok (.aload_n 0, 1) := by decide +kernel
theorem dX9_close_50 : decode cX9_close 50 = .ok (.getfield 27, 3) := by decide +kernel
theorem dX9_close_53 : decode cX9_close 53 = .ok (.putfield 24, 3) := by decide +kernel
theorem dX9_close_56 : decode cX9_close 56 = .ok (.return_, 1) := by decide +kernel
abbrev mX9_putText : hM := (yX9_putText, cX9_putText, 3, none)
theorem dX9_putText_0 : decode cX9_putText 0 = .ok (.iconst 0, 1) := by decide +kernel
theorem dX9_putText_1 : decode cX9_putText 1 = .ok (.istore_n 2, 1) := by decide +kernel
theorem dX9_putText_2 : decode cX9_putText 2 = .ok (.iload_n 2, 1) := by decide +kernel
theorem dX9_putText_3 : decode cX9_putText 3 = .ok (.aload_n 1, 1) := by decide +kernel
theorem dX9_putText_4 : decode cX9_putText 4 = .ok (.invokevirtual 30, 3) := by decide +kernel
theorem lX9_30 : Cond.methodLink RX9 30 mJ0_length_8abf5.1 ∈ lw_g := h_t2 76 rfl rfl
theorem dX9_putText_7 : decode cX9_putText 7 = .ok (.if_icmp .ge 18, 3) := by decide +kernel
theorem dX9_putText_10 : decode cX9_putText 10 = .ok (.aload_n 0, 1) := by decide +kernel
theorem dX9_putText_11 : decode cX9_putText 11 = .ok (.aload_n 1, 1) := by decide +kernel
theorem dX9_putText_12 : decode cX9_putText 12 = .ok (.iload_n 2, 1) := by decide +kernel
theorem dX9_putText_13 : decode cX9_putText 13 = .ok (.invokevirtual 36, 3) := by decide +kernel
theorem lX9_36 : Cond.methodLink RX9 36 mJ0_charAt_5068e.1 ∈ lw_g := h_t2 86 rfl rfl
theorem dX9_putText_16 : decode cX9_putText 16 = .ok (.invokevirtual 40, 3) := by decide +kernel
theorem kX9_put : h_ml mX9_put 1 := ⟨h_t2 127 rfl rfl, h_t1 4 rfl rfl, ⟨by decide, by decide, by decide +kernel⟩, by decide⟩
theorem sX9_put : Cond.instanceMethod mX9_put.1 ∈ lw_g ∧ Cond.selects mX9_put.1.cls mX9_put.1 mX9_put.1 ∈ lw_g := ⟨h_t2 125 rfl rfl, h_t2 126 rfl rfl⟩
theorem lX9_40 : Cond.methodLink RX9 40 mX9_put.1 ∈ lw_g := h_t2 124 rfl rfl
theorem dX9_putText_19 : decode cX9_putText 19 = .ok (.iinc 2 1, 3) := by decide +kernel
theorem dX9_putText_22 : decode cX9_putText 22 = .ok (.goto (-20), 3) := by decide +kernel
theorem dX9_putText_25 : decode cX9_putText 25 = .ok (.return_, 1) := by decide +kernel
/-- nothing is made, and no cell is changed but those of F -/
def h_fr (F : Nat → Prop) (σ σ1 : hS) : Prop := (∀ q : Nat, ¬ F q → σ1.1 q = σ.1 q) ∧ σ1.2 = σ.2
theorem h_fr.rf {F : Nat → Prop} {σ : hS} : h_fr F σ σ := ⟨fun _ _ => rfl, rfl⟩
theorem h_fr.tr {F : Nat → Prop} {σ σ1 σ2 : hS} (h : h_fr F σ σ1) (h' : h_fr F σ1 σ2) : h_fr F σ σ2 := ⟨fun q hq => (h'.1 q hq).trans (h.1 q hq), h'.2.trans h.2⟩
/-- a queue of answers: its bytes that wait -/
def qAt (A : Nat → ClassId) (σ : hS) (a row : Nat) (xs : List Int32) : Prop := ∃ (fi : Nat) (f : Nat → Int32), fi < 10000 ∧ xs.length ≤ 10000 ∧ σ.1 a = some (.inr (5, [.ref row, .int (nI fi), .int (nI xs.length)])) ∧ σ.1 row = some (.inl (A 1, 10000, .inl f)) ∧ ∀ j : Nat, j < xs.length → f ((fi + j) % 10000) = xs.getD j 0
def q_add (xs : List Int32) (b : Int32) : List Int32 := if xs.length < 10000 then xs ++ [b.toInt8.toInt32] else xs
theorem q_add_ok {A : Nat → ClassId} {σ1 : hS} {a row fi : Nat} {xs : List Int32} {f : Nat → Int32} {b : Int32} (h1 : fi < 10000) (hc : xs.length < 10000) (hf : ∀ j : Nat, j < xs.length → f ((fi + j) % 10000) = xs.getD j 0) (e1 : σ1.1 a = some (.inr (5, [.ref row, .int (nI fi), .int (nI xs.length + 1)]))) (e2 : σ1.1 row = some (.inl (A 1, 10000, .inl (upd f (nI ((fi + xs.length) % 10000)).toNatClampNeg (vp_nar .byte b.toInt8.toInt32))))) : qAt A σ1 a row (q_add xs b) := by
  unfold q_add
  rw [if_pos hc]
  refine ⟨fi, _, h1, by simp; omega, ?_, e2, ?_⟩
  · rw [e1, nI_1, List.length_append]
    rfl
  · intro j hj
    rw [nI_clamp (Nat.lt_trans (Nat.mod_lt _ (by decide)) (by decide))]
    simp only [List.length_append, List.length_singleton] at hj
    by_cases hjl : j = xs.length
    · subst hjl
      rw [pk_us, pk_vb]
      simp
    · rw [pk_un (by omega), hf j (by omega)]
      rw [List.getD_eq_getElem?_getD, List.getD_eq_getElem?_getD, List.getElem?_append_left (by omega)]
theorem q_ne {A : Nat → ClassId} {σ : hS} {a row : Nat} {xs : List Int32} (h : qAt A σ a row xs) : a ≠ row := by
  obtain ⟨fi, f, -, -, ha, hr, -⟩ := h
  exact h_nk ha hr h_oa
theorem q_fr {A : Nat → ClassId} {F : Nat → Prop} {σ σ1 : hS} {a row : Nat} {xs : List Int32} (h : qAt A σ a row xs) (hf : h_fr F σ σ1) (ha : ¬ F a) (hr : ¬ F row) : qAt A σ1 a row xs := by
  obtain ⟨fi, f, h1, h2, h3, h4, h5⟩ := h
  exact ⟨fi, f, h1, h2, (hf.1 a ha).trans h3, (hf.1 row hr).trans h4, h5⟩

/-- a list of texts: its rows, its numbers -/
def txA (A : Nat → ClassId) (σ : hS) (a r fr to_ cap mo : Nat) (g p q : Nat → Int32) (sz be us : Nat) : Prop :=
  σ.1 a = some (.inr (9, [.ref r, .ref fr, .ref to_, .int (nI sz), .int (nI be), .int (nI us)])) ∧ σ.1 r = some (.inl (A 1, cap, .inl g)) ∧ σ.1 fr = some (.inl (A 0, mo, .inl p)) ∧ σ.1 to_ = some (.inl (A 0, mo, .inl q)) ∧ (fr ≠ to_ ∧ r ≠ fr ∧ r ≠ to_) ∧ cap ≤ 10000 ∧ mo ≤ 10000 ∧ us ≤ cap ∧ sz ≤ mo ∧ be ≤ us
def t_put (cap : Nat) (x : (Nat → Int32) × Nat) (b : Int32) : (Nat → Int32) × Nat := if x.2 < cap then (upd x.1 x.2 b.toInt8.toInt32, x.2 + 1) else x
def t_puts (cap : Nat) (x : (Nat → Int32) × Nat) (bs : List Nat) : (Nat → Int32) × Nat := bs.foldl (fun x b => t_put cap x (nI b)) x
theorem t_put_le {cap : Nat} {x : (Nat → Int32) × Nat} {b : Int32} (h : x.2 ≤ cap) : (t_put cap x b).2 ≤ cap ∧ x.2 ≤ (t_put cap x b).2 := by
  unfold t_put
  by_cases hc : x.2 < cap
  · rw [if_pos hc]; exact ⟨hc, Nat.le_succ _⟩
  · rw [if_neg hc]; exact ⟨h, Nat.le_refl _⟩
theorem txA.ne {A : Nat → ClassId} {σ : hS} {a r fr to_ cap mo : Nat} {g p q : Nat → Int32} {sz be us : Nat} (h : txA A σ a r fr to_ cap mo g p q sz be us) : a ≠ r ∧ a ≠ fr ∧ a ≠ to_ := ⟨h_nk h.1 h.2.1 h_oa, h_nk h.1 h.2.2.1 h_oa, h_nk h.1 h.2.2.2.1 h_oa⟩
theorem txA.fr {A : Nat → ClassId} {F : Nat → Prop} {σ σ1 : hS} {a r fr to_ cap mo : Nat} {g p q : Nat → Int32} {sz be us : Nat} (h : txA A σ a r fr to_ cap mo g p q sz be us) (hf : h_fr F σ σ1) (h1 : ¬ F a) (h2 : ¬ F r) (h3 : ¬ F fr) (h4 : ¬ F to_) : txA A σ1 a r fr to_ cap mo g p q sz be us := by
  obtain ⟨e1, e2, e3, e4, e5⟩ := h
  exact ⟨(hf.1 _ h1).trans e1, (hf.1 _ h2).trans e2, (hf.1 _ h3).trans e3, (hf.1 _ h4).trans e4, e5⟩

set_option maxRecDepth 100000 in
set_option maxHeartbeats 4000000 in
/-- Texts.put -/
theorem ct_T_put {l : Launch} {D : va_G} {A : Nat → ClassId} {B : Nat} {Z : State → Heap → Prop} (hZ : h_st B Z) {d : Nat} {σ : hS} {a r fr to_ cap mo : Nat} {g p q : Nat → Int32} {sz be us : Nat} (h : txA A σ a r fr to_ cap mo g p q sz be us) {b : Int32} : Ct l D (h_ty A) B Z d mX9_put σ [.ref a, .int b] (fun σ1 v => v = none ∧ txA A σ1 a r fr to_ cap mo (t_put cap (g, us) b).1 p q sz be (t_put cap (g, us) b).2 ∧ h_fr (fun q => q = a ∨ q = r) σ σ1) := by
  have hn := h.ne
  obtain ⟨ha, hr, hfr, hto, hx, hcap, hmo, hus, hsz, hbe⟩ := id h
  refine ct_of rfl hZ (Nat.le_of_ble_eq_true rfl) ?_
  show G _ _ _ _ _ _ _ _ _ _ 0 [(0, .ref a), (1, .int b)] []
  refine g_aload_n dX9_put_0 rfl (List.mem_of_getElem? (i := 0) rfl) ?_
  refine g_get fX9_27 ha (v := .int (nI us)) rfl dX9_put_1 ?_
  refine g_aload_n dX9_put_4 rfl (List.mem_of_getElem? (i := 0) rfl) ?_
  refine g_get fX9_9 ha (v := .ref r) rfl dX9_put_5 ?_
  refine g_aleni (t0 := 1) rfl hr dX9_put_8 ?_
  refine g_icmp_ge (tgt := 33) dX9_put_9 (by decide) (fun c9 => ?_) (fun c9 => ?_)
  · have c9 : cap ≤ us := (nI_leI (by omega) (by omega)).mp c9
    exact g_vret rfl dX9_put_33 (⟨rfl, by unfold t_put; rw [if_neg (by show ¬ us < cap; omega)]; exact h, h_fr.rf⟩)
  · have c9 : ¬ cap ≤ us := fun x => c9 ((nI_leI (by omega) (by omega)).mpr x)
    refine g_aload_n dX9_put_12 rfl (List.mem_of_getElem? (i := 0) rfl) ?_
    refine g_get fX9_9 ha (v := .ref r) rfl dX9_put_13 ?_
    refine g_aload_n dX9_put_16 rfl (List.mem_of_getElem? (i := 0) rfl) ?_
    refine g_get fX9_27 ha (v := .int (nI us)) rfl dX9_put_17 ?_
    refine g_iload_n dX9_put_20 rfl (List.mem_of_getElem? (i := 1) rfl) ?_
    refine g_i2b dX9_put_21 rfl ?_
    refine g_bast (t0 := 1) rfl hr (vp_in_nI (by omega) (by omega)) dX9_put_22 ?_
    refine g_aload_n dX9_put_23 rfl (List.mem_of_getElem? (i := 0) rfl) ?_
    refine g_dup dX9_put_24 rfl ?_
    refine g_get fX9_27 (h_n hn.1 ha) (v := .int (nI us)) rfl dX9_put_25 ?_
    refine g_iconst (v := 1) dX9_put_28 (by decide) ?_
    refine g_iadd dX9_put_29 ?_
    refine g_put (ft := .int) fX9_27 ptX9 (Or.inl rfl) (h_n hn.1 ha) (by decide +kernel) rfl rfl (Nat.le_of_ble_eq_true rfl) dX9_put_30 ?_
    exact g_vret rfl dX9_put_33 (⟨rfl, by unfold t_put; rw [if_pos (by show us < cap; omega)]; exact ⟨by rw [← nI_1]; exact h_e, by rw [nI_clamp (by omega), pk_vb]; exact h_n (Ne.symm hn.1) h_e, h_n (Ne.symm hn.2.1) (h_n (Ne.symm hx.2.1) hfr), h_n (Ne.symm hn.2.2) (h_n (Ne.symm hx.2.2) hto), hx, hcap, hmo, by show us + 1 ≤ cap; omega, hsz, by show be ≤ us + 1; omega⟩, ⟨fun q hq => h_n (fun h => hq (Or.inl h)) (h_n (fun h => hq (Or.inr h)) rfl), rfl⟩⟩)
set_option maxRecDepth 100000 in
set_option maxHeartbeats 4000000 in
/-- Texts.close -/
theorem ct_T_close {l : Launch} {D : va_G} {A : Nat → ClassId} {B : Nat} {Z : State → Heap → Prop} (hZ : h_st B Z) {d : Nat} {σ : hS} {a r fr to_ cap mo : Nat} {g p q : Nat → Int32} {sz be us : Nat} (h : txA A σ a r fr to_ cap mo g p q sz be us) : Ct l D (h_ty A) B Z d mX9_close σ [.ref a] (fun σ1 v => v = none ∧ (if sz < mo then txA A σ1 a r fr to_ cap mo g (upd p sz (nI be)) (upd q sz (nI us)) (sz + 1) us us else txA A σ1 a r fr to_ cap mo g p q sz us us) ∧ h_fr (fun q => q = a ∨ q = fr ∨ q = to_) σ σ1) := by
  have hn := h.ne
  obtain ⟨ha, hr, hfr, hto, hx, hcap, hmo, hus, hsz, hbe⟩ := id h
  refine ct_of rfl hZ (Nat.le_of_ble_eq_true rfl) ?_
  show G _ _ _ _ _ _ _ _ _ _ 0 [(0, .ref a)] []
  refine g_aload_n dX9_close_0 rfl (List.mem_of_getElem? (i := 0) rfl) ?_
  refine g_get fX9_20 ha (v := .int (nI sz)) rfl dX9_close_1 ?_
  refine g_aload_n dX9_close_4 rfl (List.mem_of_getElem? (i := 0) rfl) ?_
  refine g_get fX9_13 ha (v := .ref fr) rfl dX9_close_5 ?_
  refine g_aleni (t0 := 0) rfl hfr dX9_close_8 ?_
  refine g_icmp_ge (tgt := 48) dX9_close_9 (by decide) (fun c9 => ?_) (fun c9 => ?_)
  · have c9 : mo ≤ sz := (nI_leI (by omega) (by omega)).mp c9
    refine g_aload_n dX9_close_48 rfl (List.mem_of_getElem? (i := 0) rfl) ?_
    refine g_aload_n dX9_close_49 rfl (List.mem_of_getElem? (i := 0) rfl) ?_
    refine g_get fX9_27 ha (v := .int (nI us)) rfl dX9_close_50 ?_
    refine g_put (ft := .int) fX9_24 ptX9 (Or.inl rfl) ha (by decide +kernel) rfl rfl (Nat.le_of_ble_eq_true rfl) dX9_close_53 ?_
    exact g_vret rfl dX9_close_56 (⟨rfl, by rw [if_neg (by omega)]; exact ⟨h_e, h_n (Ne.symm hn.1) hr, h_n (Ne.symm hn.2.1) hfr, h_n (Ne.symm hn.2.2) hto, hx, hcap, hmo, hus, hsz, Nat.le_refl _⟩, ⟨fun q hq => h_n (fun h => hq (Or.inl h)) rfl, rfl⟩⟩)
  · have c9 : ¬ mo ≤ sz := fun x => c9 ((nI_leI (by omega) (by omega)).mpr x)
    refine g_aload_n dX9_close_12 rfl (List.mem_of_getElem? (i := 0) rfl) ?_
    refine g_get fX9_13 ha (v := .ref fr) rfl dX9_close_13 ?_
    refine g_aload_n dX9_close_16 rfl (List.mem_of_getElem? (i := 0) rfl) ?_
    refine g_get fX9_20 ha (v := .int (nI sz)) rfl dX9_close_17 ?_
    refine g_aload_n dX9_close_20 rfl (List.mem_of_getElem? (i := 0) rfl) ?_
    refine g_get fX9_24 ha (v := .int (nI be)) rfl dX9_close_21 ?_
    refine g_iast (t0 := 0) rfl hfr (vp_in_nI (by omega) (by omega)) dX9_close_24 ?_
    refine g_aload_n dX9_close_25 rfl (List.mem_of_getElem? (i := 0) rfl) ?_
    refine g_get fX9_17 (h_n hn.2.1 ha) (v := .ref to_) rfl dX9_close_26 ?_
    refine g_aload_n dX9_close_29 rfl (List.mem_of_getElem? (i := 0) rfl) ?_
    refine g_get fX9_20 (h_n hn.2.1 ha) (v := .int (nI sz)) rfl dX9_close_30 ?_
    refine g_aload_n dX9_close_33 rfl (List.mem_of_getElem? (i := 0) rfl) ?_
    refine g_get fX9_27 (h_n hn.2.1 ha) (v := .int (nI us)) rfl dX9_close_34 ?_
    refine g_iast (t0 := 0) rfl (h_n (Ne.symm hx.1) hto) (vp_in_nI (by omega) (by omega)) dX9_close_37 ?_
    refine g_aload_n dX9_close_38 rfl (List.mem_of_getElem? (i := 0) rfl) ?_
    refine g_dup dX9_close_39 rfl ?_
    refine g_get fX9_20 (h_n hn.2.2 (h_n hn.2.1 ha)) (v := .int (nI sz)) rfl dX9_close_40 ?_
    refine g_iconst (v := 1) dX9_close_43 (by decide) ?_
    refine g_iadd dX9_close_44 ?_
    refine g_put (ft := .int) fX9_20 ptX9 (Or.inl rfl) (h_n hn.2.2 (h_n hn.2.1 ha)) (by decide +kernel) rfl rfl (Nat.le_of_ble_eq_true rfl) dX9_close_45 ?_
    refine g_aload_n dX9_close_48 rfl (List.mem_of_getElem? (i := 0) rfl) ?_
    refine g_aload_n dX9_close_49 rfl (List.mem_of_getElem? (i := 0) rfl) ?_
    refine g_get fX9_27 h_e (v := .int (nI us)) rfl dX9_close_50 ?_
    refine g_put (ft := .int) fX9_24 ptX9 (Or.inl rfl) h_e (by decide +kernel) rfl rfl (Nat.le_of_ble_eq_true rfl) dX9_close_53 ?_
    exact g_vret rfl dX9_close_56 (⟨rfl, by rw [if_pos (by omega)]; exact ⟨by rw [← nI_1]; exact h_e, h_n (Ne.symm hn.1) (h_n (Ne.symm hn.1) (h_n hx.2.2 (h_n hx.2.1 hr))), by rw [nI_clamp (by omega)]; exact h_n (Ne.symm hn.2.1) (h_n (Ne.symm hn.2.1) (h_n hx.1 h_e)), by rw [nI_clamp (by omega)]; exact h_n (Ne.symm hn.2.2) (h_n (Ne.symm hn.2.2) h_e), hx, hcap, hmo, hus, by show sz + 1 ≤ mo; omega, Nat.le_refl _⟩, ⟨fun q hq => h_n (fun h => hq (Or.inl h)) (h_n (fun h => hq (Or.inl h)) (h_n (fun h => hq (Or.inr (Or.inr h))) (h_n (fun h => hq (Or.inr (Or.inl h))) rfl))), rfl⟩⟩)
set_option maxRecDepth 100000 in
set_option maxHeartbeats 4000000 in
theorem ct_T_putText_loop {l : Launch} {D : va_G} {A : Nat → ClassId} {B : Nat} {Z : State → Heap → Prop} {vF : Value} (hs : zs B Z vF) {d : Nat} (hd1 : 4 ≤ d) {σ : hS} {s w a r fr to_ cap mo : Nat} {p q : Nat → Int32} {sz be : Nat} {bs : List Nat} (x0 : (Nat → Int32) × Nat) (hq : sC B Z s w bs) (hbl : bs.length < 2 ^ 31) (hb : ∀ b ∈ bs, b < 128) :
  ∀ (n k : Nat) (τ : hS) (x : (Nat → Int32) × Nat), bs.length + 1 ≤ k + n → k ≤ bs.length → x = t_puts cap x0 (bs.take k) → txA A τ a r fr to_ cap mo x.1 p q sz be x.2 → h_fr (fun q => q = a ∨ q = r) σ τ →
    G l D (h_ty A) B Z mX9_putText d σ (fun σ1 v => v = none ∧ txA A σ1 a r fr to_ cap mo (t_puts cap x0 bs).1 p q sz be (t_puts cap x0 bs).2 ∧ h_fr (fun q => q = a ∨ q = r) σ σ1) τ 2 [(0, .ref a), (1, .ref s), (2, .int (nI k))] [] := by
  intro n
  induction n with
  | zero => intro k τ x h1 h2; omega
  | succ n ih =>
    intro k τ x h1 h2 hx h hfr
    refine g_iload_n dX9_putText_2 rfl (List.mem_of_getElem? (i := 2) rfl) ?_
    refine g_aload_n dX9_putText_3 rfl (List.mem_of_getElem? (i := 1) rfl) ?_
    refine g_cv (d1 := 1) (As := []) (st := [.int (nI k)]) (ct_len hs hq (by omega)) hq.rc kJ0_length_8abf5 lX9_30 sJ0_length_8abf5 (by omega) (Nat.le_of_ble_eq_true rfl) dX9_putText_4 (fun τ4 v4 h4 z4 => ?_)
    obtain ⟨rfl, rfl⟩ := h4
    show G _ _ _ _ _ _ _ _ _ _ 7 [(0, .ref a), (1, .ref s), (2, .int (nI k))] [.int (nI bs.length), .int (nI k)]
    refine g_icmp_ge (tgt := 25) dX9_putText_7 (by decide) (fun c7 => ?_) (fun c7 => ?_)
    · have c7 : bs.length ≤ k := (nI_leI (by omega) (by omega)).mp c7
      exact g_vret rfl dX9_putText_25 (⟨rfl, by rw [List.take_of_length_le c7] at hx; rw [← hx]; exact h, hfr⟩)
    · have hk : k < bs.length := Nat.lt_of_not_le fun x => c7 ((nI_leI (by omega) (by omega)).mpr x)
      refine g_aload_n dX9_putText_10 rfl (List.mem_of_getElem? (i := 0) rfl) ?_
      refine g_aload_n dX9_putText_11 rfl (List.mem_of_getElem? (i := 1) rfl) ?_
      refine g_iload_n dX9_putText_12 rfl (List.mem_of_getElem? (i := 2) rfl) ?_
      refine g_cv (d1 := 3) (As := [.int (nI k)]) (st := [.ref a]) (ct_charAt hs hq (k := k) hk hbl hb (by omega)) hq.rc kJ0_charAt_5068e lX9_36 sJ0_charAt_5068e (by omega) (Nat.le_of_ble_eq_true rfl) dX9_putText_13 (fun τ13 v13 h13 z13 => ?_)
      obtain ⟨rfl, rfl⟩ := h13
      show G _ _ _ _ _ _ _ _ _ _ 16 [(0, .ref a), (1, .ref s), (2, .int (nI k))] [.int (nI (bs.getD k 0)), .ref a]
      refine g_cv (d1 := 0) (As := [.int (nI (bs.getD k 0))]) (st := []) (ct_T_put hs.1 h) (h_rcO (r := (RX9, TX9, 6)) h.1 rfl) kX9_put lX9_40 sX9_put (by omega) (Nat.le_of_ble_eq_true rfl) dX9_putText_16 (fun τ16 v16 h16 z16 => ?_)
      obtain ⟨rfl, h, hfr16⟩ := h16
      show G _ _ _ _ _ _ _ _ _ _ 19 [(0, .ref a), (1, .ref s), (2, .int (nI k))] []
      refine g_iinc (v := nI (k + 1)) dX9_putText_19 (k := 2) rfl (nI_1 k) (by decide) rfl ?_
      refine g_goto (tgt := 2) dX9_putText_22 (by decide) ?_
      exact ih (k + 1) _ _ (by omega) (by omega) (by rw [List.take_succ_eq_append_getElem hk]; unfold t_puts at hx ⊢; rw [List.foldl_append, ← hx]; simp only [List.foldl_cons, List.foldl_nil, List.getD_eq_getElem?_getD, List.getElem?_eq_getElem hk, Option.getD_some]) h (hfr.tr hfr16) |> g_lv [1, 2, 0] rfl
set_option maxRecDepth 100000 in
set_option maxHeartbeats 4000000 in
/-- Texts.putText -/
theorem ct_T_putText {l : Launch} {D : va_G} {A : Nat → ClassId} {B : Nat} {Z : State → Heap → Prop} {vF : Value} (hs : zs B Z vF) {d : Nat} (hd1 : 4 ≤ d) {σ : hS} {s w : Nat} {bs : List Nat} (hq : sC B Z s w bs) (hbl : bs.length < 2 ^ 31) (hb : ∀ b ∈ bs, b < 128) {a r fr to_ cap mo : Nat} {g p q : Nat → Int32} {sz be us : Nat} (h : txA A σ a r fr to_ cap mo g p q sz be us) : Ct l D (h_ty A) B Z d mX9_putText σ [.ref a, .ref s] (fun σ1 v => v = none ∧ txA A σ1 a r fr to_ cap mo (t_puts cap (g, us) bs).1 p q sz be (t_puts cap (g, us) bs).2 ∧ h_fr (fun q => q = a ∨ q = r) σ σ1) := by
  refine ct_of rfl hs.1 (Nat.le_of_ble_eq_true rfl) ?_
  show G _ _ _ _ _ _ _ _ _ _ 0 [(0, .ref a), (1, .ref s)] []
  refine g_iconst (v := 0) dX9_putText_0 (by decide) ?_
  refine g_istore_n dX9_putText_1 rfl (by decide) rfl ?_
  exact ct_T_putText_loop hs hd1 (g, us) hq hbl hb (bs.length + 1) 0 σ (g, us) (by omega) (by omega) rfl h h_fr.rf |> g_lv [1, 2, 0] rfl
