theorem mFs_get {n0 i k : Nat} {v : Nat → Int32} (hi : i < 153) (h : mIx i = some k) : (mFs n0 v)[i]? = some (.ref (n0 + k)) := by
  unfold mFs
  rw [List.getElem?_map, List.getElem?_range hi, Option.map_some, h]
theorem mFs_int {n0 i : Nat} {v : Nat → Int32} (hi : i < 153) (h : mIx i = none) : (mFs n0 v)[i]? = some (.int (v i)) := by
  unfold mFs
  rw [List.getElem?_map, List.getElem?_range hi, Option.map_some, h]
theorem mFs_len (n0 : Nat) (v : Nat → Int32) : (mFs n0 v).length = 153 := by unfold mFs; rw [List.length_map, List.length_range]
theorem mFs_set {n0 i : Nat} {v : Nat → Int32} {x : Int32} (hi : i < 153) (h : mIx i = none) : (mFs n0 v).set i (.int x) = mFs n0 (upd v i x) := by
  apply List.ext_getElem?
  intro j
  unfold mFs
  rw [List.getElem?_set]
  by_cases hj : i = j
  · subst hj
    rw [if_pos rfl, if_pos (by rw [List.length_map, List.length_range]; exact hi), List.getElem?_map, List.getElem?_range hi, Option.map_some, h]
    simp [upd]
  · rw [if_neg hj, List.getElem?_map, List.getElem?_map]
    by_cases hl : j < 153
    · rw [List.getElem?_range hl, Option.map_some, Option.map_some]
      cases hm : mIx j with
      | none => simp only [pk_un (Ne.symm hj)]
      | some k => rfl
    · rw [List.getElem?_eq_none (by rw [List.length_range]; omega)]
      rfl
section HM
variable {l : Launch} {D : va_G} {ty : List (ClassId × FieldType)} {B : Nat} {Z : State → Heap → Prop} {M : hM} {d : Nat} {σ0 σ : hS} {P : hS → Option Value → Prop} {pc : Nat} {lv : List (Nat × Value)} {st : List Value}
/-- a number of the reference's is set -/
theorem g_putM {ix i n0 a : Nat} {v : Nat → Int32} {x : Int32} {ft : FieldType} (hf : h_fl M.1.cls ix 12 i RX12 TX12 153) (hi : mIx i = none) (hfin : (TX12 i).2.2.2 = false) (ha : σ.1 a = some (.inr (12, mFs n0 v))) (hp : parseFieldDescriptor (TX12 i).2.2.1 = some ft) (hn : narrow ft (.int x) = .int x) (hfit : fits ft (.int x) = true) (hd : decode M.2.1 pc = .ok (.putfield ix, 3)) (k9 : G l D ty B Z M d σ0 P (h_set σ a (.inr (12, mFs n0 (upd v i x)))) (pc + 3) lv st) : G l D ty B Z M d σ0 P σ pc lv (.int x :: .ref a :: st) := by
  refine g_put hf ptX12 (Or.inl hfin) ha hp hn hfit (by rw [mFs_len]; exact hf.2.1) hd ?_
  rw [mFs_set hf.2.1 hi]
  exact k9
end HM

/-- active, as the constructor leaves it -/
def mR_active : Nat → Int32 := upd (upd (upd (upd (fun _ => 0) (0 : Int32).toNatClampNeg (-1)) (1 : Int32).toNatClampNeg (-1)) (2 : Int32).toNatClampNeg (-1)) (3 : Int32).toNatClampNeg (-1)
/-- boxes, as the constructor leaves it -/
def mR_boxes : Nat → Int32 := upd (upd (upd (upd (fun _ => 0) (0 : Int32).toNatClampNeg 1) (1 : Int32).toNatClampNeg 1) (2 : Int32).toNatClampNeg 1) (3 : Int32).toNatClampNeg 1
/-- boxSize, as the constructor leaves it -/
def mR_boxSize : Nat → Int32 := upd (upd (upd (upd (fun _ => 0) (0 : Int32).toNatClampNeg 5) (6 : Int32).toNatClampNeg 5) (12 : Int32).toNatClampNeg 5) (18 : Int32).toNatClampNeg 5
/-- boxText, as the constructor leaves it -/
def mR_boxText : Nat → Int32 := upd (upd (upd (upd (upd (upd (upd (upd (upd (upd (upd (upd (upd (upd (upd (upd (upd (upd (upd (upd (fun _ => 0) (0 : Int32).toNatClampNeg 73) (1 : Int32).toNatClampNeg 78) (2 : Int32).toNatClampNeg 66) (3 : Int32).toNatClampNeg 79) (4 : Int32).toNatClampNeg 88) (120 : Int32).toNatClampNeg 73) (121 : Int32).toNatClampNeg 78) (122 : Int32).toNatClampNeg 66) (123 : Int32).toNatClampNeg 79) (124 : Int32).toNatClampNeg 88) (240 : Int32).toNatClampNeg 73) (241 : Int32).toNatClampNeg 78) (242 : Int32).toNatClampNeg 66) (243 : Int32).toNatClampNeg 79) (244 : Int32).toNatClampNeg 88) (360 : Int32).toNatClampNeg 73) (361 : Int32).toNatClampNeg 78) (362 : Int32).toNatClampNeg 66) (363 : Int32).toNatClampNeg 79) (364 : Int32).toNatClampNeg 88
/-- what SortedMailModel() leaves -/
def mmNew (A : Nat → ClassId) (σ1 : hS) (a n0 : Nat) : Prop := σ1.1 a = some (.inr (12, mFs n0 (fun i => if i = 0 then 1 else 0))) ∧ σ1.1 (n0 + 70) = some (.inl (A 0, 4, .inl mR_active)) ∧ σ1.1 (n0 + 46) = some (.inl (A 0, 4, .inl mR_boxes)) ∧ σ1.1 (n0 + 48) = some (.inl (A 0, 24, .inl mR_boxSize)) ∧ σ1.1 (n0 + 47) = some (.inl (A 0, 480, .inl mR_boxText)) ∧ ∀ j : Nat, j < 91 → j ≠ 70 → j ≠ 46 → j ≠ 48 → j ≠ 47 → σ1.1 (n0 + j) = some (mT A j)
set_option maxRecDepth 100000 in
set_option maxHeartbeats 4000000 in
theorem ct_X12_tail {l : Launch} {D : va_G} {A : Nat → ClassId} {B : Nat} {Z : State → Heap → Prop} {vF : Value} (hs : zs B Z vF) {sq sw : Nat} (hsk : ∀ (U : State) (H : Heap), Z U H → vk_R RX12 1387 "INBOX" sq U) (hib : sC B Z sq sw IBX) {d : Nat} (hd1 : 4 ≤ d) {σ τ : hS} {a n0 s0 : Nat} (hla : a < n0) (z0 : σ.2.1 = n0) (y0 : σ.2.2 = s0) (z : τ.2.1 = n0 + 91) (y : τ.2.2 = s0 + 197734) (ha : τ.1 a = some (.inr (12, mFs n0 (fun i => if i = 0 then 1 else 0)))) (mi : mMI A τ n0 91) (od : h_old σ τ a n0) : G l D (h_ty A) B Z mX12_init d σ (fun σ1 v => v = none ∧ cgr σ σ1 a 91 197734 ∧ mmNew A σ1 a n0) τ 783 [(0, .ref a)] [] := by
  have hx0 := hla
  refine g_iconst (v := 0) dX12_init_783 (by decide) ?_
  refine g_istore_n dX12_init_784 rfl (by decide) rfl ?_
  refine g_iload_n dX12_init_785 rfl (List.mem_of_getElem? (i := 0) rfl) ?_
  refine g_iconst (v := 4) dX12_init_786 (by decide) ?_
  refine g_icmp_ge (tgt := 851) dX12_init_787 (by decide) (fun c787 => absurd c787 (by decide)) (fun c787 => ?_)
  refine g_aload_n dX12_init_790 rfl (List.mem_of_getElem? (i := 1) rfl) ?_
  refine g_get fX12_926 ha (v := .ref (n0 + 70)) (mFs_get (by decide) rfl) dX12_init_791 ?_
  refine g_iload_n dX12_init_794 rfl (List.mem_of_getElem? (i := 0) rfl) ?_
  refine g_iconst (v := -1) dX12_init_795 (by decide) ?_
  refine g_iast (t0 := 0) rfl (mi 70 (by decide)) (vp_in_nI (n := 0) (by decide) (by decide)) dX12_init_796 ?_
  refine g_gen (fun τ1 e1 => ?_)
  have z1 := h_z2 e1 z
  have y1 := h_y2 e1 y
  refine g_aload_n dX12_init_797 rfl (List.mem_of_getElem? (i := 1) rfl) ?_
  refine g_get fX12_796 (h_nS e1 (h_al (j := 70) hla) ha) (v := .ref (n0 + 46)) (mFs_get (by decide) rfl) dX12_init_798 ?_
  refine g_iload_n dX12_init_801 rfl (List.mem_of_getElem? (i := 0) rfl) ?_
  refine g_iconst (v := 1) dX12_init_802 (by decide) ?_
  refine g_iast (t0 := 0) rfl (h_nS e1 (h_ad (n := n0) (i := 46) (j := 70) (by decide)) (mi 46 (by decide))) (vp_in_nI (n := 0) (by decide) (by decide)) dX12_init_803 ?_
  refine g_gen (fun τ2 e2 => ?_)
  have z2 := h_z2 e2 z1
  have y2 := h_y2 e2 y1
  refine g_aload_n dX12_init_804 rfl (List.mem_of_getElem? (i := 1) rfl) ?_
  refine g_get fX12_802 (h_nS e2 (h_al (j := 46) hla) (h_nS e1 (h_al (j := 70) hla) ha)) (v := .ref (n0 + 48)) (mFs_get (by decide) rfl) dX12_init_805 ?_
  refine g_bipush (v := 6) dX12_init_808 (by decide) ?_
  refine g_iload_n dX12_init_810 rfl (List.mem_of_getElem? (i := 0) rfl) ?_
  refine g_imul dX12_init_811 ?_
  refine g_eqi (0) (by decide) ?_
  refine g_iconst (v := 5) dX12_init_812 (by decide) ?_
  refine g_iast (t0 := 0) rfl (h_nS e2 (h_ad (n := n0) (i := 48) (j := 46) (by decide)) (h_nS e1 (h_ad (n := n0) (i := 48) (j := 70) (by decide)) (mi 48 (by decide)))) (vp_in_nI (n := 0) (by decide) (by decide)) dX12_init_813 ?_
  refine g_gen (fun τ3 e3 => ?_)
  have z3 := h_z2 e3 z2
  have y3 := h_y2 e3 y2
  refine g_iconst (v := 0) dX12_init_814 (by decide) ?_
  refine g_istore_n dX12_init_815 rfl (by decide) rfl ?_
  refine g_iload_n dX12_init_816 rfl (List.mem_of_getElem? (i := 0) rfl) ?_
  refine g_iconst (v := 5) dX12_init_817 (by decide) ?_
  refine g_icmp_ge (tgt := 845) dX12_init_818 (by decide) (fun c818 => absurd c818 (by decide)) (fun c818 => ?_)
  refine g_aload_n dX12_init_821 rfl (List.mem_of_getElem? (i := 2) rfl) ?_
  refine g_get fX12_805 (h_nS e3 (h_al (j := 48) hla) (h_nS e2 (h_al (j := 46) hla) (h_nS e1 (h_al (j := 70) hla) ha))) (v := .ref (n0 + 47)) (mFs_get (by decide) rfl) dX12_init_822 ?_
  refine g_bipush (v := 120) dX12_init_825 (by decide) ?_
  refine g_iload_n dX12_init_827 rfl (List.mem_of_getElem? (i := 1) rfl) ?_
  refine g_imul dX12_init_828 ?_
  refine g_eqi (0) (by decide) ?_
  refine g_iload_n dX12_init_829 rfl (List.mem_of_getElem? (i := 0) rfl) ?_
  refine g_iadd dX12_init_830 ?_
  refine g_eqi (0) (by decide) ?_
  refine g_ldcwS (q := sq) (fun U H hz => hsk U H hz) dX12_init_831 ?_
  refine g_iload_n dX12_init_834 rfl (List.mem_of_getElem? (i := 0) rfl) ?_
  refine g_cv (d1 := 3) (As := [.int 0]) (st := [.int 0, .ref (n0 + 47)]) (ct_charAt hs hib (k := 0) (by decide) (by decide) IBX_b (by omega)) hib.rc kJ0_charAt_5068e lX12_64 sJ0_charAt_5068e (by omega) (Nat.le_of_ble_eq_true rfl) dX12_init_835 (fun τ835 v835 h835 z835 => ?_)
  obtain ⟨rfl, rfl⟩ := h835
  show G _ _ _ _ _ _ _ _ _ _ 838 [(2, .int 0), (1, .int 0), (0, .ref a)] [.int 73, .int 0, .ref (n0 + 47)]
  refine g_iast (t0 := 0) rfl (h_nS e3 (h_ad (n := n0) (i := 47) (j := 48) (by decide)) (h_nS e2 (h_ad (n := n0) (i := 47) (j := 46) (by decide)) (h_nS e1 (h_ad (n := n0) (i := 47) (j := 70) (by decide)) (mi 47 (by decide))))) (vp_in_nI (n := 0) (by decide) (by decide)) dX12_init_838 ?_
  refine g_gen (fun τ4 e4 => ?_)
  have z4 := h_z2 e4 z3
  have y4 := h_y2 e4 y3
  refine g_iinc (v := 1) dX12_init_839 (k := 0) rfl (by decide) (by decide) rfl ?_
  refine g_goto (tgt := 816) dX12_init_842 (by decide) ?_
  refine g_iload_n dX12_init_816 rfl (List.mem_of_getElem? (i := 0) rfl) ?_
  refine g_iconst (v := 5) dX12_init_817 (by decide) ?_
  refine g_icmp_ge (tgt := 845) dX12_init_818 (by decide) (fun c818 => absurd c818 (by decide)) (fun c818 => ?_)
  refine g_aload_n dX12_init_821 rfl (List.mem_of_getElem? (i := 2) rfl) ?_
  refine g_get fX12_805 (h_nS e4 (h_al (j := 47) hla) (h_nS e3 (h_al (j := 48) hla) (h_nS e2 (h_al (j := 46) hla) (h_nS e1 (h_al (j := 70) hla) ha)))) (v := .ref (n0 + 47)) (mFs_get (by decide) rfl) dX12_init_822 ?_
  refine g_bipush (v := 120) dX12_init_825 (by decide) ?_
  refine g_iload_n dX12_init_827 rfl (List.mem_of_getElem? (i := 1) rfl) ?_
  refine g_imul dX12_init_828 ?_
  refine g_eqi (0) (by decide) ?_
  refine g_iload_n dX12_init_829 rfl (List.mem_of_getElem? (i := 0) rfl) ?_
  refine g_iadd dX12_init_830 ?_
  refine g_eqi (1) (by decide) ?_
  refine g_ldcwS (q := sq) (fun U H hz => hsk U H hz) dX12_init_831 ?_
  refine g_iload_n dX12_init_834 rfl (List.mem_of_getElem? (i := 0) rfl) ?_
  refine g_cv (d1 := 3) (As := [.int 1]) (st := [.int 1, .ref (n0 + 47)]) (ct_charAt hs hib (k := 1) (by decide) (by decide) IBX_b (by omega)) hib.rc kJ0_charAt_5068e lX12_64 sJ0_charAt_5068e (by omega) (Nat.le_of_ble_eq_true rfl) dX12_init_835 (fun τ835 v835 h835 z835 => ?_)
  obtain ⟨rfl, rfl⟩ := h835
  show G _ _ _ _ _ _ _ _ _ _ 838 [(2, .int 1), (1, .int 0), (0, .ref a)] [.int 78, .int 1, .ref (n0 + 47)]
  refine g_iast (t0 := 0) rfl (h_eS e4) (vp_in_nI (n := 1) (by decide) (by decide)) dX12_init_838 ?_
  refine g_gen (fun τ5 e5 => ?_)
  have z5 := h_z2 e5 z4
  have y5 := h_y2 e5 y4
  refine g_iinc (v := 2) dX12_init_839 (k := 0) rfl (by decide) (by decide) rfl ?_
  refine g_goto (tgt := 816) dX12_init_842 (by decide) ?_
  refine g_iload_n dX12_init_816 rfl (List.mem_of_getElem? (i := 0) rfl) ?_
  refine g_iconst (v := 5) dX12_init_817 (by decide) ?_
  refine g_icmp_ge (tgt := 845) dX12_init_818 (by decide) (fun c818 => absurd c818 (by decide)) (fun c818 => ?_)
  refine g_aload_n dX12_init_821 rfl (List.mem_of_getElem? (i := 2) rfl) ?_
  refine g_get fX12_805 (h_nS e5 (h_al (j := 47) hla) (h_nS e4 (h_al (j := 47) hla) (h_nS e3 (h_al (j := 48) hla) (h_nS e2 (h_al (j := 46) hla) (h_nS e1 (h_al (j := 70) hla) ha))))) (v := .ref (n0 + 47)) (mFs_get (by decide) rfl) dX12_init_822 ?_
  refine g_bipush (v := 120) dX12_init_825 (by decide) ?_
  refine g_iload_n dX12_init_827 rfl (List.mem_of_getElem? (i := 1) rfl) ?_
  refine g_imul dX12_init_828 ?_
  refine g_eqi (0) (by decide) ?_
  refine g_iload_n dX12_init_829 rfl (List.mem_of_getElem? (i := 0) rfl) ?_
  refine g_iadd dX12_init_830 ?_
  refine g_eqi (2) (by decide) ?_
  refine g_ldcwS (q := sq) (fun U H hz => hsk U H hz) dX12_init_831 ?_
  refine g_iload_n dX12_init_834 rfl (List.mem_of_getElem? (i := 0) rfl) ?_
  refine g_cv (d1 := 3) (As := [.int 2]) (st := [.int 2, .ref (n0 + 47)]) (ct_charAt hs hib (k := 2) (by decide) (by decide) IBX_b (by omega)) hib.rc kJ0_charAt_5068e lX12_64 sJ0_charAt_5068e (by omega) (Nat.le_of_ble_eq_true rfl) dX12_init_835 (fun τ835 v835 h835 z835 => ?_)
  obtain ⟨rfl, rfl⟩ := h835
  show G _ _ _ _ _ _ _ _ _ _ 838 [(2, .int 2), (1, .int 0), (0, .ref a)] [.int 66, .int 2, .ref (n0 + 47)]
  refine g_iast (t0 := 0) rfl (h_eS e5) (vp_in_nI (n := 2) (by decide) (by decide)) dX12_init_838 ?_
  refine g_gen (fun τ6 e6 => ?_)
  have z6 := h_z2 e6 z5
  have y6 := h_y2 e6 y5
  refine g_iinc (v := 3) dX12_init_839 (k := 0) rfl (by decide) (by decide) rfl ?_
  refine g_goto (tgt := 816) dX12_init_842 (by decide) ?_
  refine g_iload_n dX12_init_816 rfl (List.mem_of_getElem? (i := 0) rfl) ?_
  refine g_iconst (v := 5) dX12_init_817 (by decide) ?_
  refine g_icmp_ge (tgt := 845) dX12_init_818 (by decide) (fun c818 => absurd c818 (by decide)) (fun c818 => ?_)
  refine g_aload_n dX12_init_821 rfl (List.mem_of_getElem? (i := 2) rfl) ?_
  refine g_get fX12_805 (h_nS e6 (h_al (j := 47) hla) (h_nS e5 (h_al (j := 47) hla) (h_nS e4 (h_al (j := 47) hla) (h_nS e3 (h_al (j := 48) hla) (h_nS e2 (h_al (j := 46) hla) (h_nS e1 (h_al (j := 70) hla) ha)))))) (v := .ref (n0 + 47)) (mFs_get (by decide) rfl) dX12_init_822 ?_
  refine g_bipush (v := 120) dX12_init_825 (by decide) ?_
  refine g_iload_n dX12_init_827 rfl (List.mem_of_getElem? (i := 1) rfl) ?_
  refine g_imul dX12_init_828 ?_
  refine g_eqi (0) (by decide) ?_
  refine g_iload_n dX12_init_829 rfl (List.mem_of_getElem? (i := 0) rfl) ?_
  refine g_iadd dX12_init_830 ?_
  refine g_eqi (3) (by decide) ?_
  refine g_ldcwS (q := sq) (fun U H hz => hsk U H hz) dX12_init_831 ?_
  refine g_iload_n dX12_init_834 rfl (List.mem_of_getElem? (i := 0) rfl) ?_
  refine g_cv (d1 := 3) (As := [.int 3]) (st := [.int 3, .ref (n0 + 47)]) (ct_charAt hs hib (k := 3) (by decide) (by decide) IBX_b (by omega)) hib.rc kJ0_charAt_5068e lX12_64 sJ0_charAt_5068e (by omega) (Nat.le_of_ble_eq_true rfl) dX12_init_835 (fun τ835 v835 h835 z835 => ?_)
  obtain ⟨rfl, rfl⟩ := h835
  show G _ _ _ _ _ _ _ _ _ _ 838 [(2, .int 3), (1, .int 0), (0, .ref a)] [.int 79, .int 3, .ref (n0 + 47)]
  refine g_iast (t0 := 0) rfl (h_eS e6) (vp_in_nI (n := 3) (by decide) (by decide)) dX12_init_838 ?_
  refine g_gen (fun τ7 e7 => ?_)
  have z7 := h_z2 e7 z6
  have y7 := h_y2 e7 y6
  refine g_iinc (v := 4) dX12_init_839 (k := 0) rfl (by decide) (by decide) rfl ?_
  refine g_goto (tgt := 816) dX12_init_842 (by decide) ?_
  refine g_iload_n dX12_init_816 rfl (List.mem_of_getElem? (i := 0) rfl) ?_
  refine g_iconst (v := 5) dX12_init_817 (by decide) ?_
  refine g_icmp_ge (tgt := 845) dX12_init_818 (by decide) (fun c818 => absurd c818 (by decide)) (fun c818 => ?_)
  refine g_aload_n dX12_init_821 rfl (List.mem_of_getElem? (i := 2) rfl) ?_
  refine g_get fX12_805 (h_nS e7 (h_al (j := 47) hla) (h_nS e6 (h_al (j := 47) hla) (h_nS e5 (h_al (j := 47) hla) (h_nS e4 (h_al (j := 47) hla) (h_nS e3 (h_al (j := 48) hla) (h_nS e2 (h_al (j := 46) hla) (h_nS e1 (h_al (j := 70) hla) ha))))))) (v := .ref (n0 + 47)) (mFs_get (by decide) rfl) dX12_init_822 ?_
  refine g_bipush (v := 120) dX12_init_825 (by decide) ?_
  refine g_iload_n dX12_init_827 rfl (List.mem_of_getElem? (i := 1) rfl) ?_
  refine g_imul dX12_init_828 ?_
  refine g_eqi (0) (by decide) ?_
  refine g_iload_n dX12_init_829 rfl (List.mem_of_getElem? (i := 0) rfl) ?_
  refine g_iadd dX12_init_830 ?_
  refine g_eqi (4) (by decide) ?_
  refine g_ldcwS (q := sq) (fun U H hz => hsk U H hz) dX12_init_831 ?_
  refine g_iload_n dX12_init_834 rfl (List.mem_of_getElem? (i := 0) rfl) ?_
  refine g_cv (d1 := 3) (As := [.int 4]) (st := [.int 4, .ref (n0 + 47)]) (ct_charAt hs hib (k := 4) (by decide) (by decide) IBX_b (by omega)) hib.rc kJ0_charAt_5068e lX12_64 sJ0_charAt_5068e (by omega) (Nat.le_of_ble_eq_true rfl) dX12_init_835 (fun τ835 v835 h835 z835 => ?_)
  obtain ⟨rfl, rfl⟩ := h835
  show G _ _ _ _ _ _ _ _ _ _ 838 [(2, .int 4), (1, .int 0), (0, .ref a)] [.int 88, .int 4, .ref (n0 + 47)]
  refine g_iast (t0 := 0) rfl (h_eS e7) (vp_in_nI (n := 4) (by decide) (by decide)) dX12_init_838 ?_
  refine g_gen (fun τ8 e8 => ?_)
  have z8 := h_z2 e8 z7
  have y8 := h_y2 e8 y7
  refine g_iinc (v := 5) dX12_init_839 (k := 0) rfl (by decide) (by decide) rfl ?_
  refine g_goto (tgt := 816) dX12_init_842 (by decide) ?_
  refine g_iload_n dX12_init_816 rfl (List.mem_of_getElem? (i := 0) rfl) ?_
  refine g_iconst (v := 5) dX12_init_817 (by decide) ?_
  refine g_icmp_ge (tgt := 845) dX12_init_818 (by decide) (fun c818 => ?_) (fun c818 => absurd (by decide) c818)
  refine g_iinc (v := 1) dX12_init_845 (k := 1) rfl (by decide) (by decide) rfl ?_
  refine g_goto (tgt := 785) dX12_init_848 (by decide) ?_
  refine g_iload_n dX12_init_785 rfl (List.mem_of_getElem? (i := 0) rfl) ?_
  refine g_iconst (v := 4) dX12_init_786 (by decide) ?_
  refine g_icmp_ge (tgt := 851) dX12_init_787 (by decide) (fun c787 => absurd c787 (by decide)) (fun c787 => ?_)
  refine g_aload_n dX12_init_790 rfl (List.mem_of_getElem? (i := 2) rfl) ?_
  refine g_get fX12_926 (h_nS e8 (h_al (j := 47) hla) (h_nS e7 (h_al (j := 47) hla) (h_nS e6 (h_al (j := 47) hla) (h_nS e5 (h_al (j := 47) hla) (h_nS e4 (h_al (j := 47) hla) (h_nS e3 (h_al (j := 48) hla) (h_nS e2 (h_al (j := 46) hla) (h_nS e1 (h_al (j := 70) hla) ha)))))))) (v := .ref (n0 + 70)) (mFs_get (by decide) rfl) dX12_init_791 ?_
  refine g_iload_n dX12_init_794 rfl (List.mem_of_getElem? (i := 0) rfl) ?_
  refine g_iconst (v := -1) dX12_init_795 (by decide) ?_
  refine g_iast (t0 := 0) rfl (h_nS e8 (h_ad (n := n0) (i := 70) (j := 47) (by decide)) (h_nS e7 (h_ad (n := n0) (i := 70) (j := 47) (by decide)) (h_nS e6 (h_ad (n := n0) (i := 70) (j := 47) (by decide)) (h_nS e5 (h_ad (n := n0) (i := 70) (j := 47) (by decide)) (h_nS e4 (h_ad (n := n0) (i := 70) (j := 47) (by decide)) (h_nS e3 (h_ad (n := n0) (i := 70) (j := 48) (by decide)) (h_nS e2 (h_ad (n := n0) (i := 70) (j := 46) (by decide)) (h_eS e1)))))))) (vp_in_nI (n := 1) (by decide) (by decide)) dX12_init_796 ?_
  refine g_gen (fun τ9 e9 => ?_)
  have z9 := h_z2 e9 z8
  have y9 := h_y2 e9 y8
  refine g_aload_n dX12_init_797 rfl (List.mem_of_getElem? (i := 2) rfl) ?_
  refine g_get fX12_796 (h_nS e9 (h_al (j := 70) hla) (h_nS e8 (h_al (j := 47) hla) (h_nS e7 (h_al (j := 47) hla) (h_nS e6 (h_al (j := 47) hla) (h_nS e5 (h_al (j := 47) hla) (h_nS e4 (h_al (j := 47) hla) (h_nS e3 (h_al (j := 48) hla) (h_nS e2 (h_al (j := 46) hla) (h_nS e1 (h_al (j := 70) hla) ha))))))))) (v := .ref (n0 + 46)) (mFs_get (by decide) rfl) dX12_init_798 ?_
  refine g_iload_n dX12_init_801 rfl (List.mem_of_getElem? (i := 0) rfl) ?_
  refine g_iconst (v := 1) dX12_init_802 (by decide) ?_
  refine g_iast (t0 := 0) rfl (h_nS e9 (h_ad (n := n0) (i := 46) (j := 70) (by decide)) (h_nS e8 (h_ad (n := n0) (i := 46) (j := 47) (by decide)) (h_nS e7 (h_ad (n := n0) (i := 46) (j := 47) (by decide)) (h_nS e6 (h_ad (n := n0) (i := 46) (j := 47) (by decide)) (h_nS e5 (h_ad (n := n0) (i := 46) (j := 47) (by decide)) (h_nS e4 (h_ad (n := n0) (i := 46) (j := 47) (by decide)) (h_nS e3 (h_ad (n := n0) (i := 46) (j := 48) (by decide)) (h_eS e2)))))))) (vp_in_nI (n := 1) (by decide) (by decide)) dX12_init_803 ?_
  refine g_gen (fun τ10 e10 => ?_)
  have z10 := h_z2 e10 z9
  have y10 := h_y2 e10 y9
  refine g_aload_n dX12_init_804 rfl (List.mem_of_getElem? (i := 2) rfl) ?_
  refine g_get fX12_802 (h_nS e10 (h_al (j := 46) hla) (h_nS e9 (h_al (j := 70) hla) (h_nS e8 (h_al (j := 47) hla) (h_nS e7 (h_al (j := 47) hla) (h_nS e6 (h_al (j := 47) hla) (h_nS e5 (h_al (j := 47) hla) (h_nS e4 (h_al (j := 47) hla) (h_nS e3 (h_al (j := 48) hla) (h_nS e2 (h_al (j := 46) hla) (h_nS e1 (h_al (j := 70) hla) ha)))))))))) (v := .ref (n0 + 48)) (mFs_get (by decide) rfl) dX12_init_805 ?_
  refine g_bipush (v := 6) dX12_init_808 (by decide) ?_
  refine g_iload_n dX12_init_810 rfl (List.mem_of_getElem? (i := 0) rfl) ?_
  refine g_imul dX12_init_811 ?_
  refine g_eqi (6) (by decide) ?_
  refine g_iconst (v := 5) dX12_init_812 (by decide) ?_
  refine g_iast (t0 := 0) rfl (h_nS e10 (h_ad (n := n0) (i := 48) (j := 46) (by decide)) (h_nS e9 (h_ad (n := n0) (i := 48) (j := 70) (by decide)) (h_nS e8 (h_ad (n := n0) (i := 48) (j := 47) (by decide)) (h_nS e7 (h_ad (n := n0) (i := 48) (j := 47) (by decide)) (h_nS e6 (h_ad (n := n0) (i := 48) (j := 47) (by decide)) (h_nS e5 (h_ad (n := n0) (i := 48) (j := 47) (by decide)) (h_nS e4 (h_ad (n := n0) (i := 48) (j := 47) (by decide)) (h_eS e3)))))))) (vp_in_nI (n := 6) (by decide) (by decide)) dX12_init_813 ?_
  refine g_gen (fun τ11 e11 => ?_)
  have z11 := h_z2 e11 z10
  have y11 := h_y2 e11 y10
  refine g_iconst (v := 0) dX12_init_814 (by decide) ?_
  refine g_istore_n dX12_init_815 rfl (by decide) rfl ?_
  refine g_iload_n dX12_init_816 rfl (List.mem_of_getElem? (i := 0) rfl) ?_
  refine g_iconst (v := 5) dX12_init_817 (by decide) ?_
  refine g_icmp_ge (tgt := 845) dX12_init_818 (by decide) (fun c818 => absurd c818 (by decide)) (fun c818 => ?_)
  refine g_aload_n dX12_init_821 rfl (List.mem_of_getElem? (i := 2) rfl) ?_
  refine g_get fX12_805 (h_nS e11 (h_al (j := 48) hla) (h_nS e10 (h_al (j := 46) hla) (h_nS e9 (h_al (j := 70) hla) (h_nS e8 (h_al (j := 47) hla) (h_nS e7 (h_al (j := 47) hla) (h_nS e6 (h_al (j := 47) hla) (h_nS e5 (h_al (j := 47) hla) (h_nS e4 (h_al (j := 47) hla) (h_nS e3 (h_al (j := 48) hla) (h_nS e2 (h_al (j := 46) hla) (h_nS e1 (h_al (j := 70) hla) ha))))))))))) (v := .ref (n0 + 47)) (mFs_get (by decide) rfl) dX12_init_822 ?_
  refine g_bipush (v := 120) dX12_init_825 (by decide) ?_
  refine g_iload_n dX12_init_827 rfl (List.mem_of_getElem? (i := 1) rfl) ?_
  refine g_imul dX12_init_828 ?_
  refine g_eqi (120) (by decide) ?_
  refine g_iload_n dX12_init_829 rfl (List.mem_of_getElem? (i := 0) rfl) ?_
  refine g_iadd dX12_init_830 ?_
  refine g_eqi (120) (by decide) ?_
  refine g_ldcwS (q := sq) (fun U H hz => hsk U H hz) dX12_init_831 ?_
  refine g_iload_n dX12_init_834 rfl (List.mem_of_getElem? (i := 0) rfl) ?_
  refine g_cv (d1 := 3) (As := [.int 0]) (st := [.int 120, .ref (n0 + 47)]) (ct_charAt hs hib (k := 0) (by decide) (by decide) IBX_b (by omega)) hib.rc kJ0_charAt_5068e lX12_64 sJ0_charAt_5068e (by omega) (Nat.le_of_ble_eq_true rfl) dX12_init_835 (fun τ835 v835 h835 z835 => ?_)
  obtain ⟨rfl, rfl⟩ := h835
  show G _ _ _ _ _ _ _ _ _ _ 838 [(2, .int 0), (1, .int 1), (0, .ref a)] [.int 73, .int 120, .ref (n0 + 47)]
  refine g_iast (t0 := 0) rfl (h_nS e11 (h_ad (n := n0) (i := 47) (j := 48) (by decide)) (h_nS e10 (h_ad (n := n0) (i := 47) (j := 46) (by decide)) (h_nS e9 (h_ad (n := n0) (i := 47) (j := 70) (by decide)) (h_eS e8)))) (vp_in_nI (n := 120) (by decide) (by decide)) dX12_init_838 ?_
  refine g_gen (fun τ12 e12 => ?_)
  have z12 := h_z2 e12 z11
  have y12 := h_y2 e12 y11
  refine g_iinc (v := 1) dX12_init_839 (k := 0) rfl (by decide) (by decide) rfl ?_
  refine g_goto (tgt := 816) dX12_init_842 (by decide) ?_
  refine g_iload_n dX12_init_816 rfl (List.mem_of_getElem? (i := 0) rfl) ?_
  refine g_iconst (v := 5) dX12_init_817 (by decide) ?_
  refine g_icmp_ge (tgt := 845) dX12_init_818 (by decide) (fun c818 => absurd c818 (by decide)) (fun c818 => ?_)
  refine g_aload_n dX12_init_821 rfl (List.mem_of_getElem? (i := 2) rfl) ?_
  refine g_get fX12_805 (h_nS e12 (h_al (j := 47) hla) (h_nS e11 (h_al (j := 48) hla) (h_nS e10 (h_al (j := 46) hla) (h_nS e9 (h_al (j := 70) hla) (h_nS e8 (h_al (j := 47) hla) (h_nS e7 (h_al (j := 47) hla) (h_nS e6 (h_al (j := 47) hla) (h_nS e5 (h_al (j := 47) hla) (h_nS e4 (h_al (j := 47) hla) (h_nS e3 (h_al (j := 48) hla) (h_nS e2 (h_al (j := 46) hla) (h_nS e1 (h_al (j := 70) hla) ha)))))))))))) (v := .ref (n0 + 47)) (mFs_get (by decide) rfl) dX12_init_822 ?_
  refine g_bipush (v := 120) dX12_init_825 (by decide) ?_
  refine g_iload_n dX12_init_827 rfl (List.mem_of_getElem? (i := 1) rfl) ?_
  refine g_imul dX12_init_828 ?_
  refine g_eqi (120) (by decide) ?_
  refine g_iload_n dX12_init_829 rfl (List.mem_of_getElem? (i := 0) rfl) ?_
  refine g_iadd dX12_init_830 ?_
  refine g_eqi (121) (by decide) ?_
  refine g_ldcwS (q := sq) (fun U H hz => hsk U H hz) dX12_init_831 ?_
  refine g_iload_n dX12_init_834 rfl (List.mem_of_getElem? (i := 0) rfl) ?_
  refine g_cv (d1 := 3) (As := [.int 1]) (st := [.int 121, .ref (n0 + 47)]) (ct_charAt hs hib (k := 1) (by decide) (by decide) IBX_b (by omega)) hib.rc kJ0_charAt_5068e lX12_64 sJ0_charAt_5068e (by omega) (Nat.le_of_ble_eq_true rfl) dX12_init_835 (fun τ835 v835 h835 z835 => ?_)
  obtain ⟨rfl, rfl⟩ := h835
  show G _ _ _ _ _ _ _ _ _ _ 838 [(2, .int 1), (1, .int 1), (0, .ref a)] [.int 78, .int 121, .ref (n0 + 47)]
  refine g_iast (t0 := 0) rfl (h_eS e12) (vp_in_nI (n := 121) (by decide) (by decide)) dX12_init_838 ?_
  refine g_gen (fun τ13 e13 => ?_)
  have z13 := h_z2 e13 z12
  have y13 := h_y2 e13 y12
  refine g_iinc (v := 2) dX12_init_839 (k := 0) rfl (by decide) (by decide) rfl ?_
  refine g_goto (tgt := 816) dX12_init_842 (by decide) ?_
  refine g_iload_n dX12_init_816 rfl (List.mem_of_getElem? (i := 0) rfl) ?_
  refine g_iconst (v := 5) dX12_init_817 (by decide) ?_
  refine g_icmp_ge (tgt := 845) dX12_init_818 (by decide) (fun c818 => absurd c818 (by decide)) (fun c818 => ?_)
  refine g_aload_n dX12_init_821 rfl (List.mem_of_getElem? (i := 2) rfl) ?_
  refine g_get fX12_805 (h_nS e13 (h_al (j := 47) hla) (h_nS e12 (h_al (j := 47) hla) (h_nS e11 (h_al (j := 48) hla) (h_nS e10 (h_al (j := 46) hla) (h_nS e9 (h_al (j := 70) hla) (h_nS e8 (h_al (j := 47) hla) (h_nS e7 (h_al (j := 47) hla) (h_nS e6 (h_al (j := 47) hla) (h_nS e5 (h_al (j := 47) hla) (h_nS e4 (h_al (j := 47) hla) (h_nS e3 (h_al (j := 48) hla) (h_nS e2 (h_al (j := 46) hla) (h_nS e1 (h_al (j := 70) hla) ha))))))))))))) (v := .ref (n0 + 47)) (mFs_get (by decide) rfl) dX12_init_822 ?_
  refine g_bipush (v := 120) dX12_init_825 (by decide) ?_
  refine g_iload_n dX12_init_827 rfl (List.mem_of_getElem? (i := 1) rfl) ?_
  refine g_imul dX12_init_828 ?_
  refine g_eqi (120) (by decide) ?_
  refine g_iload_n dX12_init_829 rfl (List.mem_of_getElem? (i := 0) rfl) ?_
  refine g_iadd dX12_init_830 ?_
  refine g_eqi (122) (by decide) ?_
  refine g_ldcwS (q := sq) (fun U H hz => hsk U H hz) dX12_init_831 ?_
  refine g_iload_n dX12_init_834 rfl (List.mem_of_getElem? (i := 0) rfl) ?_
  refine g_cv (d1 := 3) (As := [.int 2]) (st := [.int 122, .ref (n0 + 47)]) (ct_charAt hs hib (k := 2) (by decide) (by decide) IBX_b (by omega)) hib.rc kJ0_charAt_5068e lX12_64 sJ0_charAt_5068e (by omega) (Nat.le_of_ble_eq_true rfl) dX12_init_835 (fun τ835 v835 h835 z835 => ?_)
  obtain ⟨rfl, rfl⟩ := h835
  show G _ _ _ _ _ _ _ _ _ _ 838 [(2, .int 2), (1, .int 1), (0, .ref a)] [.int 66, .int 122, .ref (n0 + 47)]
  refine g_iast (t0 := 0) rfl (h_eS e13) (vp_in_nI (n := 122) (by decide) (by decide)) dX12_init_838 ?_
  refine g_gen (fun τ14 e14 => ?_)
  have z14 := h_z2 e14 z13
  have y14 := h_y2 e14 y13
  refine g_iinc (v := 3) dX12_init_839 (k := 0) rfl (by decide) (by decide) rfl ?_
  refine g_goto (tgt := 816) dX12_init_842 (by decide) ?_
  refine g_iload_n dX12_init_816 rfl (List.mem_of_getElem? (i := 0) rfl) ?_
  refine g_iconst (v := 5) dX12_init_817 (by decide) ?_
  refine g_icmp_ge (tgt := 845) dX12_init_818 (by decide) (fun c818 => absurd c818 (by decide)) (fun c818 => ?_)
  refine g_aload_n dX12_init_821 rfl (List.mem_of_getElem? (i := 2) rfl) ?_
  refine g_get fX12_805 (h_nS e14 (h_al (j := 47) hla) (h_nS e13 (h_al (j := 47) hla) (h_nS e12 (h_al (j := 47) hla) (h_nS e11 (h_al (j := 48) hla) (h_nS e10 (h_al (j := 46) hla) (h_nS e9 (h_al (j := 70) hla) (h_nS e8 (h_al (j := 47) hla) (h_nS e7 (h_al (j := 47) hla) (h_nS e6 (h_al (j := 47) hla) (h_nS e5 (h_al (j := 47) hla) (h_nS e4 (h_al (j := 47) hla) (h_nS e3 (h_al (j := 48) hla) (h_nS e2 (h_al (j := 46) hla) (h_nS e1 (h_al (j := 70) hla) ha)))))))))))))) (v := .ref (n0 + 47)) (mFs_get (by decide) rfl) dX12_init_822 ?_
  refine g_bipush (v := 120) dX12_init_825 (by decide) ?_
  refine g_iload_n dX12_init_827 rfl (List.mem_of_getElem? (i := 1) rfl) ?_
  refine g_imul dX12_init_828 ?_
  refine g_eqi (120) (by decide) ?_
  refine g_iload_n dX12_init_829 rfl (List.mem_of_getElem? (i := 0) rfl) ?_
  refine g_iadd dX12_init_830 ?_
  refine g_eqi (123) (by decide) ?_
  refine g_ldcwS (q := sq) (fun U H hz => hsk U H hz) dX12_init_831 ?_
  refine g_iload_n dX12_init_834 rfl (List.mem_of_getElem? (i := 0) rfl) ?_
  refine g_cv (d1 := 3) (As := [.int 3]) (st := [.int 123, .ref (n0 + 47)]) (ct_charAt hs hib (k := 3) (by decide) (by decide) IBX_b (by omega)) hib.rc kJ0_charAt_5068e lX12_64 sJ0_charAt_5068e (by omega) (Nat.le_of_ble_eq_true rfl) dX12_init_835 (fun τ835 v835 h835 z835 => ?_)
  obtain ⟨rfl, rfl⟩ := h835
  show G _ _ _ _ _ _ _ _ _ _ 838 [(2, .int 3), (1, .int 1), (0, .ref a)] [.int 79, .int 123, .ref (n0 + 47)]
  refine g_iast (t0 := 0) rfl (h_eS e14) (vp_in_nI (n := 123) (by decide) (by decide)) dX12_init_838 ?_
  refine g_gen (fun τ15 e15 => ?_)
  have z15 := h_z2 e15 z14
  have y15 := h_y2 e15 y14
  refine g_iinc (v := 4) dX12_init_839 (k := 0) rfl (by decide) (by decide) rfl ?_
  refine g_goto (tgt := 816) dX12_init_842 (by decide) ?_
  refine g_iload_n dX12_init_816 rfl (List.mem_of_getElem? (i := 0) rfl) ?_
  refine g_iconst (v := 5) dX12_init_817 (by decide) ?_
  refine g_icmp_ge (tgt := 845) dX12_init_818 (by decide) (fun c818 => absurd c818 (by decide)) (fun c818 => ?_)
  refine g_aload_n dX12_init_821 rfl (List.mem_of_getElem? (i := 2) rfl) ?_
  refine g_get fX12_805 (h_nS e15 (h_al (j := 47) hla) (h_nS e14 (h_al (j := 47) hla) (h_nS e13 (h_al (j := 47) hla) (h_nS e12 (h_al (j := 47) hla) (h_nS e11 (h_al (j := 48) hla) (h_nS e10 (h_al (j := 46) hla) (h_nS e9 (h_al (j := 70) hla) (h_nS e8 (h_al (j := 47) hla) (h_nS e7 (h_al (j := 47) hla) (h_nS e6 (h_al (j := 47) hla) (h_nS e5 (h_al (j := 47) hla) (h_nS e4 (h_al (j := 47) hla) (h_nS e3 (h_al (j := 48) hla) (h_nS e2 (h_al (j := 46) hla) (h_nS e1 (h_al (j := 70) hla) ha))))))))))))))) (v := .ref (n0 + 47)) (mFs_get (by decide) rfl) dX12_init_822 ?_
  refine g_bipush (v := 120) dX12_init_825 (by decide) ?_
  refine g_iload_n dX12_init_827 rfl (List.mem_of_getElem? (i := 1) rfl) ?_
  refine g_imul dX12_init_828 ?_
  refine g_eqi (120) (by decide) ?_
  refine g_iload_n dX12_init_829 rfl (List.mem_of_getElem? (i := 0) rfl) ?_
  refine g_iadd dX12_init_830 ?_
  refine g_eqi (124) (by decide) ?_
  refine g_ldcwS (q := sq) (fun U H hz => hsk U H hz) dX12_init_831 ?_
  refine g_iload_n dX12_init_834 rfl (List.mem_of_getElem? (i := 0) rfl) ?_
  refine g_cv (d1 := 3) (As := [.int 4]) (st := [.int 124, .ref (n0 + 47)]) (ct_charAt hs hib (k := 4) (by decide) (by decide) IBX_b (by omega)) hib.rc kJ0_charAt_5068e lX12_64 sJ0_charAt_5068e (by omega) (Nat.le_of_ble_eq_true rfl) dX12_init_835 (fun τ835 v835 h835 z835 => ?_)
  obtain ⟨rfl, rfl⟩ := h835
  show G _ _ _ _ _ _ _ _ _ _ 838 [(2, .int 4), (1, .int 1), (0, .ref a)] [.int 88, .int 124, .ref (n0 + 47)]
  refine g_iast (t0 := 0) rfl (h_eS e15) (vp_in_nI (n := 124) (by decide) (by decide)) dX12_init_838 ?_
  refine g_gen (fun τ16 e16 => ?_)
  have z16 := h_z2 e16 z15
  have y16 := h_y2 e16 y15
  refine g_iinc (v := 5) dX12_init_839 (k := 0) rfl (by decide) (by decide) rfl ?_
  refine g_goto (tgt := 816) dX12_init_842 (by decide) ?_
  refine g_iload_n dX12_init_816 rfl (List.mem_of_getElem? (i := 0) rfl) ?_
  refine g_iconst (v := 5) dX12_init_817 (by decide) ?_
  refine g_icmp_ge (tgt := 845) dX12_init_818 (by decide) (fun c818 => ?_) (fun c818 => absurd (by decide) c818)
  refine g_iinc (v := 2) dX12_init_845 (k := 1) rfl (by decide) (by decide) rfl ?_
  refine g_goto (tgt := 785) dX12_init_848 (by decide) ?_
  refine g_iload_n dX12_init_785 rfl (List.mem_of_getElem? (i := 0) rfl) ?_
  refine g_iconst (v := 4) dX12_init_786 (by decide) ?_
  refine g_icmp_ge (tgt := 851) dX12_init_787 (by decide) (fun c787 => absurd c787 (by decide)) (fun c787 => ?_)
  refine g_aload_n dX12_init_790 rfl (List.mem_of_getElem? (i := 2) rfl) ?_
  refine g_get fX12_926 (h_nS e16 (h_al (j := 47) hla) (h_nS e15 (h_al (j := 47) hla) (h_nS e14 (h_al (j := 47) hla) (h_nS e13 (h_al (j := 47) hla) (h_nS e12 (h_al (j := 47) hla) (h_nS e11 (h_al (j := 48) hla) (h_nS e10 (h_al (j := 46) hla) (h_nS e9 (h_al (j := 70) hla) (h_nS e8 (h_al (j := 47) hla) (h_nS e7 (h_al (j := 47) hla) (h_nS e6 (h_al (j := 47) hla) (h_nS e5 (h_al (j := 47) hla) (h_nS e4 (h_al (j := 47) hla) (h_nS e3 (h_al (j := 48) hla) (h_nS e2 (h_al (j := 46) hla) (h_nS e1 (h_al (j := 70) hla) ha)))))))))))))))) (v := .ref (n0 + 70)) (mFs_get (by decide) rfl) dX12_init_791 ?_
  refine g_iload_n dX12_init_794 rfl (List.mem_of_getElem? (i := 0) rfl) ?_
  refine g_iconst (v := -1) dX12_init_795 (by decide) ?_
  refine g_iast (t0 := 0) rfl (h_nS e16 (h_ad (n := n0) (i := 70) (j := 47) (by decide)) (h_nS e15 (h_ad (n := n0) (i := 70) (j := 47) (by decide)) (h_nS e14 (h_ad (n := n0) (i := 70) (j := 47) (by decide)) (h_nS e13 (h_ad (n := n0) (i := 70) (j := 47) (by decide)) (h_nS e12 (h_ad (n := n0) (i := 70) (j := 47) (by decide)) (h_nS e11 (h_ad (n := n0) (i := 70) (j := 48) (by decide)) (h_nS e10 (h_ad (n := n0) (i := 70) (j := 46) (by decide)) (h_eS e9)))))))) (vp_in_nI (n := 2) (by decide) (by decide)) dX12_init_796 ?_
  refine g_gen (fun τ17 e17 => ?_)
  have z17 := h_z2 e17 z16
  have y17 := h_y2 e17 y16
  refine g_aload_n dX12_init_797 rfl (List.mem_of_getElem? (i := 2) rfl) ?_
  refine g_get fX12_796 (h_nS e17 (h_al (j := 70) hla) (h_nS e16 (h_al (j := 47) hla) (h_nS e15 (h_al (j := 47) hla) (h_nS e14 (h_al (j := 47) hla) (h_nS e13 (h_al (j := 47) hla) (h_nS e12 (h_al (j := 47) hla) (h_nS e11 (h_al (j := 48) hla) (h_nS e10 (h_al (j := 46) hla) (h_nS e9 (h_al (j := 70) hla) (h_nS e8 (h_al (j := 47) hla) (h_nS e7 (h_al (j := 47) hla) (h_nS e6 (h_al (j := 47) hla) (h_nS e5 (h_al (j := 47) hla) (h_nS e4 (h_al (j := 47) hla) (h_nS e3 (h_al (j := 48) hla) (h_nS e2 (h_al (j := 46) hla) (h_nS e1 (h_al (j := 70) hla) ha))))))))))))))))) (v := .ref (n0 + 46)) (mFs_get (by decide) rfl) dX12_init_798 ?_
  refine g_iload_n dX12_init_801 rfl (List.mem_of_getElem? (i := 0) rfl) ?_
  refine g_iconst (v := 1) dX12_init_802 (by decide) ?_
  refine g_iast (t0 := 0) rfl (h_nS e17 (h_ad (n := n0) (i := 46) (j := 70) (by decide)) (h_nS e16 (h_ad (n := n0) (i := 46) (j := 47) (by decide)) (h_nS e15 (h_ad (n := n0) (i := 46) (j := 47) (by decide)) (h_nS e14 (h_ad (n := n0) (i := 46) (j := 47) (by decide)) (h_nS e13 (h_ad (n := n0) (i := 46) (j := 47) (by decide)) (h_nS e12 (h_ad (n := n0) (i := 46) (j := 47) (by decide)) (h_nS e11 (h_ad (n := n0) (i := 46) (j := 48) (by decide)) (h_eS e10)))))))) (vp_in_nI (n := 2) (by decide) (by decide)) dX12_init_803 ?_
  refine g_gen (fun τ18 e18 => ?_)
  have z18 := h_z2 e18 z17
  have y18 := h_y2 e18 y17
  refine g_aload_n dX12_init_804 rfl (List.mem_of_getElem? (i := 2) rfl) ?_
  refine g_get fX12_802 (h_nS e18 (h_al (j := 46) hla) (h_nS e17 (h_al (j := 70) hla) (h_nS e16 (h_al (j := 47) hla) (h_nS e15 (h_al (j := 47) hla) (h_nS e14 (h_al (j := 47) hla) (h_nS e13 (h_al (j := 47) hla) (h_nS e12 (h_al (j := 47) hla) (h_nS e11 (h_al (j := 48) hla) (h_nS e10 (h_al (j := 46) hla) (h_nS e9 (h_al (j := 70) hla) (h_nS e8 (h_al (j := 47) hla) (h_nS e7 (h_al (j := 47) hla) (h_nS e6 (h_al (j := 47) hla) (h_nS e5 (h_al (j := 47) hla) (h_nS e4 (h_al (j := 47) hla) (h_nS e3 (h_al (j := 48) hla) (h_nS e2 (h_al (j := 46) hla) (h_nS e1 (h_al (j := 70) hla) ha)))))))))))))))))) (v := .ref (n0 + 48)) (mFs_get (by decide) rfl) dX12_init_805 ?_
  refine g_bipush (v := 6) dX12_init_808 (by decide) ?_
  refine g_iload_n dX12_init_810 rfl (List.mem_of_getElem? (i := 0) rfl) ?_
  refine g_imul dX12_init_811 ?_
  refine g_eqi (12) (by decide) ?_
  refine g_iconst (v := 5) dX12_init_812 (by decide) ?_
  refine g_iast (t0 := 0) rfl (h_nS e18 (h_ad (n := n0) (i := 48) (j := 46) (by decide)) (h_nS e17 (h_ad (n := n0) (i := 48) (j := 70) (by decide)) (h_nS e16 (h_ad (n := n0) (i := 48) (j := 47) (by decide)) (h_nS e15 (h_ad (n := n0) (i := 48) (j := 47) (by decide)) (h_nS e14 (h_ad (n := n0) (i := 48) (j := 47) (by decide)) (h_nS e13 (h_ad (n := n0) (i := 48) (j := 47) (by decide)) (h_nS e12 (h_ad (n := n0) (i := 48) (j := 47) (by decide)) (h_eS e11)))))))) (vp_in_nI (n := 12) (by decide) (by decide)) dX12_init_813 ?_
  refine g_gen (fun τ19 e19 => ?_)
  have z19 := h_z2 e19 z18
  have y19 := h_y2 e19 y18
  refine g_iconst (v := 0) dX12_init_814 (by decide) ?_
  refine g_istore_n dX12_init_815 rfl (by decide) rfl ?_
  refine g_iload_n dX12_init_816 rfl (List.mem_of_getElem? (i := 0) rfl) ?_
  refine g_iconst (v := 5) dX12_init_817 (by decide) ?_
  refine g_icmp_ge (tgt := 845) dX12_init_818 (by decide) (fun c818 => absurd c818 (by decide)) (fun c818 => ?_)
  refine g_aload_n dX12_init_821 rfl (List.mem_of_getElem? (i := 2) rfl) ?_
  refine g_get fX12_805 (h_nS e19 (h_al (j := 48) hla) (h_nS e18 (h_al (j := 46) hla) (h_nS e17 (h_al (j := 70) hla) (h_nS e16 (h_al (j := 47) hla) (h_nS e15 (h_al (j := 47) hla) (h_nS e14 (h_al (j := 47) hla) (h_nS e13 (h_al (j := 47) hla) (h_nS e12 (h_al (j := 47) hla) (h_nS e11 (h_al (j := 48) hla) (h_nS e10 (h_al (j := 46) hla) (h_nS e9 (h_al (j := 70) hla) (h_nS e8 (h_al (j := 47) hla) (h_nS e7 (h_al (j := 47) hla) (h_nS e6 (h_al (j := 47) hla) (h_nS e5 (h_al (j := 47) hla) (h_nS e4 (h_al (j := 47) hla) (h_nS e3 (h_al (j := 48) hla) (h_nS e2 (h_al (j := 46) hla) (h_nS e1 (h_al (j := 70) hla) ha))))))))))))))))))) (v := .ref (n0 + 47)) (mFs_get (by decide) rfl) dX12_init_822 ?_
  refine g_bipush (v := 120) dX12_init_825 (by decide) ?_
  refine g_iload_n dX12_init_827 rfl (List.mem_of_getElem? (i := 1) rfl) ?_
  refine g_imul dX12_init_828 ?_
  refine g_eqi (240) (by decide) ?_
  refine g_iload_n dX12_init_829 rfl (List.mem_of_getElem? (i := 0) rfl) ?_
  refine g_iadd dX12_init_830 ?_
  refine g_eqi (240) (by decide) ?_
  refine g_ldcwS (q := sq) (fun U H hz => hsk U H hz) dX12_init_831 ?_
  refine g_iload_n dX12_init_834 rfl (List.mem_of_getElem? (i := 0) rfl) ?_
  refine g_cv (d1 := 3) (As := [.int 0]) (st := [.int 240, .ref (n0 + 47)]) (ct_charAt hs hib (k := 0) (by decide) (by decide) IBX_b (by omega)) hib.rc kJ0_charAt_5068e lX12_64 sJ0_charAt_5068e (by omega) (Nat.le_of_ble_eq_true rfl) dX12_init_835 (fun τ835 v835 h835 z835 => ?_)
  obtain ⟨rfl, rfl⟩ := h835
  show G _ _ _ _ _ _ _ _ _ _ 838 [(2, .int 0), (1, .int 2), (0, .ref a)] [.int 73, .int 240, .ref (n0 + 47)]
  refine g_iast (t0 := 0) rfl (h_nS e19 (h_ad (n := n0) (i := 47) (j := 48) (by decide)) (h_nS e18 (h_ad (n := n0) (i := 47) (j := 46) (by decide)) (h_nS e17 (h_ad (n := n0) (i := 47) (j := 70) (by decide)) (h_eS e16)))) (vp_in_nI (n := 240) (by decide) (by decide)) dX12_init_838 ?_
  refine g_gen (fun τ20 e20 => ?_)
  have z20 := h_z2 e20 z19
  have y20 := h_y2 e20 y19
  refine g_iinc (v := 1) dX12_init_839 (k := 0) rfl (by decide) (by decide) rfl ?_
  refine g_goto (tgt := 816) dX12_init_842 (by decide) ?_
  refine g_iload_n dX12_init_816 rfl (List.mem_of_getElem? (i := 0) rfl) ?_
  refine g_iconst (v := 5) dX12_init_817 (by decide) ?_
  refine g_icmp_ge (tgt := 845) dX12_init_818 (by decide) (fun c818 => absurd c818 (by decide)) (fun c818 => ?_)
  refine g_aload_n dX12_init_821 rfl (List.mem_of_getElem? (i := 2) rfl) ?_
  refine g_get fX12_805 (h_nS e20 (h_al (j := 47) hla) (h_nS e19 (h_al (j := 48) hla) (h_nS e18 (h_al (j := 46) hla) (h_nS e17 (h_al (j := 70) hla) (h_nS e16 (h_al (j := 47) hla) (h_nS e15 (h_al (j := 47) hla) (h_nS e14 (h_al (j := 47) hla) (h_nS e13 (h_al (j := 47) hla) (h_nS e12 (h_al (j := 47) hla) (h_nS e11 (h_al (j := 48) hla) (h_nS e10 (h_al (j := 46) hla) (h_nS e9 (h_al (j := 70) hla) (h_nS e8 (h_al (j := 47) hla) (h_nS e7 (h_al (j := 47) hla) (h_nS e6 (h_al (j := 47) hla) (h_nS e5 (h_al (j := 47) hla) (h_nS e4 (h_al (j := 47) hla) (h_nS e3 (h_al (j := 48) hla) (h_nS e2 (h_al (j := 46) hla) (h_nS e1 (h_al (j := 70) hla) ha)))))))))))))))))))) (v := .ref (n0 + 47)) (mFs_get (by decide) rfl) dX12_init_822 ?_
  refine g_bipush (v := 120) dX12_init_825 (by decide) ?_
  refine g_iload_n dX12_init_827 rfl (List.mem_of_getElem? (i := 1) rfl) ?_
  refine g_imul dX12_init_828 ?_
  refine g_eqi (240) (by decide) ?_
  refine g_iload_n dX12_init_829 rfl (List.mem_of_getElem? (i := 0) rfl) ?_
  refine g_iadd dX12_init_830 ?_
  refine g_eqi (241) (by decide) ?_
  refine g_ldcwS (q := sq) (fun U H hz => hsk U H hz) dX12_init_831 ?_
  refine g_iload_n dX12_init_834 rfl (List.mem_of_getElem? (i := 0) rfl) ?_
  refine g_cv (d1 := 3) (As := [.int 1]) (st := [.int 241, .ref (n0 + 47)]) (ct_charAt hs hib (k := 1) (by decide) (by decide) IBX_b (by omega)) hib.rc kJ0_charAt_5068e lX12_64 sJ0_charAt_5068e (by omega) (Nat.le_of_ble_eq_true rfl) dX12_init_835 (fun τ835 v835 h835 z835 => ?_)
  obtain ⟨rfl, rfl⟩ := h835
  show G _ _ _ _ _ _ _ _ _ _ 838 [(2, .int 1), (1, .int 2), (0, .ref a)] [.int 78, .int 241, .ref (n0 + 47)]
  refine g_iast (t0 := 0) rfl (h_eS e20) (vp_in_nI (n := 241) (by decide) (by decide)) dX12_init_838 ?_
  refine g_gen (fun τ21 e21 => ?_)
  have z21 := h_z2 e21 z20
  have y21 := h_y2 e21 y20
  refine g_iinc (v := 2) dX12_init_839 (k := 0) rfl (by decide) (by decide) rfl ?_
  refine g_goto (tgt := 816) dX12_init_842 (by decide) ?_
  refine g_iload_n dX12_init_816 rfl (List.mem_of_getElem? (i := 0) rfl) ?_
  refine g_iconst (v := 5) dX12_init_817 (by decide) ?_
  refine g_icmp_ge (tgt := 845) dX12_init_818 (by decide) (fun c818 => absurd c818 (by decide)) (fun c818 => ?_)
  refine g_aload_n dX12_init_821 rfl (List.mem_of_getElem? (i := 2) rfl) ?_
  refine g_get fX12_805 (h_nS e21 (h_al (j := 47) hla) (h_nS e20 (h_al (j := 47) hla) (h_nS e19 (h_al (j := 48) hla) (h_nS e18 (h_al (j := 46) hla) (h_nS e17 (h_al (j := 70) hla) (h_nS e16 (h_al (j := 47) hla) (h_nS e15 (h_al (j := 47) hla) (h_nS e14 (h_al (j := 47) hla) (h_nS e13 (h_al (j := 47) hla) (h_nS e12 (h_al (j := 47) hla) (h_nS e11 (h_al (j := 48) hla) (h_nS e10 (h_al (j := 46) hla) (h_nS e9 (h_al (j := 70) hla) (h_nS e8 (h_al (j := 47) hla) (h_nS e7 (h_al (j := 47) hla) (h_nS e6 (h_al (j := 47) hla) (h_nS e5 (h_al (j := 47) hla) (h_nS e4 (h_al (j := 47) hla) (h_nS e3 (h_al (j := 48) hla) (h_nS e2 (h_al (j := 46) hla) (h_nS e1 (h_al (j := 70) hla) ha))))))))))))))))))))) (v := .ref (n0 + 47)) (mFs_get (by decide) rfl) dX12_init_822 ?_
  refine g_bipush (v := 120) dX12_init_825 (by decide) ?_
  refine g_iload_n dX12_init_827 rfl (List.mem_of_getElem? (i := 1) rfl) ?_
  refine g_imul dX12_init_828 ?_
  refine g_eqi (240) (by decide) ?_
  refine g_iload_n dX12_init_829 rfl (List.mem_of_getElem? (i := 0) rfl) ?_
  refine g_iadd dX12_init_830 ?_
  refine g_eqi (242) (by decide) ?_
  refine g_ldcwS (q := sq) (fun U H hz => hsk U H hz) dX12_init_831 ?_
  refine g_iload_n dX12_init_834 rfl (List.mem_of_getElem? (i := 0) rfl) ?_
  refine g_cv (d1 := 3) (As := [.int 2]) (st := [.int 242, .ref (n0 + 47)]) (ct_charAt hs hib (k := 2) (by decide) (by decide) IBX_b (by omega)) hib.rc kJ0_charAt_5068e lX12_64 sJ0_charAt_5068e (by omega) (Nat.le_of_ble_eq_true rfl) dX12_init_835 (fun τ835 v835 h835 z835 => ?_)
  obtain ⟨rfl, rfl⟩ := h835
  show G _ _ _ _ _ _ _ _ _ _ 838 [(2, .int 2), (1, .int 2), (0, .ref a)] [.int 66, .int 242, .ref (n0 + 47)]
  refine g_iast (t0 := 0) rfl (h_eS e21) (vp_in_nI (n := 242) (by decide) (by decide)) dX12_init_838 ?_
  refine g_gen (fun τ22 e22 => ?_)
  have z22 := h_z2 e22 z21
  have y22 := h_y2 e22 y21
  refine g_iinc (v := 3) dX12_init_839 (k := 0) rfl (by decide) (by decide) rfl ?_
  refine g_goto (tgt := 816) dX12_init_842 (by decide) ?_
  refine g_iload_n dX12_init_816 rfl (List.mem_of_getElem? (i := 0) rfl) ?_
  refine g_iconst (v := 5) dX12_init_817 (by decide) ?_
  refine g_icmp_ge (tgt := 845) dX12_init_818 (by decide) (fun c818 => absurd c818 (by decide)) (fun c818 => ?_)
  refine g_aload_n dX12_init_821 rfl (List.mem_of_getElem? (i := 2) rfl) ?_
  refine g_get fX12_805 (h_nS e22 (h_al (j := 47) hla) (h_nS e21 (h_al (j := 47) hla) (h_nS e20 (h_al (j := 47) hla) (h_nS e19 (h_al (j := 48) hla) (h_nS e18 (h_al (j := 46) hla) (h_nS e17 (h_al (j := 70) hla) (h_nS e16 (h_al (j := 47) hla) (h_nS e15 (h_al (j := 47) hla) (h_nS e14 (h_al (j := 47) hla) (h_nS e13 (h_al (j := 47) hla) (h_nS e12 (h_al (j := 47) hla) (h_nS e11 (h_al (j := 48) hla) (h_nS e10 (h_al (j := 46) hla) (h_nS e9 (h_al (j := 70) hla) (h_nS e8 (h_al (j := 47) hla) (h_nS e7 (h_al (j := 47) hla) (h_nS e6 (h_al (j := 47) hla) (h_nS e5 (h_al (j := 47) hla) (h_nS e4 (h_al (j := 47) hla) (h_nS e3 (h_al (j := 48) hla) (h_nS e2 (h_al (j := 46) hla) (h_nS e1 (h_al (j := 70) hla) ha)))))))))))))))))))))) (v := .ref (n0 + 47)) (mFs_get (by decide) rfl) dX12_init_822 ?_
  refine g_bipush (v := 120) dX12_init_825 (by decide) ?_
  refine g_iload_n dX12_init_827 rfl (List.mem_of_getElem? (i := 1) rfl) ?_
  refine g_imul dX12_init_828 ?_
  refine g_eqi (240) (by decide) ?_
  refine g_iload_n dX12_init_829 rfl (List.mem_of_getElem? (i := 0) rfl) ?_
  refine g_iadd dX12_init_830 ?_
  refine g_eqi (243) (by decide) ?_
  refine g_ldcwS (q := sq) (fun U H hz => hsk U H hz) dX12_init_831 ?_
  refine g_iload_n dX12_init_834 rfl (List.mem_of_getElem? (i := 0) rfl) ?_
  refine g_cv (d1 := 3) (As := [.int 3]) (st := [.int 243, .ref (n0 + 47)]) (ct_charAt hs hib (k := 3) (by decide) (by decide) IBX_b (by omega)) hib.rc kJ0_charAt_5068e lX12_64 sJ0_charAt_5068e (by omega) (Nat.le_of_ble_eq_true rfl) dX12_init_835 (fun τ835 v835 h835 z835 => ?_)
  obtain ⟨rfl, rfl⟩ := h835
  show G _ _ _ _ _ _ _ _ _ _ 838 [(2, .int 3), (1, .int 2), (0, .ref a)] [.int 79, .int 243, .ref (n0 + 47)]
  refine g_iast (t0 := 0) rfl (h_eS e22) (vp_in_nI (n := 243) (by decide) (by decide)) dX12_init_838 ?_
  refine g_gen (fun τ23 e23 => ?_)
  have z23 := h_z2 e23 z22
  have y23 := h_y2 e23 y22
  refine g_iinc (v := 4) dX12_init_839 (k := 0) rfl (by decide) (by decide) rfl ?_
  refine g_goto (tgt := 816) dX12_init_842 (by decide) ?_
  refine g_iload_n dX12_init_816 rfl (List.mem_of_getElem? (i := 0) rfl) ?_
  refine g_iconst (v := 5) dX12_init_817 (by decide) ?_
  refine g_icmp_ge (tgt := 845) dX12_init_818 (by decide) (fun c818 => absurd c818 (by decide)) (fun c818 => ?_)
  refine g_aload_n dX12_init_821 rfl (List.mem_of_getElem? (i := 2) rfl) ?_
  refine g_get fX12_805 (h_nS e23 (h_al (j := 47) hla) (h_nS e22 (h_al (j := 47) hla) (h_nS e21 (h_al (j := 47) hla) (h_nS e20 (h_al (j := 47) hla) (h_nS e19 (h_al (j := 48) hla) (h_nS e18 (h_al (j := 46) hla) (h_nS e17 (h_al (j := 70) hla) (h_nS e16 (h_al (j := 47) hla) (h_nS e15 (h_al (j := 47) hla) (h_nS e14 (h_al (j := 47) hla) (h_nS e13 (h_al (j := 47) hla) (h_nS e12 (h_al (j := 47) hla) (h_nS e11 (h_al (j := 48) hla) (h_nS e10 (h_al (j := 46) hla) (h_nS e9 (h_al (j := 70) hla) (h_nS e8 (h_al (j := 47) hla) (h_nS e7 (h_al (j := 47) hla) (h_nS e6 (h_al (j := 47) hla) (h_nS e5 (h_al (j := 47) hla) (h_nS e4 (h_al (j := 47) hla) (h_nS e3 (h_al (j := 48) hla) (h_nS e2 (h_al (j := 46) hla) (h_nS e1 (h_al (j := 70) hla) ha))))))))))))))))))))))) (v := .ref (n0 + 47)) (mFs_get (by decide) rfl) dX12_init_822 ?_
  refine g_bipush (v := 120) dX12_init_825 (by decide) ?_
  refine g_iload_n dX12_init_827 rfl (List.mem_of_getElem? (i := 1) rfl) ?_
  refine g_imul dX12_init_828 ?_
  refine g_eqi (240) (by decide) ?_
  refine g_iload_n dX12_init_829 rfl (List.mem_of_getElem? (i := 0) rfl) ?_
  refine g_iadd dX12_init_830 ?_
  refine g_eqi (244) (by decide) ?_
  refine g_ldcwS (q := sq) (fun U H hz => hsk U H hz) dX12_init_831 ?_
  refine g_iload_n dX12_init_834 rfl (List.mem_of_getElem? (i := 0) rfl) ?_
  refine g_cv (d1 := 3) (As := [.int 4]) (st := [.int 244, .ref (n0 + 47)]) (ct_charAt hs hib (k := 4) (by decide) (by decide) IBX_b (by omega)) hib.rc kJ0_charAt_5068e lX12_64 sJ0_charAt_5068e (by omega) (Nat.le_of_ble_eq_true rfl) dX12_init_835 (fun τ835 v835 h835 z835 => ?_)
  obtain ⟨rfl, rfl⟩ := h835
  show G _ _ _ _ _ _ _ _ _ _ 838 [(2, .int 4), (1, .int 2), (0, .ref a)] [.int 88, .int 244, .ref (n0 + 47)]
  refine g_iast (t0 := 0) rfl (h_eS e23) (vp_in_nI (n := 244) (by decide) (by decide)) dX12_init_838 ?_
  refine g_gen (fun τ24 e24 => ?_)
  have z24 := h_z2 e24 z23
  have y24 := h_y2 e24 y23
  refine g_iinc (v := 5) dX12_init_839 (k := 0) rfl (by decide) (by decide) rfl ?_
  refine g_goto (tgt := 816) dX12_init_842 (by decide) ?_
  refine g_iload_n dX12_init_816 rfl (List.mem_of_getElem? (i := 0) rfl) ?_
  refine g_iconst (v := 5) dX12_init_817 (by decide) ?_
  refine g_icmp_ge (tgt := 845) dX12_init_818 (by decide) (fun c818 => ?_) (fun c818 => absurd (by decide) c818)
  refine g_iinc (v := 3) dX12_init_845 (k := 1) rfl (by decide) (by decide) rfl ?_
  refine g_goto (tgt := 785) dX12_init_848 (by decide) ?_
  refine g_iload_n dX12_init_785 rfl (List.mem_of_getElem? (i := 0) rfl) ?_
  refine g_iconst (v := 4) dX12_init_786 (by decide) ?_
  refine g_icmp_ge (tgt := 851) dX12_init_787 (by decide) (fun c787 => absurd c787 (by decide)) (fun c787 => ?_)
  refine g_aload_n dX12_init_790 rfl (List.mem_of_getElem? (i := 2) rfl) ?_
  refine g_get fX12_926 (h_nS e24 (h_al (j := 47) hla) (h_nS e23 (h_al (j := 47) hla) (h_nS e22 (h_al (j := 47) hla) (h_nS e21 (h_al (j := 47) hla) (h_nS e20 (h_al (j := 47) hla) (h_nS e19 (h_al (j := 48) hla) (h_nS e18 (h_al (j := 46) hla) (h_nS e17 (h_al (j := 70) hla) (h_nS e16 (h_al (j := 47) hla) (h_nS e15 (h_al (j := 47) hla) (h_nS e14 (h_al (j := 47) hla) (h_nS e13 (h_al (j := 47) hla) (h_nS e12 (h_al (j := 47) hla) (h_nS e11 (h_al (j := 48) hla) (h_nS e10 (h_al (j := 46) hla) (h_nS e9 (h_al (j := 70) hla) (h_nS e8 (h_al (j := 47) hla) (h_nS e7 (h_al (j := 47) hla) (h_nS e6 (h_al (j := 47) hla) (h_nS e5 (h_al (j := 47) hla) (h_nS e4 (h_al (j := 47) hla) (h_nS e3 (h_al (j := 48) hla) (h_nS e2 (h_al (j := 46) hla) (h_nS e1 (h_al (j := 70) hla) ha)))))))))))))))))))))))) (v := .ref (n0 + 70)) (mFs_get (by decide) rfl) dX12_init_791 ?_
  refine g_iload_n dX12_init_794 rfl (List.mem_of_getElem? (i := 0) rfl) ?_
  refine g_iconst (v := -1) dX12_init_795 (by decide) ?_
  refine g_iast (t0 := 0) rfl (h_nS e24 (h_ad (n := n0) (i := 70) (j := 47) (by decide)) (h_nS e23 (h_ad (n := n0) (i := 70) (j := 47) (by decide)) (h_nS e22 (h_ad (n := n0) (i := 70) (j := 47) (by decide)) (h_nS e21 (h_ad (n := n0) (i := 70) (j := 47) (by decide)) (h_nS e20 (h_ad (n := n0) (i := 70) (j := 47) (by decide)) (h_nS e19 (h_ad (n := n0) (i := 70) (j := 48) (by decide)) (h_nS e18 (h_ad (n := n0) (i := 70) (j := 46) (by decide)) (h_eS e17)))))))) (vp_in_nI (n := 3) (by decide) (by decide)) dX12_init_796 ?_
  refine g_gen (fun τ25 e25 => ?_)
  have z25 := h_z2 e25 z24
  have y25 := h_y2 e25 y24
  refine g_aload_n dX12_init_797 rfl (List.mem_of_getElem? (i := 2) rfl) ?_
  refine g_get fX12_796 (h_nS e25 (h_al (j := 70) hla) (h_nS e24 (h_al (j := 47) hla) (h_nS e23 (h_al (j := 47) hla) (h_nS e22 (h_al (j := 47) hla) (h_nS e21 (h_al (j := 47) hla) (h_nS e20 (h_al (j := 47) hla) (h_nS e19 (h_al (j := 48) hla) (h_nS e18 (h_al (j := 46) hla) (h_nS e17 (h_al (j := 70) hla) (h_nS e16 (h_al (j := 47) hla) (h_nS e15 (h_al (j := 47) hla) (h_nS e14 (h_al (j := 47) hla) (h_nS e13 (h_al (j := 47) hla) (h_nS e12 (h_al (j := 47) hla) (h_nS e11 (h_al (j := 48) hla) (h_nS e10 (h_al (j := 46) hla) (h_nS e9 (h_al (j := 70) hla) (h_nS e8 (h_al (j := 47) hla) (h_nS e7 (h_al (j := 47) hla) (h_nS e6 (h_al (j := 47) hla) (h_nS e5 (h_al (j := 47) hla) (h_nS e4 (h_al (j := 47) hla) (h_nS e3 (h_al (j := 48) hla) (h_nS e2 (h_al (j := 46) hla) (h_nS e1 (h_al (j := 70) hla) ha))))))))))))))))))))))))) (v := .ref (n0 + 46)) (mFs_get (by decide) rfl) dX12_init_798 ?_
  refine g_iload_n dX12_init_801 rfl (List.mem_of_getElem? (i := 0) rfl) ?_
  refine g_iconst (v := 1) dX12_init_802 (by decide) ?_
  refine g_iast (t0 := 0) rfl (h_nS e25 (h_ad (n := n0) (i := 46) (j := 70) (by decide)) (h_nS e24 (h_ad (n := n0) (i := 46) (j := 47) (by decide)) (h_nS e23 (h_ad (n := n0) (i := 46) (j := 47) (by decide)) (h_nS e22 (h_ad (n := n0) (i := 46) (j := 47) (by decide)) (h_nS e21 (h_ad (n := n0) (i := 46) (j := 47) (by decide)) (h_nS e20 (h_ad (n := n0) (i := 46) (j := 47) (by decide)) (h_nS e19 (h_ad (n := n0) (i := 46) (j := 48) (by decide)) (h_eS e18)))))))) (vp_in_nI (n := 3) (by decide) (by decide)) dX12_init_803 ?_
  refine g_gen (fun τ26 e26 => ?_)
  have z26 := h_z2 e26 z25
  have y26 := h_y2 e26 y25
  refine g_aload_n dX12_init_804 rfl (List.mem_of_getElem? (i := 2) rfl) ?_
  refine g_get fX12_802 (h_nS e26 (h_al (j := 46) hla) (h_nS e25 (h_al (j := 70) hla) (h_nS e24 (h_al (j := 47) hla) (h_nS e23 (h_al (j := 47) hla) (h_nS e22 (h_al (j := 47) hla) (h_nS e21 (h_al (j := 47) hla) (h_nS e20 (h_al (j := 47) hla) (h_nS e19 (h_al (j := 48) hla) (h_nS e18 (h_al (j := 46) hla) (h_nS e17 (h_al (j := 70) hla) (h_nS e16 (h_al (j := 47) hla) (h_nS e15 (h_al (j := 47) hla) (h_nS e14 (h_al (j := 47) hla) (h_nS e13 (h_al (j := 47) hla) (h_nS e12 (h_al (j := 47) hla) (h_nS e11 (h_al (j := 48) hla) (h_nS e10 (h_al (j := 46) hla) (h_nS e9 (h_al (j := 70) hla) (h_nS e8 (h_al (j := 47) hla) (h_nS e7 (h_al (j := 47) hla) (h_nS e6 (h_al (j := 47) hla) (h_nS e5 (h_al (j := 47) hla) (h_nS e4 (h_al (j := 47) hla) (h_nS e3 (h_al (j := 48) hla) (h_nS e2 (h_al (j := 46) hla) (h_nS e1 (h_al (j := 70) hla) ha)))))))))))))))))))))))))) (v := .ref (n0 + 48)) (mFs_get (by decide) rfl) dX12_init_805 ?_
  refine g_bipush (v := 6) dX12_init_808 (by decide) ?_
  refine g_iload_n dX12_init_810 rfl (List.mem_of_getElem? (i := 0) rfl) ?_
  refine g_imul dX12_init_811 ?_
  refine g_eqi (18) (by decide) ?_
  refine g_iconst (v := 5) dX12_init_812 (by decide) ?_
  refine g_iast (t0 := 0) rfl (h_nS e26 (h_ad (n := n0) (i := 48) (j := 46) (by decide)) (h_nS e25 (h_ad (n := n0) (i := 48) (j := 70) (by decide)) (h_nS e24 (h_ad (n := n0) (i := 48) (j := 47) (by decide)) (h_nS e23 (h_ad (n := n0) (i := 48) (j := 47) (by decide)) (h_nS e22 (h_ad (n := n0) (i := 48) (j := 47) (by decide)) (h_nS e21 (h_ad (n := n0) (i := 48) (j := 47) (by decide)) (h_nS e20 (h_ad (n := n0) (i := 48) (j := 47) (by decide)) (h_eS e19)))))))) (vp_in_nI (n := 18) (by decide) (by decide)) dX12_init_813 ?_
  refine g_gen (fun τ27 e27 => ?_)
  have z27 := h_z2 e27 z26
  have y27 := h_y2 e27 y26
  refine g_iconst (v := 0) dX12_init_814 (by decide) ?_
  refine g_istore_n dX12_init_815 rfl (by decide) rfl ?_
  refine g_iload_n dX12_init_816 rfl (List.mem_of_getElem? (i := 0) rfl) ?_
  refine g_iconst (v := 5) dX12_init_817 (by decide) ?_
  refine g_icmp_ge (tgt := 845) dX12_init_818 (by decide) (fun c818 => absurd c818 (by decide)) (fun c818 => ?_)
  refine g_aload_n dX12_init_821 rfl (List.mem_of_getElem? (i := 2) rfl) ?_
  refine g_get fX12_805 (h_nS e27 (h_al (j := 48) hla) (h_nS e26 (h_al (j := 46) hla) (h_nS e25 (h_al (j := 70) hla) (h_nS e24 (h_al (j := 47) hla) (h_nS e23 (h_al (j := 47) hla) (h_nS e22 (h_al (j := 47) hla) (h_nS e21 (h_al (j := 47) hla) (h_nS e20 (h_al (j := 47) hla) (h_nS e19 (h_al (j := 48) hla) (h_nS e18 (h_al (j := 46) hla) (h_nS e17 (h_al (j := 70) hla) (h_nS e16 (h_al (j := 47) hla) (h_nS e15 (h_al (j := 47) hla) (h_nS e14 (h_al (j := 47) hla) (h_nS e13 (h_al (j := 47) hla) (h_nS e12 (h_al (j := 47) hla) (h_nS e11 (h_al (j := 48) hla) (h_nS e10 (h_al (j := 46) hla) (h_nS e9 (h_al (j := 70) hla) (h_nS e8 (h_al (j := 47) hla) (h_nS e7 (h_al (j := 47) hla) (h_nS e6 (h_al (j := 47) hla) (h_nS e5 (h_al (j := 47) hla) (h_nS e4 (h_al (j := 47) hla) (h_nS e3 (h_al (j := 48) hla) (h_nS e2 (h_al (j := 46) hla) (h_nS e1 (h_al (j := 70) hla) ha))))))))))))))))))))))))))) (v := .ref (n0 + 47)) (mFs_get (by decide) rfl) dX12_init_822 ?_
  refine g_bipush (v := 120) dX12_init_825 (by decide) ?_
  refine g_iload_n dX12_init_827 rfl (List.mem_of_getElem? (i := 1) rfl) ?_
  refine g_imul dX12_init_828 ?_
  refine g_eqi (360) (by decide) ?_
  refine g_iload_n dX12_init_829 rfl (List.mem_of_getElem? (i := 0) rfl) ?_
  refine g_iadd dX12_init_830 ?_
  refine g_eqi (360) (by decide) ?_
  refine g_ldcwS (q := sq) (fun U H hz => hsk U H hz) dX12_init_831 ?_
  refine g_iload_n dX12_init_834 rfl (List.mem_of_getElem? (i := 0) rfl) ?_
  refine g_cv (d1 := 3) (As := [.int 0]) (st := [.int 360, .ref (n0 + 47)]) (ct_charAt hs hib (k := 0) (by decide) (by decide) IBX_b (by omega)) hib.rc kJ0_charAt_5068e lX12_64 sJ0_charAt_5068e (by omega) (Nat.le_of_ble_eq_true rfl) dX12_init_835 (fun τ835 v835 h835 z835 => ?_)
  obtain ⟨rfl, rfl⟩ := h835
  show G _ _ _ _ _ _ _ _ _ _ 838 [(2, .int 0), (1, .int 3), (0, .ref a)] [.int 73, .int 360, .ref (n0 + 47)]
  refine g_iast (t0 := 0) rfl (h_nS e27 (h_ad (n := n0) (i := 47) (j := 48) (by decide)) (h_nS e26 (h_ad (n := n0) (i := 47) (j := 46) (by decide)) (h_nS e25 (h_ad (n := n0) (i := 47) (j := 70) (by decide)) (h_eS e24)))) (vp_in_nI (n := 360) (by decide) (by decide)) dX12_init_838 ?_
  refine g_gen (fun τ28 e28 => ?_)
  have z28 := h_z2 e28 z27
  have y28 := h_y2 e28 y27
  refine g_iinc (v := 1) dX12_init_839 (k := 0) rfl (by decide) (by decide) rfl ?_
  refine g_goto (tgt := 816) dX12_init_842 (by decide) ?_
  refine g_iload_n dX12_init_816 rfl (List.mem_of_getElem? (i := 0) rfl) ?_
  refine g_iconst (v := 5) dX12_init_817 (by decide) ?_
  refine g_icmp_ge (tgt := 845) dX12_init_818 (by decide) (fun c818 => absurd c818 (by decide)) (fun c818 => ?_)
  refine g_aload_n dX12_init_821 rfl (List.mem_of_getElem? (i := 2) rfl) ?_
  refine g_get fX12_805 (h_nS e28 (h_al (j := 47) hla) (h_nS e27 (h_al (j := 48) hla) (h_nS e26 (h_al (j := 46) hla) (h_nS e25 (h_al (j := 70) hla) (h_nS e24 (h_al (j := 47) hla) (h_nS e23 (h_al (j := 47) hla) (h_nS e22 (h_al (j := 47) hla) (h_nS e21 (h_al (j := 47) hla) (h_nS e20 (h_al (j := 47) hla) (h_nS e19 (h_al (j := 48) hla) (h_nS e18 (h_al (j := 46) hla) (h_nS e17 (h_al (j := 70) hla) (h_nS e16 (h_al (j := 47) hla) (h_nS e15 (h_al (j := 47) hla) (h_nS e14 (h_al (j := 47) hla) (h_nS e13 (h_al (j := 47) hla) (h_nS e12 (h_al (j := 47) hla) (h_nS e11 (h_al (j := 48) hla) (h_nS e10 (h_al (j := 46) hla) (h_nS e9 (h_al (j := 70) hla) (h_nS e8 (h_al (j := 47) hla) (h_nS e7 (h_al (j := 47) hla) (h_nS e6 (h_al (j := 47) hla) (h_nS e5 (h_al (j := 47) hla) (h_nS e4 (h_al (j := 47) hla) (h_nS e3 (h_al (j := 48) hla) (h_nS e2 (h_al (j := 46) hla) (h_nS e1 (h_al (j := 70) hla) ha)))))))))))))))))))))))))))) (v := .ref (n0 + 47)) (mFs_get (by decide) rfl) dX12_init_822 ?_
  refine g_bipush (v := 120) dX12_init_825 (by decide) ?_
  refine g_iload_n dX12_init_827 rfl (List.mem_of_getElem? (i := 1) rfl) ?_
  refine g_imul dX12_init_828 ?_
  refine g_eqi (360) (by decide) ?_
  refine g_iload_n dX12_init_829 rfl (List.mem_of_getElem? (i := 0) rfl) ?_
  refine g_iadd dX12_init_830 ?_
  refine g_eqi (361) (by decide) ?_
  refine g_ldcwS (q := sq) (fun U H hz => hsk U H hz) dX12_init_831 ?_
  refine g_iload_n dX12_init_834 rfl (List.mem_of_getElem? (i := 0) rfl) ?_
  refine g_cv (d1 := 3) (As := [.int 1]) (st := [.int 361, .ref (n0 + 47)]) (ct_charAt hs hib (k := 1) (by decide) (by decide) IBX_b (by omega)) hib.rc kJ0_charAt_5068e lX12_64 sJ0_charAt_5068e (by omega) (Nat.le_of_ble_eq_true rfl) dX12_init_835 (fun τ835 v835 h835 z835 => ?_)
  obtain ⟨rfl, rfl⟩ := h835
  show G _ _ _ _ _ _ _ _ _ _ 838 [(2, .int 1), (1, .int 3), (0, .ref a)] [.int 78, .int 361, .ref (n0 + 47)]
  refine g_iast (t0 := 0) rfl (h_eS e28) (vp_in_nI (n := 361) (by decide) (by decide)) dX12_init_838 ?_
  refine g_gen (fun τ29 e29 => ?_)
  have z29 := h_z2 e29 z28
  have y29 := h_y2 e29 y28
  refine g_iinc (v := 2) dX12_init_839 (k := 0) rfl (by decide) (by decide) rfl ?_
  refine g_goto (tgt := 816) dX12_init_842 (by decide) ?_
  refine g_iload_n dX12_init_816 rfl (List.mem_of_getElem? (i := 0) rfl) ?_
  refine g_iconst (v := 5) dX12_init_817 (by decide) ?_
  refine g_icmp_ge (tgt := 845) dX12_init_818 (by decide) (fun c818 => absurd c818 (by decide)) (fun c818 => ?_)
  refine g_aload_n dX12_init_821 rfl (List.mem_of_getElem? (i := 2) rfl) ?_
  refine g_get fX12_805 (h_nS e29 (h_al (j := 47) hla) (h_nS e28 (h_al (j := 47) hla) (h_nS e27 (h_al (j := 48) hla) (h_nS e26 (h_al (j := 46) hla) (h_nS e25 (h_al (j := 70) hla) (h_nS e24 (h_al (j := 47) hla) (h_nS e23 (h_al (j := 47) hla) (h_nS e22 (h_al (j := 47) hla) (h_nS e21 (h_al (j := 47) hla) (h_nS e20 (h_al (j := 47) hla) (h_nS e19 (h_al (j := 48) hla) (h_nS e18 (h_al (j := 46) hla) (h_nS e17 (h_al (j := 70) hla) (h_nS e16 (h_al (j := 47) hla) (h_nS e15 (h_al (j := 47) hla) (h_nS e14 (h_al (j := 47) hla) (h_nS e13 (h_al (j := 47) hla) (h_nS e12 (h_al (j := 47) hla) (h_nS e11 (h_al (j := 48) hla) (h_nS e10 (h_al (j := 46) hla) (h_nS e9 (h_al (j := 70) hla) (h_nS e8 (h_al (j := 47) hla) (h_nS e7 (h_al (j := 47) hla) (h_nS e6 (h_al (j := 47) hla) (h_nS e5 (h_al (j := 47) hla) (h_nS e4 (h_al (j := 47) hla) (h_nS e3 (h_al (j := 48) hla) (h_nS e2 (h_al (j := 46) hla) (h_nS e1 (h_al (j := 70) hla) ha))))))))))))))))))))))))))))) (v := .ref (n0 + 47)) (mFs_get (by decide) rfl) dX12_init_822 ?_
  refine g_bipush (v := 120) dX12_init_825 (by decide) ?_
  refine g_iload_n dX12_init_827 rfl (List.mem_of_getElem? (i := 1) rfl) ?_
  refine g_imul dX12_init_828 ?_
  refine g_eqi (360) (by decide) ?_
  refine g_iload_n dX12_init_829 rfl (List.mem_of_getElem? (i := 0) rfl) ?_
  refine g_iadd dX12_init_830 ?_
  refine g_eqi (362) (by decide) ?_
  refine g_ldcwS (q := sq) (fun U H hz => hsk U H hz) dX12_init_831 ?_
  refine g_iload_n dX12_init_834 rfl (List.mem_of_getElem? (i := 0) rfl) ?_
  refine g_cv (d1 := 3) (As := [.int 2]) (st := [.int 362, .ref (n0 + 47)]) (ct_charAt hs hib (k := 2) (by decide) (by decide) IBX_b (by omega)) hib.rc kJ0_charAt_5068e lX12_64 sJ0_charAt_5068e (by omega) (Nat.le_of_ble_eq_true rfl) dX12_init_835 (fun τ835 v835 h835 z835 => ?_)
  obtain ⟨rfl, rfl⟩ := h835
  show G _ _ _ _ _ _ _ _ _ _ 838 [(2, .int 2), (1, .int 3), (0, .ref a)] [.int 66, .int 362, .ref (n0 + 47)]
  refine g_iast (t0 := 0) rfl (h_eS e29) (vp_in_nI (n := 362) (by decide) (by decide)) dX12_init_838 ?_
  refine g_gen (fun τ30 e30 => ?_)
  have z30 := h_z2 e30 z29
  have y30 := h_y2 e30 y29
  refine g_iinc (v := 3) dX12_init_839 (k := 0) rfl (by decide) (by decide) rfl ?_
  refine g_goto (tgt := 816) dX12_init_842 (by decide) ?_
  refine g_iload_n dX12_init_816 rfl (List.mem_of_getElem? (i := 0) rfl) ?_
  refine g_iconst (v := 5) dX12_init_817 (by decide) ?_
  refine g_icmp_ge (tgt := 845) dX12_init_818 (by decide) (fun c818 => absurd c818 (by decide)) (fun c818 => ?_)
  refine g_aload_n dX12_init_821 rfl (List.mem_of_getElem? (i := 2) rfl) ?_
  refine g_get fX12_805 (h_nS e30 (h_al (j := 47) hla) (h_nS e29 (h_al (j := 47) hla) (h_nS e28 (h_al (j := 47) hla) (h_nS e27 (h_al (j := 48) hla) (h_nS e26 (h_al (j := 46) hla) (h_nS e25 (h_al (j := 70) hla) (h_nS e24 (h_al (j := 47) hla) (h_nS e23 (h_al (j := 47) hla) (h_nS e22 (h_al (j := 47) hla) (h_nS e21 (h_al (j := 47) hla) (h_nS e20 (h_al (j := 47) hla) (h_nS e19 (h_al (j := 48) hla) (h_nS e18 (h_al (j := 46) hla) (h_nS e17 (h_al (j := 70) hla) (h_nS e16 (h_al (j := 47) hla) (h_nS e15 (h_al (j := 47) hla) (h_nS e14 (h_al (j := 47) hla) (h_nS e13 (h_al (j := 47) hla) (h_nS e12 (h_al (j := 47) hla) (h_nS e11 (h_al (j := 48) hla) (h_nS e10 (h_al (j := 46) hla) (h_nS e9 (h_al (j := 70) hla) (h_nS e8 (h_al (j := 47) hla) (h_nS e7 (h_al (j := 47) hla) (h_nS e6 (h_al (j := 47) hla) (h_nS e5 (h_al (j := 47) hla) (h_nS e4 (h_al (j := 47) hla) (h_nS e3 (h_al (j := 48) hla) (h_nS e2 (h_al (j := 46) hla) (h_nS e1 (h_al (j := 70) hla) ha)))))))))))))))))))))))))))))) (v := .ref (n0 + 47)) (mFs_get (by decide) rfl) dX12_init_822 ?_
  refine g_bipush (v := 120) dX12_init_825 (by decide) ?_
  refine g_iload_n dX12_init_827 rfl (List.mem_of_getElem? (i := 1) rfl) ?_
  refine g_imul dX12_init_828 ?_
  refine g_eqi (360) (by decide) ?_
  refine g_iload_n dX12_init_829 rfl (List.mem_of_getElem? (i := 0) rfl) ?_
  refine g_iadd dX12_init_830 ?_
  refine g_eqi (363) (by decide) ?_
  refine g_ldcwS (q := sq) (fun U H hz => hsk U H hz) dX12_init_831 ?_
  refine g_iload_n dX12_init_834 rfl (List.mem_of_getElem? (i := 0) rfl) ?_
  refine g_cv (d1 := 3) (As := [.int 3]) (st := [.int 363, .ref (n0 + 47)]) (ct_charAt hs hib (k := 3) (by decide) (by decide) IBX_b (by omega)) hib.rc kJ0_charAt_5068e lX12_64 sJ0_charAt_5068e (by omega) (Nat.le_of_ble_eq_true rfl) dX12_init_835 (fun τ835 v835 h835 z835 => ?_)
  obtain ⟨rfl, rfl⟩ := h835
  show G _ _ _ _ _ _ _ _ _ _ 838 [(2, .int 3), (1, .int 3), (0, .ref a)] [.int 79, .int 363, .ref (n0 + 47)]
  refine g_iast (t0 := 0) rfl (h_eS e30) (vp_in_nI (n := 363) (by decide) (by decide)) dX12_init_838 ?_
  refine g_gen (fun τ31 e31 => ?_)
  have z31 := h_z2 e31 z30
  have y31 := h_y2 e31 y30
  refine g_iinc (v := 4) dX12_init_839 (k := 0) rfl (by decide) (by decide) rfl ?_
  refine g_goto (tgt := 816) dX12_init_842 (by decide) ?_
  refine g_iload_n dX12_init_816 rfl (List.mem_of_getElem? (i := 0) rfl) ?_
  refine g_iconst (v := 5) dX12_init_817 (by decide) ?_
  refine g_icmp_ge (tgt := 845) dX12_init_818 (by decide) (fun c818 => absurd c818 (by decide)) (fun c818 => ?_)
  refine g_aload_n dX12_init_821 rfl (List.mem_of_getElem? (i := 2) rfl) ?_
  refine g_get fX12_805 (h_nS e31 (h_al (j := 47) hla) (h_nS e30 (h_al (j := 47) hla) (h_nS e29 (h_al (j := 47) hla) (h_nS e28 (h_al (j := 47) hla) (h_nS e27 (h_al (j := 48) hla) (h_nS e26 (h_al (j := 46) hla) (h_nS e25 (h_al (j := 70) hla) (h_nS e24 (h_al (j := 47) hla) (h_nS e23 (h_al (j := 47) hla) (h_nS e22 (h_al (j := 47) hla) (h_nS e21 (h_al (j := 47) hla) (h_nS e20 (h_al (j := 47) hla) (h_nS e19 (h_al (j := 48) hla) (h_nS e18 (h_al (j := 46) hla) (h_nS e17 (h_al (j := 70) hla) (h_nS e16 (h_al (j := 47) hla) (h_nS e15 (h_al (j := 47) hla) (h_nS e14 (h_al (j := 47) hla) (h_nS e13 (h_al (j := 47) hla) (h_nS e12 (h_al (j := 47) hla) (h_nS e11 (h_al (j := 48) hla) (h_nS e10 (h_al (j := 46) hla) (h_nS e9 (h_al (j := 70) hla) (h_nS e8 (h_al (j := 47) hla) (h_nS e7 (h_al (j := 47) hla) (h_nS e6 (h_al (j := 47) hla) (h_nS e5 (h_al (j := 47) hla) (h_nS e4 (h_al (j := 47) hla) (h_nS e3 (h_al (j := 48) hla) (h_nS e2 (h_al (j := 46) hla) (h_nS e1 (h_al (j := 70) hla) ha))))))))))))))))))))))))))))))) (v := .ref (n0 + 47)) (mFs_get (by decide) rfl) dX12_init_822 ?_
  refine g_bipush (v := 120) dX12_init_825 (by decide) ?_
  refine g_iload_n dX12_init_827 rfl (List.mem_of_getElem? (i := 1) rfl) ?_
  refine g_imul dX12_init_828 ?_
  refine g_eqi (360) (by decide) ?_
  refine g_iload_n dX12_init_829 rfl (List.mem_of_getElem? (i := 0) rfl) ?_
  refine g_iadd dX12_init_830 ?_
  refine g_eqi (364) (by decide) ?_
  refine g_ldcwS (q := sq) (fun U H hz => hsk U H hz) dX12_init_831 ?_
  refine g_iload_n dX12_init_834 rfl (List.mem_of_getElem? (i := 0) rfl) ?_
  refine g_cv (d1 := 3) (As := [.int 4]) (st := [.int 364, .ref (n0 + 47)]) (ct_charAt hs hib (k := 4) (by decide) (by decide) IBX_b (by omega)) hib.rc kJ0_charAt_5068e lX12_64 sJ0_charAt_5068e (by omega) (Nat.le_of_ble_eq_true rfl) dX12_init_835 (fun τ835 v835 h835 z835 => ?_)
  obtain ⟨rfl, rfl⟩ := h835
  show G _ _ _ _ _ _ _ _ _ _ 838 [(2, .int 4), (1, .int 3), (0, .ref a)] [.int 88, .int 364, .ref (n0 + 47)]
  refine g_iast (t0 := 0) rfl (h_eS e31) (vp_in_nI (n := 364) (by decide) (by decide)) dX12_init_838 ?_
  refine g_gen (fun τ32 e32 => ?_)
  have z32 := h_z2 e32 z31
  have y32 := h_y2 e32 y31
  refine g_iinc (v := 5) dX12_init_839 (k := 0) rfl (by decide) (by decide) rfl ?_
  refine g_goto (tgt := 816) dX12_init_842 (by decide) ?_
  refine g_iload_n dX12_init_816 rfl (List.mem_of_getElem? (i := 0) rfl) ?_
  refine g_iconst (v := 5) dX12_init_817 (by decide) ?_
  refine g_icmp_ge (tgt := 845) dX12_init_818 (by decide) (fun c818 => ?_) (fun c818 => absurd (by decide) c818)
  refine g_iinc (v := 4) dX12_init_845 (k := 1) rfl (by decide) (by decide) rfl ?_
  refine g_goto (tgt := 785) dX12_init_848 (by decide) ?_
  refine g_iload_n dX12_init_785 rfl (List.mem_of_getElem? (i := 0) rfl) ?_
  refine g_iconst (v := 4) dX12_init_786 (by decide) ?_
  refine g_icmp_ge (tgt := 851) dX12_init_787 (by decide) (fun c787 => ?_) (fun c787 => absurd (by decide) c787)
  exact g_vret rfl dX12_init_851 (⟨rfl, ⟨z32.trans (by rw [z0]), y32.trans (by rw [y0]), fun q h1 h2 => ((((((((((((((((((((((((((((((((od.seto e1).seto e2).seto e3).seto e4).seto e5).seto e6).seto e7).seto e8).seto e9).seto e10).seto e11).seto e12).seto e13).seto e14).seto e15).seto e16).seto e17).seto e18).seto e19).seto e20).seto e21).seto e22).seto e23).seto e24).seto e25).seto e26).seto e27).seto e28).seto e29).seto e30).seto e31).seto e32) q h1 (h_lq h2 z0)⟩, (h_nS e32 (h_al (j := 47) hla) (h_nS e31 (h_al (j := 47) hla) (h_nS e30 (h_al (j := 47) hla) (h_nS e29 (h_al (j := 47) hla) (h_nS e28 (h_al (j := 47) hla) (h_nS e27 (h_al (j := 48) hla) (h_nS e26 (h_al (j := 46) hla) (h_nS e25 (h_al (j := 70) hla) (h_nS e24 (h_al (j := 47) hla) (h_nS e23 (h_al (j := 47) hla) (h_nS e22 (h_al (j := 47) hla) (h_nS e21 (h_al (j := 47) hla) (h_nS e20 (h_al (j := 47) hla) (h_nS e19 (h_al (j := 48) hla) (h_nS e18 (h_al (j := 46) hla) (h_nS e17 (h_al (j := 70) hla) (h_nS e16 (h_al (j := 47) hla) (h_nS e15 (h_al (j := 47) hla) (h_nS e14 (h_al (j := 47) hla) (h_nS e13 (h_al (j := 47) hla) (h_nS e12 (h_al (j := 47) hla) (h_nS e11 (h_al (j := 48) hla) (h_nS e10 (h_al (j := 46) hla) (h_nS e9 (h_al (j := 70) hla) (h_nS e8 (h_al (j := 47) hla) (h_nS e7 (h_al (j := 47) hla) (h_nS e6 (h_al (j := 47) hla) (h_nS e5 (h_al (j := 47) hla) (h_nS e4 (h_al (j := 47) hla) (h_nS e3 (h_al (j := 48) hla) (h_nS e2 (h_al (j := 46) hla) (h_nS e1 (h_al (j := 70) hla) ha)))))))))))))))))))))))))))))))), (h_nS e32 (h_ad (n := n0) (i := 70) (j := 47) (by decide)) (h_nS e31 (h_ad (n := n0) (i := 70) (j := 47) (by decide)) (h_nS e30 (h_ad (n := n0) (i := 70) (j := 47) (by decide)) (h_nS e29 (h_ad (n := n0) (i := 70) (j := 47) (by decide)) (h_nS e28 (h_ad (n := n0) (i := 70) (j := 47) (by decide)) (h_nS e27 (h_ad (n := n0) (i := 70) (j := 48) (by decide)) (h_nS e26 (h_ad (n := n0) (i := 70) (j := 46) (by decide)) (h_eS e25)))))))), (h_nS e32 (h_ad (n := n0) (i := 46) (j := 47) (by decide)) (h_nS e31 (h_ad (n := n0) (i := 46) (j := 47) (by decide)) (h_nS e30 (h_ad (n := n0) (i := 46) (j := 47) (by decide)) (h_nS e29 (h_ad (n := n0) (i := 46) (j := 47) (by decide)) (h_nS e28 (h_ad (n := n0) (i := 46) (j := 47) (by decide)) (h_nS e27 (h_ad (n := n0) (i := 46) (j := 48) (by decide)) (h_eS e26))))))), (h_nS e32 (h_ad (n := n0) (i := 48) (j := 47) (by decide)) (h_nS e31 (h_ad (n := n0) (i := 48) (j := 47) (by decide)) (h_nS e30 (h_ad (n := n0) (i := 48) (j := 47) (by decide)) (h_nS e29 (h_ad (n := n0) (i := 48) (j := 47) (by decide)) (h_nS e28 (h_ad (n := n0) (i := 48) (j := 47) (by decide)) (h_eS e27)))))), (h_eS e32), fun j hj hj70 hj46 hj48 hj47 => (h_nS e32 (h_ad hj47) (h_nS e31 (h_ad hj47) (h_nS e30 (h_ad hj47) (h_nS e29 (h_ad hj47) (h_nS e28 (h_ad hj47) (h_nS e27 (h_ad hj48) (h_nS e26 (h_ad hj46) (h_nS e25 (h_ad hj70) (h_nS e24 (h_ad hj47) (h_nS e23 (h_ad hj47) (h_nS e22 (h_ad hj47) (h_nS e21 (h_ad hj47) (h_nS e20 (h_ad hj47) (h_nS e19 (h_ad hj48) (h_nS e18 (h_ad hj46) (h_nS e17 (h_ad hj70) (h_nS e16 (h_ad hj47) (h_nS e15 (h_ad hj47) (h_nS e14 (h_ad hj47) (h_nS e13 (h_ad hj47) (h_nS e12 (h_ad hj47) (h_nS e11 (h_ad hj48) (h_nS e10 (h_ad hj46) (h_nS e9 (h_ad hj70) (h_nS e8 (h_ad hj47) (h_nS e7 (h_ad hj47) (h_nS e6 (h_ad hj47) (h_nS e5 (h_ad hj47) (h_nS e4 (h_ad hj47) (h_nS e3 (h_ad hj48) (h_nS e2 (h_ad hj46) (h_nS e1 (h_ad hj70) rfl)))))))))))))))))))))))))))))))).trans (mi j hj)⟩)
set_option maxRecDepth 100000 in
set_option maxHeartbeats 4000000 in
/-- SortedMailModel() -/
theorem ct_X12_init {l : Launch} {D : va_G} {A : Nat → ClassId} {B : Nat} {Z : State → Heap → Prop} {vF : Value} (hs : zs B Z vF) {sq sw : Nat} (hsk : ∀ (U : State) (H : Heap), Z U H → vk_R RX12 1387 "INBOX" sq U) (hib : sC B Z sq sw IBX) {d : Nat} (hd1 : 4 ≤ d) {σ : hS} {a n0 s0 : Nat} (z0 : σ.2.1 = n0) (y0 : σ.2.2 = s0) (ha : σ.1 a = some (.inr (12, [.int 0, .int 0, .int 0, .int 0, .null, .int 0, .null, .null, .null, .null, .null, .null, .null, .int 0, .int 0, .null, .null, .null, .null, .null, .null, .int 0, .null, .int 0, .int 0, .int 0, .null, .int 0, .null, .int 0, .int 0, .int 0, .int 0, .int 0, .int 0, .int 0, .null, .int 0, .int 0, .int 0, .int 0, .int 0, .int 0, .null, .null, .null, .null, .null, .null, .null, .null, .null, .null, .null, .null, .null, .null, .null, .null, .null, .null, .int 0, .null, .null, .int 0, .int 0, .int 0, .int 0, .null, .int 0, .int 0, .int 0, .null, .null, .null, .null, .null, .null, .null, .null, .null, .null, .null, .null, .null, .null, .null, .null, .null, .int 0, .null, .int 0, .null, .int 0, .int 0, .int 0, .int 0, .int 0, .null, .null, .int 0, .null, .int 0, .int 0, .int 0, .int 0, .int 0, .null, .null, .int 0, .int 0, .null, .int 0, .int 0, .int 0, .int 0, .int 0, .int 0, .null, .null, .null, .null, .int 0, .int 0, .int 0, .int 0, .int 0, .int 0, .int 0, .null, .int 0, .null, .null, .null, .null, .null, .null, .null, .null, .null, .null, .null, .null, .null, .null, .null, .null, .null, .null, .null, .null, .null, .null]))) (r1 : n0 + 91 ≤ B + 600000) (r2 : s0 + 197734 ≤ 7302250) : Ct l D (h_ty A) B Z d mX12_init σ [.ref a] (fun σ1 v => v = none ∧ cgr σ σ1 a 91 197734 ∧ mmNew A σ1 a n0) := by
  refine ct_of rfl hs.1 (Nat.le_of_ble_eq_true rfl) ?_
  show G _ _ _ _ _ _ _ _ _ _ 0 [(0, .ref a)] []
  refine g_bd (fun hB1 hB2 hB3 hlt => ?_)
  have hla : a < n0 := h_lq (hlt a _ ha) z0
  exact ct_X12_rows hs.1 (by omega) z0 y0 ha hla r1 r2 (fun τ h1 h2 h3 h4 h5 => ct_X12_tail hs hsk hib hd1 hla z0 y0 h1 h2 h3 h4 h5)
