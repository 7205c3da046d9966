/-! THE CLAIM OUT OF ONE WALK OF THE LAW'S BODY. Your part is whole_start (and what it stands on); all else here is the same for every law, but numbers. -/
def R_law : String := "SortedMailLaw"
def lw_P (b : Addr) (xs : List Int32) (args : Array Value) (s : State) : Prop := args = #[.ref b] ∧ s.IntsAt b xs ∧ xs.length ≤ 6 ∧ (Jvm.Cond.and given_1 narrow_1).before args s = true
def lw_Q (_ : Array Value) (s : State) (o : Outcome) (t : State) : Prop := o = .returned (some (.int 1)) ∧ Framed s o t [] 600000 7302250
def lw_Z (below : List Frame) (a : Array Value) (s : State) : State → Prop := fun t => ∃ o, t.status = .running ∧ Ended t below o ∧ lw_Q a s o t
/-- the law's own end, with 1 on the stack, nothing written that was there before, its room as the claim has it -/
theorem lw_ret {p : Program} {l : Launch} {e : Env} {s : State} {m : MethodId} {below : List Frame} {meth : Method} {c : Code} {b : Nat} (hx : p.tables.exec = Jvm.exec) (hb : c.code = code) (hr : meth.sig.returnType = ret) (hlocks : meth.locks = false) {pc : Nat} {H : Heap} {ls : Array Slot} (hdg : decode code pc = .ok (.ireturn, 1)) : W p l e room_1 s m #[Value.ref b] below meth c H [] 600000 7302250 (lw_Z below #[Value.ref b] s) (F0 m pc ls [.int 1]) := by
  intro T hT X
  obtain ⟨fs, hret, hrun, hended, hW, hframe⟩ := X.leave (v := some (.int 1)) (hlocks := hlocks) (fun h => by rw [hr] at h; cases h)
  have hmeth' : T.vm.method? m = some meth := X.method'
  refine ⟨T.setFrames fs, ?_, .returned (some (.int 1)), hrun, hended, rfl, ⟨_, rfl⟩, hW, hframe⟩
  jvm_step X.here [X.here.top, hx, hb, hdg, hmeth', hr, ret, narrow_b1]
  (try refine ⟨rfl, ?_⟩); (try refine ⟨rfl, ?_⟩)
  first | (intro acts; rw [hret _ acts rfl rfl rfl]) | rw [hret _ _ rfl rfl rfl]
  exact Steps.refl _
/-- what holds at the law's entry: the machine, the code, the tables' words (any of lw_tbl by 'hts w (by decide +kernel)'), the script of L ints xs at the cell b, what the Statement gives of the start (any of its parts by flat_of_before) -/
def lw_At (p : Program) (s : State) (m : MethodId) (meth : Method) (c : Code) (b L : Nat) (xs : Nat → Int32) : Prop :=
  p.tables.exec = Jvm.exec ∧ c.code = code ∧ meth.sig.returnType = ret ∧ c.maxLocals = 4 ∧ s.vm.findClass R_law = some m.cls ∧ (∀ w ∈ lw_tbl, w.before #[Value.ref b] s = true) ∧ va_X b L xs s s.heap ∧ b < s.heap.size ∧ meth.locks = false ∧ (Jvm.Cond.and given_1 narrow_1).before #[Value.ref b] s = true
theorem w_t1 {w : Cond} (j : Nat) (h : tables_1_1[j]? = some w) : w ∈ lw_tbl := List.mem_append_right _ (by have h := List.mem_of_getElem? h; exact List.mem_append_left _ h)
theorem w_t2 {w : Cond} (j : Nat) (h : tables_1_2[j]? = some w) : w ∈ lw_tbl := List.mem_append_right _ (by have h := List.mem_of_getElem? h; exact List.mem_append_right _ (List.mem_append_left _ h))
theorem w_t3 {w : Cond} (j : Nat) (h : tables_1_3[j]? = some w) : w ∈ lw_tbl := List.mem_append_right _ (by have h := List.mem_of_getElem? h; exact List.mem_append_right _ (List.mem_append_right _ (List.mem_append_left _ h)))
theorem w_t4 {w : Cond} (j : Nat) (h : tables_1_4[j]? = some w) : w ∈ lw_tbl := List.mem_append_right _ (by have h := List.mem_of_getElem? h; exact List.mem_append_right _ (List.mem_append_right _ (List.mem_append_right _ (List.mem_append_left _ h))))
theorem w_t5 {w : Cond} (j : Nat) (h : tables_1_5[j]? = some w) : w ∈ lw_tbl := List.mem_append_right _ (by have h := List.mem_of_getElem? h; exact List.mem_append_right _ (List.mem_append_right _ (List.mem_append_right _ (List.mem_append_right _ (List.mem_append_left _ h)))))
theorem w_t6 {w : Cond} (j : Nat) (h : tables_1_6[j]? = some w) : w ∈ lw_tbl := List.mem_append_right _ (by have h := List.mem_of_getElem? h; exact List.mem_append_right _ (List.mem_append_right _ (List.mem_append_right _ (List.mem_append_right _ (List.mem_append_right _ (List.mem_append_left _ h))))))
theorem w_t7 {w : Cond} (j : Nat) (h : tables_1_7[j]? = some w) : w ∈ lw_tbl := List.mem_append_right _ (by have h := List.mem_of_getElem? h; exact List.mem_append_right _ (List.mem_append_right _ (List.mem_append_right _ (List.mem_append_right _ (List.mem_append_right _ (List.mem_append_right _ (List.mem_append_left _ h)))))))
theorem w_t8 {w : Cond} (j : Nat) (h : tables_1_8[j]? = some w) : w ∈ lw_tbl := List.mem_append_right _ (by have h := List.mem_of_getElem? h; exact List.mem_append_right _ (List.mem_append_right _ (List.mem_append_right _ (List.mem_append_right _ (List.mem_append_right _ (List.mem_append_right _ (List.mem_append_right _ (List.mem_append_left _ h))))))))
theorem w_t9 {w : Cond} (j : Nat) (h : tables_1_9[j]? = some w) : w ∈ lw_tbl := List.mem_append_right _ (by have h := List.mem_of_getElem? h; exact List.mem_append_right _ (List.mem_append_right _ (List.mem_append_right _ (List.mem_append_right _ (List.mem_append_right _ (List.mem_append_right _ (List.mem_append_right _ (List.mem_append_right _ (List.mem_append_left _ h)))))))))
theorem w_t10 {w : Cond} (j : Nat) (h : tables_1_10[j]? = some w) : w ∈ lw_tbl := List.mem_append_right _ (by have h := List.mem_of_getElem? h; exact List.mem_append_right _ (List.mem_append_right _ (List.mem_append_right _ (List.mem_append_right _ (List.mem_append_right _ (List.mem_append_right _ (List.mem_append_right _ (List.mem_append_right _ (List.mem_append_right _ (List.mem_append_left _ h))))))))))
theorem w_t11 {w : Cond} (j : Nat) (h : tables_1_11[j]? = some w) : w ∈ lw_tbl := List.mem_append_right _ (by have h := List.mem_of_getElem? h; exact List.mem_append_right _ (List.mem_append_right _ (List.mem_append_right _ (List.mem_append_right _ (List.mem_append_right _ (List.mem_append_right _ (List.mem_append_right _ (List.mem_append_right _ (List.mem_append_right _ (List.mem_append_right _ (List.mem_append_left _ h)))))))))))
theorem w_t12 {w : Cond} (j : Nat) (h : tables_1_12[j]? = some w) : w ∈ lw_tbl := List.mem_append_right _ (by have h := List.mem_of_getElem? h; exact List.mem_append_right _ (List.mem_append_right _ (List.mem_append_right _ (List.mem_append_right _ (List.mem_append_right _ (List.mem_append_right _ (List.mem_append_right _ (List.mem_append_right _ (List.mem_append_right _ (List.mem_append_right _ (List.mem_append_right _ (List.mem_append_left _ h))))))))))))
theorem w_t13 {w : Cond} (j : Nat) (h : tables_1_13[j]? = some w) : w ∈ lw_tbl := List.mem_append_right _ (by have h := List.mem_of_getElem? h; exact List.mem_append_right _ (List.mem_append_right _ (List.mem_append_right _ (List.mem_append_right _ (List.mem_append_right _ (List.mem_append_right _ (List.mem_append_right _ (List.mem_append_right _ (List.mem_append_right _ (List.mem_append_right _ (List.mem_append_right _ (List.mem_append_right _ (h)))))))))))))
/-- whatever stays, and held at the start, holds -/
def Zc (s : State) (B : Nat) : State → Heap → Prop := fun U H => ∀ Q : State → Heap → Prop, h_st B Q → Q s s.heap → Q U H
theorem Zc.st {s : State} {B : Nat} : h_st B (Zc s B) := fun U V H H1 h1 h2 h Q hq h0 => hq U V H H1 h1 h2 (h Q hq h0)
theorem Zc.rf {s : State} {B : Nat} : Zc s B s s.heap := fun _ _ h0 => h0
theorem Zc.get {s : State} {B : Nat} {Q : State → Heap → Prop} (hq : h_st B Q) (h0 : Q s s.heap) : ∀ (U : State) (H : Heap), Zc s B U H → Q U H := fun _ _ h => h Q hq h0
theorem st_al {U V : State} (h : U.WarmedH V.vm ∨ V.vm = U.vm) : U.vm.Alike V.vm := by
  rcases h with h | h
  · exact h.alike
  · rw [h]; exact Vm.Alike.refl U.vm
theorem st_and {B : Nat} {Q R : State → Heap → Prop} (h1 : h_st B Q) (h2 : h_st B R) : h_st B (fun U H => Q U H ∧ R U H) := fun U V H H1 a b h => ⟨h1 U V H H1 a b h.1, h2 U V H H1 a b h.2⟩
theorem st_lt {B : Nat} {H H1 : Heap} (hq : ∀ q : Nat, q < B → H1[q]? = H[q]?) : ∀ a : Nat, a < H.size → ¬ B ≤ a → H1[a]? = H[a]? := fun a _ h => hq a (Nat.not_le.mp h)
theorem st_Z {B : Nat} {C n d : String} {v : Value} : h_st B (fun U H => va_Z C n d v (fun q : Nat => B ≤ q) U H) := fun U V H H1 hv hq h => (va_Z.moved (st_al hv) h).kept (st_lt hq)
theorem st_O {B : Nat} {E : String} {t : Nat} : h_st B (fun U H => va_O E t (fun q : Nat => B ≤ q) U H) := fun U V H H1 hv hq h => (va_O.moved (st_al hv) h).kept (st_lt hq)
theorem st_OF {B : Nat} {o n d : String} {v : Value} {t : Nat} : h_st B (fun U H => va_OF o n d v t (fun q : Nat => B ≤ q) U H) := fun U V H H1 hv hq h => (va_OF.moved (st_al hv) h).kept (st_lt hq)
theorem st_T {B : Nat} {ty : FieldType} {t N : Nat} {f : Nat → Value} : h_st B (fun U H => va_T ty t N f (fun q : Nat => B ≤ q) U H) := fun U V H H1 hv hq h => (va_T.moved (st_al hv) h).kept (st_lt hq)
theorem st_X {B b L : Nat} {xs : Nat → Int32} (hb : b < B) : h_st B (fun U H => va_X b L xs U H) := fun U V H H1 hv hq h => (va_X.moved (st_al hv) h).kept (hq b hb)
theorem st_AO {B : Nat} {C : String} : h_st B (fun U _ => va_AO C U) := fun U V H H1 hv hq h => h.moved (st_al hv)
theorem st_R {B : Nat} {own tx : String} {k a : Nat} : h_st B (fun U _ => vk_R own k tx a U) := fun U V H H1 hv hq h => hv.elim (fun hW => h.warm hW) (fun he => h.same he)
theorem st_Nw {B : Nat} {a : String} {i : Nat} {x : MethodName} {host : String} : h_st B (fun U _ => va_Nw (.methodLinkNest a i x host) U) := fun U V H H1 hv hq h => hv.elim (fun hW => va_Nw.warmM hW h) (fun he => va_Nw.same rfl he.symm h)
/-- what the Statement says of a String constant -/
def swW (own : String) (k : Nat) (bs : List Nat) : List Cond :=
  .exactly (.string own k) "java/lang/String" :: .eq (.field (.string own k) "java/lang/String" "coder" "B") (.int 0) :: .arrayOf (.field (.string own k) "java/lang/String" "value" "[B") .byte :: .eq (.length (.field (.string own k) "java/lang/String" "value" "[B")) (.int (nI bs.length)) ::
    (List.range bs.length).map (fun j => .eq (.elem (.field (.string own k) "java/lang/String" "value" "[B") (.int (nI j))) (.int (nI (bs.getD j 0))))
theorem sC_of {s : State} {args : Array Value} {own tx : String} {k i : Nat} {bs : List Nat} (hn : narrow_1.before args s = true) (hw : ((flatC narrow_1).drop i).take (4 + bs.length) = swW own k bs) (hl : bs.length < 2 ^ 31) (hr : (Cond.stringRef own k tx).before args s = true) :
    ∃ q w : Nat, (∀ (U : State) (H : Heap), Zc s s.heap.size U H → vk_R own k tx q U) ∧ sC s.heap.size (Zc s s.heap.size) q w bs := by
  have hf := flat_of_before _ hn
  have hm : ∀ c ∈ swW own k bs, c.before args s = true := fun c hc => by
    rw [← hw] at hc
    exact hf c (List.mem_of_mem_drop (List.mem_of_mem_take hc))
  have hA : ∀ a : Nat, a < s.heap.size → ¬ (fun q : Nat => s.heap.size ≤ q) a := fun a h => Nat.not_le.mpr h
  have m1 := hm _ (List.mem_cons_self)
  have m2 := hm _ (List.mem_cons_of_mem _ (List.mem_cons_self))
  have m3 := hm _ (List.mem_cons_of_mem _ (List.mem_cons_of_mem _ (List.mem_cons_self)))
  have m4 := hm _ (List.mem_cons_of_mem _ (List.mem_cons_of_mem _ (List.mem_cons_of_mem _ (List.mem_cons_self))))
  have m5 : ∀ j : Nat, j < bs.length → (Cond.eq (.elem (.field (.string own k) "java/lang/String" "value" "[B") (.int (nI j))) (.int (nI (bs.getD j 0)))).before args s = true := fun j hj =>
    hm _ (List.mem_cons_of_mem _ (List.mem_cons_of_mem _ (List.mem_cons_of_mem _ (List.mem_cons_of_mem _ (List.mem_map.mpr ⟨j, List.mem_range.mpr hj, rfl⟩)))))
  obtain ⟨a, c, cA, kA, q1, q2, q3, q4, q5, q6, -⟩ := Cond.exactly_spec (args := args) (first := s) (o := none) (s := s) (idx := []) (t := .string own k) (cls := "java/lang/String") m1
  obtain ⟨t, ht, hT⟩ := va_Tof (f := fun j => .int (nI (bs.getD j 0))) (A := fun q : Nat => s.heap.size ≤ q) hl m3 (va_eqt m4) (fun j hj => va_eqt (m5 j hj)) hA
  have hO : va_O "java/lang/String" a (fun q : Nat => s.heap.size ≤ q) s s.heap := ⟨cA, q3, q5, by rw [q6]; exact q2, hA a (Array.getElem?_eq_some_iff.mp q3).1⟩
  exact ⟨a, t, Zc.get st_R (vk_R.of hr q1), fun U H hz => ⟨Zc.get st_O hO U H hz, Zc.get st_OF (vk_OFof q1 (va_eqt m2) hA) U H hz, Zc.get st_OF (vk_OFof q1 ht hA) U H hz, Zc.get st_T hT U H hz⟩⟩
/-- an array class, of a primitive type -/
theorem ar_p {s : State} {args : Array Value} {ty : FieldType} (h : (Cond.arrayClass ty).before args s = true) (hp : ∀ cA : ClassId, s.vm.findClass ("[" ++ ty.toString) = some cA → va_RA s cA ty) : ∃ cA : ClassId, ArrOfT s cA ty ∧ va_RA s cA ty := by
  obtain ⟨c, k, comp, h1, h2, h3⟩ := Cond.arrayClass_spec h
  exact ⟨c, fun n z => ⟨fun k h => (by cases h), k, h2, comp, h3⟩, hp c h1⟩
theorem ar_o {s : State} {args : Array Value} {C : String} (h : (Cond.arrayOver (.object C)).before args s = true) : ∃ cA : ClassId, ArrOfT s cA (.object C) ∧ va_RA s cA (.object C) := by
  obtain ⟨comp, c, k, h1, -, h3, h4, h5⟩ := Cond.arrayOver_spec h
  exact ⟨c, fun n z => ⟨fun k h => (by cases h), k, h3, comp, h4⟩, ⟨k, comp, h3, h4, h1, h5⟩⟩
theorem h_sl_end (H : Heap) : h_sl H.size H = 0 := by
  unfold h_sl
  rw [List.drop_of_length_le (by simp)]
  rfl
def l_σ (s : State) : hS := (fun _ => none, s.heap.size, 0)
theorem l_Rp {D : va_G} {A : Nat → ClassId} {s : State} (hK : va_K D vwCl (h_ty A) s) : Rp D (h_ty A) s.heap.size (Zc s s.heap.size) (l_σ s) s s.heap :=
  ⟨hK, Zc.rf, rfl, h_sl_end _, Nat.le_refl _, Nat.le_add_right _ _, Nat.zero_le _, fun a e h => by cases h⟩

theorem l_cls {s : State} {args : Array Value} (hts : ∀ w ∈ lw_g, w.before args s = true) : ∃ D : va_G, ∀ (c : Nat) (q : vw_C), vwCl[c]? = some q → u_Kn s q.1 q.2.1 q.2.2 (D.1 c) (D.2 c) := by
  have h : ∀ c : Nat, ∃ d : ClassId × (Nat → Nat), ∀ q : vw_C, vwCl[c]? = some q → u_Kn s q.1 q.2.1 q.2.2 d.1 d.2 := by
    intro c
    by_cases hc : c < 13
    · have h : ∃ (cC : ClassId) (iS : Nat → Nat), u_Kn s (vwCl.getD c (RX0, TX0, 12)).1 (vwCl.getD c (RX0, TX0, 12)).2.1 (vwCl.getD c (RX0, TX0, 12)).2.2 cC iS := by
        match c, hc with
        | 0, _ => exact u_known (C := RX0) (T := TX0) (N := 12) (n := 12) (ws := lw_g) hts inX0 (hts _ (h_t2 157 rfl rfl))
        | 1, _ => exact u_known (C := RX1) (T := TX1) (N := 6) (n := 6) (ws := lw_g) hts inX1 (hts _ (h_t6 147 rfl rfl))
        | 2, _ => exact u_known (C := RX2) (T := TX2) (N := 9) (n := 9) (ws := lw_g) hts inX2 (hts _ (h_t1 45 rfl rfl))
        | 3, _ => exact u_known (C := RX3) (T := TX3) (N := 15) (n := 15) (ws := lw_g) hts inX3 (hts _ (h_t1 146 rfl rfl))
        | 4, _ => exact u_known (C := RX4) (T := TX4) (N := 9) (n := 9) (ws := lw_g) hts inX4 (hts _ (h_t1 39 rfl rfl))
        | 5, _ => exact u_known (C := RX5) (T := TX5) (N := 3) (n := 3) (ws := lw_g) hts inX5 (hts _ (h_t2 14 rfl rfl))
        | 6, _ => exact u_known (C := RX6) (T := TX6) (N := 6) (n := 6) (ws := lw_g) hts inX6 (hts _ (h_t2 212 rfl rfl))
        | 7, _ => exact u_known (C := RX7) (T := TX7) (N := 20) (n := 20) (ws := lw_g) hts inX7 (hts _ (h_t3 1 rfl rfl))
        | 8, _ => exact u_known (C := RX8) (T := TX8) (N := 8) (n := 8) (ws := lw_g) hts inX8 (hts _ (h_t2 29 rfl rfl))
        | 9, _ => exact u_known (C := RX9) (T := TX9) (N := 6) (n := 6) (ws := lw_g) hts inX9 (hts _ (h_t1 51 rfl rfl))
        | 10, _ => exact u_known (C := RX10) (T := TX10) (N := 6) (n := 6) (ws := lw_g) hts inX10 (hts _ (h_t2 63 rfl rfl))
        | 11, _ => exact u_known (C := RX11) (T := TX11) (N := 17) (n := 17) (ws := lw_g) hts inX11 (hts _ (h_t1 23 rfl rfl))
        | 12, _ => exact u_known (C := RX12) (T := TX12) (N := 153) (n := 153) (ws := lw_g) hts inX12 (hts _ (h_t7 206 rfl rfl))
        | c + 13, h => exact absurd h (by omega)
      obtain ⟨cC, iS, h⟩ := h
      refine ⟨(cC, iS), fun q hq => ?_⟩
      rw [List.getD_eq_getElem?_getD, hq] at h
      exact h
    · exact ⟨(0, fun _ => 0), fun q hq => absurd (List.getElem?_eq_some_iff.mp hq).1 hc⟩
  obtain ⟨d, hd⟩ := Classical.axiomOfChoice h
  exact ⟨(fun c => (d c).1, fun c => (d c).2), fun c q hq => hd c q hq⟩
theorem l_arr {s : State} {args : Array Value} (hts : ∀ w ∈ lw_tbl, w.before args s = true) : ∃ A : Nat → ClassId, ∀ (k : Nat) (q : ClassId × FieldType), (h_ty A)[k]? = some q → ArrOfT s q.1 q.2 ∧ va_RA s q.1 q.2 := by
  obtain ⟨c0, g0⟩ := ar_p (ty := .int) (hts _ (w_t1 110 rfl)) (fun _ h => h)
  obtain ⟨c1, g1⟩ := ar_p (ty := .byte) (hts _ (w_t1 109 rfl)) (fun _ h => h)
  obtain ⟨c2, g2⟩ := ar_p (ty := .boolean) (hts _ (w_t13 181 rfl)) (fun _ h => h)
  obtain ⟨c3, g3⟩ := ar_p (ty := .long) (hts _ (w_t13 182 rfl)) (fun _ h => h)
  obtain ⟨c4, g4⟩ := ar_o (C := RX5) (hts _ (w_t1 31 rfl))
  obtain ⟨c5, g5⟩ := ar_o (C := RX8) (hts _ (w_t1 33 rfl))
  obtain ⟨c6, g6⟩ := ar_o (C := RX10) (hts _ (w_t1 35 rfl))
  obtain ⟨c7, g7⟩ := ar_o (C := RX1) (hts _ (w_t1 37 rfl))
  obtain ⟨c8, g8⟩ := ar_o (C := RX3) (hts _ (w_t1 145 rfl))
  refine ⟨fun k => [c0, c1, c2, c3, c4, c5, c6, c7, c8].getD k 0, fun k q hq => ?_⟩
  match k, hq with
  | 0, hq => cases hq; exact g0
  | 1, hq => cases hq; exact g1
  | 2, hq => cases hq; exact g2
  | 3, hq => cases hq; exact g3
  | 4, hq => cases hq; exact g4
  | 5, hq => cases hq; exact g5
  | 6, hq => cases hq; exact g6
  | 7, hq => cases hq; exact g7
  | 8, hq => cases hq; exact g8
  | k + 9, hq => cases hq
/-- the law's start, out of the light judgement -/
theorem law_W {p : Program} {e : Env} {s : State} {m : MethodId} {below : List Frame} {meth : Method} {c : Code} {l : Launch} {b L : Nat} {xs : Nat → Int32} (C0 : lw_At p s m meth c b L xs) {D : va_G} {A : Nat → ClassId} (hK : va_K D vwCl (h_ty A) s)
    (hG : ∀ nm : String, G l D (h_ty A) s.heap.size (Zc s s.heap.size) (mL_law nm) 1312 (l_σ s) (fun _ v => v = some (.int 1)) (l_σ s) 0 [(0, .ref b)] []) : W p l e room_1 s m #[Value.ref b] below meth c s.heap [] 0 0 (lw_Z below #[Value.ref b] s) (entryFrame m ([Value.ref b] : List Value).toArray 4) := by
  obtain ⟨hx, hb, hr, hml, hown, hts, hX, hbl, hlocks, hgv⟩ := id C0
  have hR := l_Rp hK
  have h := hG meth.name p e s m #[Value.ref b] below meth c ⟨hx, hb, hml, hr, hown, fun w hw => hts w (List.mem_filter.mp hw).1, hlocks, rfl, Zc.st, hR⟩ s.heap [] _ hR va_S.rf (Nat.le_refl _) (lv_entry [.ref b] (n := 4) (Nat.le_of_ble_eq_true rfl))
  rw [Nat.sub_self, Nat.sub_self] at h
  rw [lg_entry_eq]
  intro T hT X
  have hroom : s.hasRoom e.platform (h_rm s.heap.size 1312 (l_σ s)) = true := by
    have h := X.room
    simp only [State.hasRoom, Bool.and_eq_true, decide_eq_true_eq] at h ⊢
    obtain ⟨⟨⟨⟨h1, h2, h3, h4, h5, h6⟩, h7⟩, h8⟩, h9⟩ := h
    have h1 : s.localsInUse + 84000 + stackMargin ≤ realStackBytes / 8 := h1
    have h2 : s.frames.length + 2048 ≤ _ := h2
    have h3 : s.frames.length + 2048 ≤ _ := h3
    have h4 : s.localsInUse + 84000 ≤ _ := h4
    have h5 : s.localsInUse + 84000 ≤ _ := h5
    have h7 : s.heap.size + 600000 ≤ _ := h7
    have h8 : s.slotsUsed + 7302250 ≤ _ := h8
    refine ⟨⟨⟨⟨?_, ?_, ?_, ?_, ?_, h6⟩, ?_⟩, ?_⟩, h9⟩
    · show s.localsInUse + 64 * 1312 + stackMargin ≤ _; omega
    · show s.frames.length + 1312 ≤ _; omega
    · show s.frames.length + 1312 ≤ _; omega
    · show s.localsInUse + 64 * 1312 ≤ _; omega
    · show s.localsInUse + 64 * 1312 ≤ _; omega
    · show s.heap.size + (s.heap.size + 600000 - s.heap.size) ≤ _; omega
    · show s.slotsUsed + (7302250 - 0) ≤ _; omega
  obtain ⟨t, a1, o, b1, b2, ⟨⟨v, σ1, hv, hp, hR1⟩, hF⟩, Lc, hFE, hLf⟩ := h T hT ⟨X.admits, X.cas, X.clock, X.frames, hroom, X.hears, X.method, X.code, X.here, X.tail, X.warmed, X.limits, X.bytes, X.same⟩
  subst hp
  refine ⟨t, a1, o, b1, b2, hv, hFE.1, hFE.2.1, ?_⟩
  exact hFE.2.2.weaken (fun y hy hlt => absurd hlt (Nat.not_lt.mpr (hLf y hy))) (by show s.heap.size + 600000 - s.heap.size ≤ 600000; omega) (by show 7302250 - 0 ≤ 7302250; omega)
