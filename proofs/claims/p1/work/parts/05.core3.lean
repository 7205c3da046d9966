section HG3
variable {l : Launch} {D : va_G} {ty : List (ClassId × FieldType)} {B : Nat} {Z : State → Heap → Prop} {M : hM} {d : Nat} {σ0 σ : hS} {P : hS → Option Value → Prop} {pc : Nat} {lv : List (Nat × Value)} {st : List Value}
/-- what a call needs of the method that is called: n parameters -/
def h_ml (M' : hM) (n : Nat) : Prop := Cond.code M'.1 M'.2.1 M'.2.2.1 M'.2.2.2 ∈ lw_g ∧ Cond.initialized M'.1.cls ∈ lw_g ∧ (M'.1.cls ≠ "java/lang/invoke/MethodHandle" ∧ M'.1.cls ≠ "java/lang/invoke/VarHandle" ∧ (parseMethodDescriptor M'.1.desc).map (fun x => x.parameters.length) = some n) ∧ M'.2.2.1 ≤ 45
theorem Rp.al {U V : State} {H : Heap} (hZ : h_st B Z) (h : Rp D ty B Z σ U H) (ha : V.vm = U.vm) : Rp D ty B Z σ V H := by
  obtain ⟨h1, h2, h3⟩ := h
  exact ⟨va_K.moved (by rw [ha]; exact Vm.Alike.refl U.vm) h1, hZ _ _ _ _ (Or.inr ha) (fun _ _ => rfl) h2, h3⟩
theorem h_blind {as : List Value} (hZ : h_st B Z) : FrameBlind (va_Pc as (fun U => Rp D ty B Z σ U U.heap)) := fun a U g mk h => ⟨h.1, h.2.al (V := U.calling g mk a) hZ rfl⟩
theorem h_pre {as : List Value} {s : State} {H : Heap} (hZ : h_st B Z) (hR : Rp D ty B Z σ s H) : ∀ U : State, U.heap = H → s.WarmedH U.vm → va_Pc as (fun U => Rp D ty B Z σ U U.heap) as.toArray U := fun U hU hW => ⟨rfl, hR.mv hZ hU hW⟩
theorem h_fin {p : Program} {e : Env} {s : State} {m : MethodId} {args a : Array Value} {below : List Frame} {meth : Method} {c : Code} {H : Heap} {locs : List Loc} {ls : Array Slot} {P1 : hS → Option Value → Prop} {st0 : List Value} (C9 : h_C D ty B Z M σ0 p s m args meth c) (hR : Rp D ty B Z σ s H) (hSv : va_S (fun q : Nat => B ≤ q) s.heap H locs) (hl9 : lv_has ls M.2.2.1 lv)
    (hr : va_Run p l e (h_rm B d σ0) s m args below meth c H locs (σ.2.1 - σ0.2.1) (σ.2.2 - σ0.2.2) (B + h_CN - σ.2.1) (h_CK - σ.2.2) (F0 m pc ls st0) st (h_Q D ty B Z P1 a) (fun q : Nat => B ≤ q))
    (k9 : ∀ (σ1 : hS) (v : Option Value), P1 σ1 v → σ.2.1 ≤ σ1.2.1 → G l D ty B Z M d σ0 P σ1 (pc + 3) lv (v.toList ++ st)) :
    W p l e (h_rm B d σ0) s m args below meth c H locs (σ.2.1 - σ0.2.1) (σ.2.2 - σ0.2.2) (MQ below (h_Q D ty B Z P) args s (B + h_CN - σ0.2.1) (h_CK - σ0.2.2) (fun q : Nat => B ≤ q)) (F0 m pc ls st0) := by
  intro T hT X
  obtain ⟨v, st₀, t, T', L, h0, X', hL, e1, e2, ⟨⟨v', σ1, hv, hp, hR1⟩, hz, hk⟩, stp⟩ := hr T hT X
  have hv : v = v' := Outcome.returned.inj hv
  subst hv
  rw [h0] at hz hk
  have hZ := C9.2.2.2.2.2.2.2.2.1
  have hR0 := C9.2.2.2.2.2.2.2.2.2
  have e0 : s.heap.size = σ0.2.1 := hR0.2.2.1
  have e9 : H.size = σ.2.1 := hR.2.2.1
  have e8 := hSv.1
  have hR2 : Rp D ty B Z σ1 s T'.heap := by
    rw [e1]
    exact ⟨hR.1, hZ s s H t.heap (Or.inr rfl) (fun q hq => hk q (by have := hR.2.2.2.2.1; omega) (by omega)) hR.2.1, hR1.2.2⟩
  have e7 : t.heap.size = σ1.2.1 := hR1.2.2.1
  have hS2 : va_S (fun q : Nat => B ≤ q) s.heap T'.heap (locs ++ L) := ⟨by rw [e1]; omega, fun q h1 h2 => by rw [e1, hk q (Nat.lt_of_lt_of_le h1 hSv.1) h2]; exact hSv.2.1 q h1 h2, fun q hq => by
      rcases List.mem_append.mp hq with h | h
      · exact hSv.2.2 q h
      · exact hL q h⟩
  obtain ⟨-, g2, -, -, -, g6⟩ := X'.same
  have h7 := h_sl_split (B := B) (H0 := s.heap) (H := T'.heap) (by have := hR0.2.2.2.2.1; omega) g2 (fun a c hc => by
    obtain ⟨c', q1, -, q3, -⟩ := g6 a c hc
    exact ⟨c', q1, q3⟩)
  have s0 : h_sl B s.heap = σ0.2.2 := hR0.2.2.2.1
  have s1 : h_sl B T'.heap = σ1.2.2 := hR2.2.2.2.1
  have s2 : T'.heap.size = σ1.2.1 := hR2.2.2.1
  obtain ⟨t2, a1, b1⟩ := h_nar (B := B) (by have := hR0.2.2.2.2.1; omega) (k := σ1.2.1 - σ0.2.1) (n := σ1.2.2 - σ0.2.2) (by omega) (by omega) (k9 σ1 v hp (by omega) p e s m args below meth c C9 T'.heap (locs ++ L) ls hR2 hS2 (by omega) hl9) T' rfl X'
  exact ⟨t2, stp t2 a1, b1⟩
theorem h_cb {M1 : hM} {n d1 ix : Nat} {p : Program} {s : State} {m : MethodId} {args : Array Value} {meth : Method} {c : Code} (C9 : h_C D ty B Z M σ0 p s m args meth c) (hm : h_ml M1 n) (hl : Cond.methodLink M.1.cls ix M1.1 ∈ lw_g) (hd1 : d1 + 1 ≤ d) :
    CallB (h_rm B d σ0) s args M.1.cls ix M1.1 M1.2.1 M1.2.2.1 M1.2.2.2 (Cond.code M1.1 M1.2.1 M1.2.2.1 M1.2.2.2 :: lw_g) (h_rm B d1 σ) (B + h_CN - σ.2.1) (h_CK - σ.2.2) n :=
  callB_of n C9.2.2.2.2.2.1 (lw_good hm.1) rfl rfl rfl (C9.2.2.2.2.2.1 _ hm.2.1) (C9.2.2.2.2.2.1 _ hl) hm.2.2.1 ⟨hd1, by show 8 + (M1.2.2.1 + 11) + 64 * d1 ≤ 64 * d; have := hm.2.2.2; omega⟩
theorem h_fit {p : Program} {s : State} {m : MethodId} {args : Array Value} {meth : Method} {c : Code} {H : Heap} {locs : List Loc} (C9 : h_C D ty B Z M σ0 p s m args meth c) (hR : Rp D ty B Z σ s H) (hS : va_S (fun q : Nat => B ≤ q) s.heap H locs) (h3 : σ0.2.2 ≤ σ.2.2) : (σ.2.1 - σ0.2.1) + (B + h_CN - σ.2.1) ≤ (h_rm B d σ0).cells ∧ (σ.2.2 - σ0.2.2) + (h_CK - σ.2.2) ≤ (h_rm B d σ0).slots := by
  have hR0 := C9.2.2.2.2.2.2.2.2.2
  have e0 : s.heap.size = σ0.2.1 := hR0.2.2.1
  have e9 : H.size = σ.2.1 := hR.2.2.1
  have e8 := hS.1
  have e6 := hR.2.2.2.2.2.1
  have e5 := hR.2.2.2.2.2.2.1
  exact ⟨by show _ ≤ B + h_CN - σ0.2.1; omega, by show _ ≤ h_CK - σ0.2.2; omega⟩
theorem g_cs {ix d1 : Nat} {M1 : hM} {As : List Value} {P1 : hS → Option Value → Prop} (hC : Ct l D ty B Z d1 M1 σ As P1) (hm : h_ml M1 As.length) (hl : Cond.methodLink M.1.cls ix M1.1 ∈ lw_g) (hs : Cond.static M1.1 ∈ lw_g) (hd1 : d1 + 1 ≤ d) (hcat : (st.map fun v => v.category).sum ≤ 8) (hd : decode M.2.1 pc = .ok (.invokestatic ix, 3)) (k9 : ∀ (σ1 : hS) (v : Option Value), P1 σ1 v → σ.2.1 ≤ σ1.2.1 → G l D ty B Z M d σ0 P σ1 (pc + 3) lv (v.toList ++ st)) : G l D ty B Z M d σ0 P σ pc lv (As.reverse ++ st) := by
  intro p e s m args below meth c C9 H locs ls hR hS h3 hl9
  exact h_fin C9 hR hS hl9 (va_runS (As := As) (rest := st) ⟨C9.1, C9.2.1, C9.2.2.1, C9.2.2.2.2.1, C9.2.2.2.2.2.1⟩ hC ⟨h_cb C9 hm hl hd1, C9.2.2.2.2.2.1 _ hs⟩ ⟨h_blind C9.2.2.2.2.2.2.2.2.1, h_pre C9.2.2.2.2.2.2.2.2.1 hR⟩ rfl rfl hl9.1 rfl (lv_room hcat) hd (h_fit C9 hR hS h3)) k9
/-- what is called on an object: it is there, of that class -/
def h_rc (D : va_G) (ty : List (ClassId × FieldType)) (B : Nat) (Z : State → Heap → Prop) (σ : hS) (C : String) (a : Nat) : Prop := ∀ (s : State) (H : Heap), Rp D ty B Z σ s H → ∃ cell : Cell, H[a]? = some cell ∧ cell.vm.isStatics = false ∧ s.vm.findClass C = some cell.cls
theorem h_rcO {ci a : Nat} {fs : List Value} {r : vw_C} (ha : σ.1 a = some (.inr (ci, fs))) (hc : vwCl[ci]? = some r) : h_rc D ty B Z σ r.1 a := fun _ _ hR => va_recv (q0 := 0) hR.1 (h_P1 (hR.2.2.2.2.2.2.2 a _ ha).2) hc rfl
theorem g_cv {ix d1 a : Nat} {M1 : hM} {As : List Value} {P1 : hS → Option Value → Prop} (hC : Ct l D ty B Z d1 M1 σ (.ref a :: As) P1) (hrc : h_rc D ty B Z σ M1.1.cls a) (hm : h_ml M1 As.length) (hl : Cond.methodLink M.1.cls ix M1.1 ∈ lw_g) (hs : Cond.instanceMethod M1.1 ∈ lw_g ∧ Cond.selects M1.1.cls M1.1 M1.1 ∈ lw_g) (hd1 : d1 + 1 ≤ d) (hcat : (st.map fun v => v.category).sum ≤ 8) (hd : decode M.2.1 pc = .ok (.invokevirtual ix, 3)) (k9 : ∀ (σ1 : hS) (v : Option Value), P1 σ1 v → σ.2.1 ≤ σ1.2.1 → G l D ty B Z M d σ0 P σ1 (pc + 3) lv (v.toList ++ st)) : G l D ty B Z M d σ0 P σ pc lv (As.reverse ++ .ref a :: st) := by
  intro p e s m args below meth c C9 H locs ls hR hS h3 hl9
  exact h_fin C9 hR hS hl9 (va_runV (As := As) (rest := st) ⟨C9.1, C9.2.1, C9.2.2.1, C9.2.2.2.2.1, C9.2.2.2.2.2.1⟩ hC ⟨h_cb C9 hm hl hd1, C9.2.2.2.2.2.1 _ hs.1, C9.2.2.2.2.2.1 _ hs.2⟩ ⟨h_blind C9.2.2.2.2.2.2.2.2.1, hrc s H hR, h_pre C9.2.2.2.2.2.2.2.2.1 hR⟩ rfl rfl hl9.1 rfl (lv_room hcat) hd (h_fit C9 hR hS h3)) k9
theorem g_ci {ix d1 a : Nat} {M1 : hM} {As : List Value} {P1 : hS → Option Value → Prop} (hC : Ct l D ty B Z d1 M1 σ (.ref a :: As) P1) (hr : M1.2.2.2 = none) (hm : h_ml M1 As.length) (hl : Cond.methodLink M.1.cls ix M1.1 ∈ lw_g) (hs : M1.1.name = "<init>" ∧ Cond.instanceMethod M1.1 ∈ lw_g) (hd1 : d1 + 1 ≤ d) (hcat : (st.map fun v => v.category).sum ≤ 8) (hd : decode M.2.1 pc = .ok (.invokespecial ix, 3)) (k9 : ∀ (σ1 : hS) (v : Option Value), P1 σ1 v → σ.2.1 ≤ σ1.2.1 → G l D ty B Z M d σ0 P σ1 (pc + 3) lv (v.toList ++ st)) : G l D ty B Z M d σ0 P σ pc lv (As.reverse ++ .ref a :: st) := by
  intro p e s m args below meth c C9 H locs ls hR hS h3 hl9
  obtain ⟨y1, c1, n1, r1⟩ := M1
  dsimp only at hr
  subst hr
  exact h_fin C9 hR hS hl9 (va_runI (As := As) (rest := st) ⟨C9.1, C9.2.1, C9.2.2.1, C9.2.2.2.2.1, C9.2.2.2.2.2.1⟩ hC ⟨h_cb C9 hm hl hd1, hs.1, C9.2.2.2.2.2.1 _ hs.2⟩ ⟨h_blind C9.2.2.2.2.2.2.2.2.1, h_pre C9.2.2.2.2.2.2.2.2.1 hR⟩ rfl rfl hl9.1 rfl (lv_room hcat) hd (h_fit C9 hR hS h3)) k9
/-- Object's own constructor -/
theorem g_obj {ix a : Nat} (hl : Cond.methodLink M.1.cls ix objectInit ∈ lw_g) (hi : Cond.instanceMethod objectInit ∈ lw_g) (hc : Cond.code objectInit ⟨#[0xb1]⟩ 1 none ∈ lw_g) (h1 : 1 ≤ d) (hcat : (st.map fun v => v.category).sum ≤ 8) (hd : decode M.2.1 pc = .ok (.invokespecial ix, 3)) (k9 : G l D ty B Z M d σ0 P σ (pc + 3) lv st) : G l D ty B Z M d σ0 P σ pc lv (.ref a :: st) := by
  intro p e s m args below meth c C9 H locs ls hR hS h3 hl9
  have h9 : 2 * (F0 m pc ls (.ref a :: st)).monitorRoom + (st.map fun v => v.category).sum ≤ 8 := lv_room hcat
  exact W.objInit C9.1 C9.2.1 C9.2.2.2.2.1 (C9.2.2.2.2.2.1 _ hl) (C9.2.2.2.2.2.1 _ hi) (C9.2.2.2.2.2.1 _ hc) rfl (by rw [C9.2.2.1]; exact hl9.1) rfl hd (by show 1 ≤ d; exact h1) (by show _ ≤ 64 * d; omega) (k9 p e s m args below meth c C9 H locs ls hR hS h3 hl9)
/-- a nest mate's private constructor -/
theorem g_cn {ix d1 a : Nat} {M1 : hM} {As : List Value} {P1 : hS → Option Value → Prop} {host : String} (hC : Ct l D ty B Z d1 M1 σ (.ref a :: As) P1) (hr : M1.2.2.2 = none) (hm : h_ml M1 As.length) (hl : ∀ (U : State) (H : Heap), Z U H → va_Nw (.methodLinkNest M.1.cls ix M1.1 host) U) (hs : M1.1.name = "<init>" ∧ Cond.instanceMethod M1.1 ∈ lw_g) (hd1 : d1 + 1 ≤ d) (hcat : (st.map fun v => v.category).sum ≤ 8) (hd : decode M.2.1 pc = .ok (.invokespecial ix, 3)) (k9 : ∀ (σ1 : hS) (v : Option Value), P1 σ1 v → σ.2.1 ≤ σ1.2.1 → G l D ty B Z M d σ0 P σ1 (pc + 3) lv (v.toList ++ st)) : G l D ty B Z M d σ0 P σ pc lv (As.reverse ++ .ref a :: st) := by
  intro p e s m args below meth c C9 H locs ls hR hS h3 hl9
  obtain ⟨y1, c1, n1, r1⟩ := M1
  dsimp only at hr
  subst hr
  exact h_fin C9 hR hS hl9 (va_runIN (As := As) (rest := st) ⟨C9.1, C9.2.1, C9.2.2.1, C9.2.2.2.2.1, C9.2.2.2.2.2.1⟩ hC ⟨va_cnB As.length C9.2.2.2.2.2.1 (lw_good hm.1) rfl rfl rfl (hl s H hR.2.1) (C9.2.2.2.2.2.1 _ hm.2.1) hm.2.2.1 ⟨hd1, by show 8 + (n1 + 11) + 64 * d1 ≤ 64 * d; have : n1 ≤ 45 := hm.2.2.2; omega⟩, hs.1, C9.2.2.2.2.2.1 _ hs.2⟩ ⟨h_blind C9.2.2.2.2.2.2.2.2.1, h_pre C9.2.2.2.2.2.2.2.2.1 hR⟩ rfl rfl hl9.1 rfl (lv_room hcat) hd (h_fit C9 hR hS h3)) k9
/-- a String constant -/
theorem g_ldcS {ix q : Nat} {tx : String} (hk : ∀ (U : State) (H : Heap), Z U H → vk_R M.1.cls ix tx q U) (hd : decode M.2.1 pc = .ok (.ldc ix, 2)) (k9 : G l D ty B Z M d σ0 P σ (pc + 2) lv (.ref q :: st)) : G l D ty B Z M d σ0 P σ pc lv st :=
  fun p e s m args below meth c C9 H locs ls hR hS h3 hl9 => va_ldcS C9.1 C9.2.1 C9.2.2.2.2.1 (hk s H hR.2.1) hd (k9 p e s m args below meth c C9 H locs ls hR hS h3 hl9)
theorem h_in {w : Cond} (h : w ∈ tables_1) (hg : goodWord w = true) : w ∈ lw_g := List.mem_filter.mpr ⟨List.mem_append_right _ h, hg⟩
theorem h_ins {q : MethodName × Nat} (i : Nat) (h : lw_privs[i]? = some q) : Cond.selects q.1.cls q.1 q.1 ∈ lw_g := List.mem_filter.mpr ⟨List.mem_append_left _ (List.mem_map.mpr ⟨q, List.mem_of_getElem? h, rfl⟩), rfl⟩
end HG3
