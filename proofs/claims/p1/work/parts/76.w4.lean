set_option maxRecDepth 100000 in
set_option maxHeartbeats 4000000 in
/-- the law's start, out of an invariant of the typed state -/
theorem start_of {p : Program} {e : Env} {s : State} {m : MethodId} {below : List Frame} {meth : Method} {c : Code} (l : Launch) {b L : Nat} {xs : Nat → Int32} (hL : L ≤ 3072) (C0 : lw_At p s m meth c b L xs) {I : Nat → uS → Prop} (h0 : I 0 u_0) (h : ∀ j : Nat, j < 512 → sm_all (I j) (I (j + 1))) : W p l e room_1 s m #[Value.ref b] below meth c s.heap [] 0 0 (lw_Z below #[Value.ref b] s) (entryFrame m ([Value.ref b] : List Value).toArray 4) := by
  obtain ⟨hx, hb, hr, hml, hown, hts, hX, hbl, hlocks, hgv⟩ := id C0
  have hn : narrow_1.before #[Value.ref b] s = true := by
    rw [Cond.before_and, Bool.and_eq_true] at hgv
    exact hgv.2
  obtain ⟨D, hD⟩ := l_cls (s := s) (args := #[Value.ref b]) (fun w hw => hts w (List.mem_filter.mp hw).1)
  obtain ⟨A0, hA0⟩ := l_arr hts
  obtain ⟨qN, hN⟩ := kl_0 hts hn
  obtain ⟨A, hA9, hA100⟩ : ∃ A : Nat → ClassId, h_ty A = h_ty A0 ∧ A 100 = qN := ⟨fun k => if k = 100 then qN else A0 k, rfl, rfl⟩
  have hA : ∀ (k : Nat) (q : ClassId × FieldType), (h_ty A)[k]? = some q → ArrOfT s q.1 q.2 ∧ va_RA s q.1 q.2 := by rw [hA9]; exact hA0
  have un := hN A hA100
  obtain ⟨⟨vF, hs⟩, hao, hnw, ⟨q1, w1, k1, c1⟩, ⟨q2, w2, k2, c2⟩, ⟨q3, w3, k3, c3⟩, ⟨q4, w4, k4, c4⟩⟩ := l_con hts hn
  have uk : uK s.heap.size (Zc s s.heap.size) vF := ⟨hs, ks_all hts hn, kt_all hts hn⟩
  have hXz : ∀ (U : State) (H : Heap), Zc s s.heap.size U H → va_X b L xs U H := Zc.get (st_X hbl) hX
  refine law_W C0 (D := D) (A := A) ⟨hD, hA⟩ (fun nm => ?_)
  refine law_make hs hao hnw k3 c3 k4 c4 (by decide) rfl (fun σ hI z1 z2 => ?_)
  exact law_loop uk un h (P := fun _ v => v = some (.int 1)) hXz hL (by decide) (fun _ => rfl) 512 0 σ rfl ⟨u_0, u0_st hI z1 z2, h0⟩
