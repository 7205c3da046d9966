/-- both objects fresh -/
def frI (A : Nat → ClassId) (ax nc am nm : Nat) (σ : hS) : Prop := smNew A σ ax nc ∧ mmNew A σ am nm ∧ ax < nc ∧ nc + 1078 ≤ am ∧ am < nm
theorem mm_fr {A : Nat → ClassId} {F : Nat → Prop} {σ σ1 : hS} {am nm : Nat} (h : mmNew A σ am nm) (hf : h_fr F σ σ1) (hF : ∀ q : Nat, am ≤ q → ¬ F q) (hlt : am < nm) : mmNew A σ1 am nm := mmNew_cg h (hf.1 _ (hF _ (Nat.le_refl _))) (fun k _ => hf.1 _ (hF _ (by omega)))
section ONE
variable {l : Launch} {D : va_G} {A : Nat → ClassId} {B : Nat} {Z : State → Heap → Prop} {d ax nc am nm : Nat}
theorem one_feed (hZ : h_st B Z) (hd : 10 ≤ d) (x0 x1 x2 x3 x4 : Int32) : l_stI l D A B Z d ax am (frI A ax nc am nm) (fun _ => True) mX11_feed mX12_feed [.int x0, .int x1, .int x2, .int x3, .int x4] := by
  intro σ hI
  obtain ⟨hc, hm, o1, o2, o3⟩ := hI
  obtain ⟨ha, -, -, -, -, -, hf, -⟩ := sm_f hc
  refine ⟨h_rcO (r := (RX11, TX11, 17)) ha rfl, _, ct_feed hZ ha hf (by decide) (by omega), fun σ1 v h => ⟨1, h.1, ?_⟩⟩
  obtain ⟨hb, -, -, -, -, -, -, -, hg, -⟩ := mm_f (mm_fr hm h.2.2 (fun q hq => by omega) o3)
  exact ⟨h_rcO (r := (RX12, TX12, 153)) hb rfl, _, cm_feed hZ hb hg (ts := 0) rfl (by decide) (by omega), fun σ2 v' h' => ⟨h'.1, trivial⟩⟩
theorem one_connect {vF : Value} (hs : zs B Z vF) {q1 w1 q2 w2 : Nat} (hk1 : ∀ (U : State) (H : Heap), Z U H → vk_R RX0 39 "220 here LMTP" q1 U) (hc1 : sC B Z q1 w1 S220) (hk2 : ∀ (U : State) (H : Heap), Z U H → vk_R RX12 1027 "220 here LMTP" q2 U) (hc2 : sC B Z q2 w2 S220) (hd : 10 ≤ d) : l_stI l D A B Z d ax am (frI A ax nc am nm) (fun _ => True) mX11_connect mX12_connect [] := by
  intro σ hI
  obtain ⟨hc, hm, o1, o2, o3⟩ := hI
  obtain ⟨ha, -, -, hq, -, -, -, hdl, ht1, ht2⟩ := sm_f hc
  refine ⟨h_rcO (r := (RX11, TX11, 17)) ha rfl, _, ct_connect hs hk1 hc1 ha hdl ht1 ht2 (hq.2 4 (by decide)) (by omega), fun σ1 v h => ?_⟩
  rcases h with ⟨-, h1, -, -, -, -, h2⟩ | ⟨h1, -⟩
  · obtain ⟨hb, -, -, -, -, -, -, -, -, -, hmq⟩ := mm_f (mm_fr hm h2 (fun q hq => by omega) o3)
    refine ⟨1, h1, h_rcO (r := (RX12, TX12, 153)) hb rfl, _, cm_connect hs hk2 hc2 hb o3 hmq (by omega), fun σ2 v' h' => ?_⟩
    rcases h' with ⟨-, h2, -⟩ | ⟨h2, -⟩
    · exact ⟨h2, trivial⟩
    · exact absurd h2 (by decide)
  · exact absurd h1 (by decide)
theorem one_mail (hZ : h_st B Z) (x0 : Int32) : l_stI l D A B Z d ax am (frI A ax nc am nm) (fun _ => True) mX11_mail mX12_mail [.int x0] := by
  intro σ hI
  obtain ⟨hc, hm, o1, o2, o3⟩ := hI
  obtain ⟨ha, -, -, -, -, -, -, hdl, -⟩ := sm_f hc
  refine ⟨h_rcO (r := (RX11, TX11, 17)) ha rfl, _, ct_mail0 hZ ha hdl rfl, fun σ1 v h => ⟨-1, h.2, ?_⟩⟩
  obtain ⟨rfl, -⟩ := h
  obtain ⟨hb, -⟩ := mm_f hm
  exact ⟨h_rcO (r := (RX12, TX12, 153)) hb rfl, _, cm_mail0 hZ hb rfl, fun σ2 v' h' => ⟨h'.2, trivial⟩⟩
theorem one_manage (hZ : h_st B Z) (x0 x1 : Int32) : l_stI l D A B Z d ax am (frI A ax nc am nm) (fun _ => True) mX11_manage mX12_manage [.int x0, .int x1] := by
  intro σ hI
  obtain ⟨hc, hm, o1, o2, o3⟩ := hI
  obtain ⟨ha, -, -, -, -, hse, -⟩ := sm_f hc
  refine ⟨h_rcO (r := (RX11, TX11, 17)) ha rfl, _, ct_manage0 hZ ha hse, fun σ1 v h => ?_⟩
  obtain ⟨h, hf, -⟩ := h
  obtain ⟨hb, -⟩ := mm_f (mm_fr hm hf (fun q hq => by omega) o3)
  have h10 : ¬ (1 : Int32) = 0 := by decide
  have h10' : ¬ mV0 0 = 0 := by decide
  rcases h with ⟨-, u, hu, e1, e2, hv⟩ | ⟨hn, hv⟩
  · refine ⟨0, hv, h_rcO (r := (RX12, TX12, 153)) hb rfl, _, cm_manage0 hZ hb rfl, fun σ2 v' h' => ?_⟩
    rcases h'.1 with ⟨-, u', hu', e1', e2', hv'⟩ | ⟨hn, -⟩
    · exact ⟨hv', trivial⟩
    · exact absurd ⟨h10', u, hu, e1, e2⟩ hn
  · refine ⟨-1, hv, h_rcO (r := (RX12, TX12, 153)) hb rfl, _, cm_manage0 hZ hb rfl, fun σ2 v' h' => ?_⟩
    rcases h'.1 with ⟨-, u, hu, e1, e2, -⟩ | ⟨-, hv'⟩
    · exact absurd ⟨h10, u, hu, e1, e2⟩ hn
    · exact ⟨hv', trivial⟩
theorem one_reply (hZ : h_st B Z) (hd : 10 ≤ d) (x0 : Int32) : l_stL l D A B Z d ax am (frI A ax nc am nm) (fun _ => True) mX11_reply mX12_reply [.int x0] := by
  intro σ hI
  obtain ⟨hc, hm, o1, o2, o3⟩ := hI
  obtain ⟨ha, -, -, hq, -⟩ := sm_f hc
  refine ⟨h_rcO (r := (RX11, TX11, 17)) ha rfl, _, ct_reply hZ ha hq (by omega), fun σ1 v h => ?_⟩
  have hb : v = some (.long 0) ∧ mmNew A σ1 am nm := by
    rcases h with ⟨s, hs, -, hv, -, hf⟩ | ⟨-, hv, e⟩
    · exact ⟨hv.trans (by decide +kernel), mm_fr hm hf (fun q hq => by unfold quA; split <;> omega) o3⟩
    · subst e; exact ⟨hv, hm⟩
  obtain ⟨hb', -, -, -, -, -, -, -, -, hss, -⟩ := mm_f hb.2
  exact ⟨0, hb.1, h_rcO (r := (RX12, TX12, 153)) hb' rfl, _, cm_reply0 hZ hb' hss (fun _ _ => rfl), fun σ2 v' h' => ⟨h'.2, trivial⟩⟩
theorem one_tick (hZ : h_st B Z) (hd : 10 ≤ d) : l_stI l D A B Z d ax am (frI A ax nc am nm) (fun _ => True) mX11_tick mX12_tick [] := by
  intro σ hI
  obtain ⟨hc, hm, o1, o2, o3⟩ := hI
  obtain ⟨ha, -⟩ := sm_f hc
  refine ⟨h_rcO (r := (RX11, TX11, 17)) ha rfl, _, ct_tick1 hZ ha (by decide) (by decide) (by omega), fun σ1 v h => ⟨1, h.1, ?_⟩⟩
  obtain ⟨hb, -⟩ := mm_f (mm_fr hm h.2.2 (fun q hq => by omega) o3)
  exact ⟨h_rcO (r := (RX12, TX12, 153)) hb rfl, _, cm_tick0 hZ hb rfl (by omega), fun σ2 v' h' => ⟨h'.1, trivial⟩⟩
theorem one_cut (hZ : h_st B Z) (x0 : Int32) : l_stI l D A B Z d ax am (frI A ax nc am nm) (fun _ => True) mX11_cut mX12_cut [.int x0] := by
  intro σ hI
  obtain ⟨hc, hm, o1, o2, o3⟩ := hI
  obtain ⟨ha, -⟩ := sm_f hc
  refine ⟨h_rcO (r := (RX11, TX11, 17)) ha rfl, _, ct_cut hZ ha, fun σ1 v h => ⟨_, h.1, ?_⟩⟩
  obtain ⟨hb, -⟩ := mm_f (mm_fr hm h.2.2 (fun q hq => by omega) o3)
  exact ⟨h_rcO (r := (RX12, TX12, 153)) hb rfl, _, cm_cut hZ hb, fun σ2 v' h' => ⟨h'.1, trivial⟩⟩
theorem one_start (hZ : h_st B Z) : l_stI l D A B Z d ax am (frI A ax nc am nm) (fun _ => True) mX11_start mX12_start [] := by
  intro σ hI
  obtain ⟨hc, hm, o1, o2, o3⟩ := hI
  obtain ⟨ha, -⟩ := sm_f hc
  refine ⟨h_rcO (r := (RX11, TX11, 17)) ha rfl, _, ct_start hZ ha, fun σ1 v h => ⟨-1, h.1, ?_⟩⟩
  obtain ⟨hb, -⟩ := mm_f (mm_fr hm h.2.2 (fun q hq => by omega) o3)
  exact ⟨h_rcO (r := (RX12, TX12, 153)) hb rfl, _, cm_start hZ hb, fun σ2 v' h' => ⟨h'.1, trivial⟩⟩
theorem one_messages (hZ : h_st B Z) (hd : 10 ≤ d) (x0 x1 : Int32) : l_stI l D A B Z d ax am (frI A ax nc am nm) (fun _ => True) mX11_messages mX12_messages [.int x0, .int x1] := by
  intro σ hI
  obtain ⟨hc, hm, o1, o2, o3⟩ := hI
  obtain ⟨ha, hu, hml, -⟩ := sm_f hc
  obtain ⟨hb, hbb, -⟩ := mm_f hm
  refine ⟨h_rcO (r := (RX11, TX11, 17)) ha rfl, _, ct_messages hZ ha hu (hml (fun _ => 0) (fun _ => 0) (fun _ => 0) (fun _ => 0) (fun _ => 0) (fun _ => 0) (fun _ => 0)) (by omega), fun σ1 v h => ?_⟩
  obtain ⟨rfl, h⟩ := h
  rcases h with ⟨hbx, hv⟩ | ⟨hbx, hv⟩
  · refine ⟨0, hv, h_rcO (r := (RX12, TX12, 153)) hb rfl, _, cm_messages0 hZ hb hbb (bx := fun _ => 1) (fun u hu => ⟨mR_b u hu, by decide⟩) ⟨rfl, rfl⟩ (by omega), fun σ2 v' h' => ?_⟩
    rcases h'.2 with ⟨-, h2⟩ | ⟨h2, -⟩
    · exact ⟨h2, trivial⟩
    · exact absurd hbx h2
  · refine ⟨-1, hv, h_rcO (r := (RX12, TX12, 153)) hb rfl, _, cm_messages0 hZ hb hbb (bx := fun _ => 1) (fun u hu => ⟨mR_b u hu, by decide⟩) ⟨rfl, rfl⟩ (by omega), fun σ2 v' h' => ?_⟩
    rcases h'.2 with ⟨h2, -⟩ | ⟨-, h2⟩
    · exact absurd h2 hbx
    · exact ⟨h2, trivial⟩
theorem one_message (hZ : h_st B Z) (hd : 10 ≤ d) (x0 x1 x2 x3 : Int32) : l_stI l D A B Z d ax am (frI A ax nc am nm) (fun _ => True) mX11_message mX12_message [.int x0, .int x1, .int x2, .int x3] := by
  intro σ hI
  obtain ⟨hc, hm, o1, o2, o3⟩ := hI
  obtain ⟨ha, hu, hml, -⟩ := sm_f hc
  obtain ⟨hb, hbb, -⟩ := mm_f hm
  refine ⟨h_rcO (r := (RX11, TX11, 17)) ha rfl, _, ct_message hZ ha hu (hml (fun _ => 0) (fun _ => 0) (fun _ => 0) (fun _ => 0) (fun _ => 0) (fun _ => 0) (fun _ => 0)) (tl := fun _ => 0) (tf := fun _ _ => 0) (fun j hj => absurd hj (Nat.not_lt_zero j)) (by omega), fun σ1 v h => ?_⟩
  obtain ⟨rfl, h⟩ := h
  have hv : v = some (.int (-1)) := by
    rcases h with ⟨-, k, hk, -⟩ | ⟨-, hv⟩
    · exact absurd hk (Nat.not_lt_zero k)
    · exact hv
  exact ⟨-1, hv, h_rcO (r := (RX12, TX12, 153)) hb rfl, _, cm_message0 hZ hb hbb (bx := fun _ => 1) (fun u hu => ⟨mR_b u hu, by decide⟩) ⟨rfl, rfl⟩ (by omega), fun σ2 v' h' => ⟨h'.2, trivial⟩⟩
theorem one_bytes (hZ : h_st B Z) (hd : 10 ≤ d) (x0 x1 : Int32) : l_stL l D A B Z d ax am (frI A ax nc am nm) (fun _ => True) mX11_bytes mX12_bytes [.int x0, .int x1] := by
  intro σ hI
  obtain ⟨hc, hm, o1, o2, o3⟩ := hI
  obtain ⟨ha, hu, hml, -⟩ := sm_f hc
  obtain ⟨hb, -⟩ := mm_f hm
  refine ⟨h_rcO (r := (RX11, TX11, 17)) ha rfl, _, ct_bytes hZ ha (hml (fun _ => 0) (fun _ => 0) (fun _ => 0) (fun _ => 0) (fun _ => 0) (fun _ => 0) (fun _ => 0)) (tl := fun _ => 0) (tf := fun _ _ => 0) (fun j hj => absurd hj (Nat.not_lt_zero j)) (by omega), fun σ1 v h => ?_⟩
  obtain ⟨rfl, h⟩ := h
  have hv : v = some (.long (-1)) := by
    rcases h with ⟨k, j, hk, -⟩ | ⟨-, hv⟩
    · exact absurd hk (Nat.not_lt_zero k)
    · exact hv
  exact ⟨-1, hv, h_rcO (r := (RX12, TX12, 153)) hb rfl, _, cm_bytes0 hZ hb ⟨rfl, rfl⟩, fun σ2 v' h' => ⟨h'.2, trivial⟩⟩
theorem nm_same {u : Nat} (hu : u < 4) (j : Nat) : nm8 ibF 0 5 j = e8 (rb mR_boxText (20 * (6 * u + 0)) j 5) 8 := by
  unfold nm8
  refine e8_cg 8 (fun x hx => ?_)
  unfold by8 rb
  by_cases h : j + x < 5
  · rw [if_pos (by omega), if_pos h, show 20 * (6 * u + 0) + j + x = 120 * u + (j + x) by omega, mR_t u hu _ h]; show ibF (0 + (j + x)) &&& 255 = _; rw [Nat.zero_add]
  · rw [if_neg (by omega), if_neg h]
theorem one_name (hZ : h_st B Z) (hd : 10 ≤ d) (x0 x1 x2 : Int32) : l_stL l D A B Z d ax am (frI A ax nc am nm) (fun _ => True) mX11_name mX12_name [.int x0, .int x1, .int x2] := by
  intro σ hI
  obtain ⟨hc, hm, o1, o2, o3⟩ := hI
  obtain ⟨ha, hu, hml, -, hub, -⟩ := sm_f hc
  obtain ⟨hb, hbb, hbt, hbs, hst, hzz, -⟩ := mm_f hm
  have HM := fun (d' : Nat) (h' : 1 ≤ d') => cm_name (l := l) (D := D) hZ (d := d') hb hbb (bx := fun _ => 1) (fun u hu => ⟨mR_b u hu, by decide⟩) hst hbt hzz hbs (sz := fun _ => 0) (sn := 0) rfl (by decide) (fun k hk => absurd hk (Nat.not_lt_zero k)) (bl := fun _ _ => 5) (fun u k hu hk => by rw [show k = 0 from Nat.lt_one_iff.mp hk]; exact ⟨mR_z u hu, by decide⟩) h' (u := x0) (b := x1) (i := x2)
  refine ⟨h_rcO (r := (RX11, TX11, 17)) ha rfl, _, ct_name hZ ha hu (hml (fun _ => 0) (fun _ => 0) (fun _ => 0) (fun _ => 0) (fun _ => 0) (fun _ => 0) (fun _ => 0)) (ll := fun _ => 0) (lf := fun _ _ => 0) (fun j hj => absurd hj (Nat.not_lt_zero j)) hub (by omega), fun σ1 v h => ?_⟩
  obtain ⟨rfl, h⟩ := h
  rcases h with ⟨j, hj, ei, h⟩ | ⟨hn, hv⟩
  · rcases h with ⟨-, k, hk, -⟩ | ⟨hu4, u', b', hu', hb', e1, e2, hv⟩
    · exact absurd hk (Nat.not_lt_zero k)
    · refine ⟨_, hv, h_rcO (r := (RX12, TX12, 153)) hb rfl, _, HM d (by omega), fun σ2 v' h' => ?_⟩
      rcases h'.2 with ⟨j2, hj2, ei2, h⟩ | ⟨hn, -⟩
      · rcases h with ⟨-, k, hk, -⟩ | ⟨-, u2, b2, hu2, hb2, e3, e4, hv2⟩
        · exact absurd hk (Nat.not_lt_zero k)
        · have g1 := (nI_eq hj hj2).mp (ei.symm.trans ei2)
          have g2 := (nI_eq (a := u') (b := u2) (by omega) (by omega)).mp (e1.symm.trans e3)
          subst g1
          subst g2
          refine ⟨hv2.trans ?_, trivial⟩
          rw [show b2 = 0 from Nat.lt_one_iff.mp hb2, nm_same hu']
      · exact absurd ⟨j, hj, ei, Or.inr ⟨hu4, u', b', hu', hb', e1, e2⟩⟩ hn
  · refine ⟨-1, hv, h_rcO (r := (RX12, TX12, 153)) hb rfl, _, HM d (by omega), fun σ2 v' h' => ?_⟩
    rcases h'.2 with ⟨j2, hj2, ei2, h⟩ | ⟨-, hv'⟩
    · rcases h with ⟨-, k, hk, -⟩ | ⟨hu4, u2, b2, hu2, hb2, e3, e4, hv2⟩
      · exact absurd hk (Nat.not_lt_zero k)
      · exact absurd ⟨j2, hj2, ei2, Or.inr ⟨hu4, u2, b2, hu2, hb2, e3, e4⟩⟩ hn
    · exact ⟨hv', trivial⟩
theorem one_count (hZ : h_st B Z) (hd : 10 ≤ d) (x0 : Int32) : l_stI l D A B Z d ax am (frI A ax nc am nm) (fun _ => True) mX11_count mX12_count [.int x0] := by
  intro σ hI
  obtain ⟨hc, hm, o1, o2, o3⟩ := hI
  obtain ⟨ha, hu, -, -, -, -, -, hdl, -⟩ := sm_f hc
  obtain ⟨hb, hbb, -, -, -, -, hsc, hnt, -⟩ := mm_f hm
  have HM := fun (d' : Nat) => cm_count (l := l) (D := D) hZ (d := d') hb hsc hnt hbb (sc := fun _ => 0) (nc := fun _ => 0) (bx := fun _ => 1) (fun u hu => ⟨rfl, rfl, mR_b u hu⟩) (q := x0)
  refine ⟨h_rcO (r := (RX11, TX11, 17)) ha rfl, _, ct_count hZ ha hu hdl (by omega), fun σ1 v h => ?_⟩
  obtain ⟨rfl, h⟩ := h
  rcases h with ⟨j, hj, e, hv⟩ | ⟨hn, r, hv, h⟩
  · refine ⟨_, hv, h_rcO (r := (RX12, TX12, 153)) hb rfl, _, HM d, fun σ2 v' h' => ?_⟩
    rcases h'.2 with ⟨j2, hj2, e2, hv2⟩ | ⟨hn, -⟩
    · have g := (nI_eq (a := j) (b := j2) (by omega) (by omega)).mp (e.symm.trans e2)
      subst g
      refine ⟨hv2.trans ?_, trivial⟩
      rcases (show j = 0 ∨ j = 1 ∨ j = 2 ∨ j = 3 ∨ j = 4 ∨ j = 5 ∨ j = 6 ∨ j = 7 by omega) with rfl | rfl | rfl | rfl | rfl | rfl | rfl | rfl <;> decide +kernel
    · exact absurd e (hn j hj)
  · refine ⟨_, hv, h_rcO (r := (RX12, TX12, 153)) hb rfl, _, HM d, fun σ2 v' h' => ?_⟩
    rcases h'.2 with ⟨j2, hj2, e2, -⟩ | ⟨-, r2, hv2, h2⟩
    · exact absurd e2 (hn j2 hj2)
    · refine ⟨hv2.trans ?_, trivial⟩
      rcases h with ⟨k, u, k1, k3, hu4, e, hr⟩ | ⟨hno, hr⟩
      · rcases h2 with ⟨k', u', k1', k3', hu4', e', hr'⟩ | ⟨hno, -⟩
        · have g := (nI_eq (a := 10 * k + u) (b := 10 * k' + u') (by omega) (by omega)).mp (e.symm.trans e')
          have g1 : k = k' := by omega
          have g2 : u = u' := by omega
          rw [hr, hr', g1, g2]
        · exact absurd ⟨k, u, k1, k3, hu4, e⟩ hno
      · rcases h2 with ⟨k', u', k1', k3', hu4', e', -⟩ | ⟨-, hr'⟩
        · exact absurd ⟨k', u', k1', k3', hu4', e'⟩ hno
        · rw [hr, hr']
theorem one_all {vF : Value} (hs : zs B Z vF) {q1 w1 q2 w2 : Nat} (hk1 : ∀ (U : State) (H : Heap), Z U H → vk_R RX0 39 "220 here LMTP" q1 U) (hc1 : sC B Z q1 w1 S220) (hk2 : ∀ (U : State) (H : Heap), Z U H → vk_R RX12 1027 "220 here LMTP" q2 U) (hc2 : sC B Z q2 w2 S220) (hd : 10 ≤ d) : l_all l D A B Z d ax am (frI A ax nc am nm) (fun _ => True) :=
  ⟨fun _ _ => trivial, one_feed hs.1 hd, one_connect hs hk1 hc1 hk2 hc2 hd, one_mail hs.1, one_manage hs.1, one_reply hs.1 hd, one_tick hs.1 hd, one_cut hs.1, one_start hs.1, one_messages hs.1 hd, one_message hs.1 hd, one_bytes hs.1 hd, one_name hs.1 hd, one_count hs.1 hd⟩
end ONE
