/-! all recipients of a message that is too big -/
def dB (dy : Nat) (rcs : List (List Nat)) (us : List Nat) (s t : uS) : Prop := wW dy s t ∧ (∃ cm ct : Nat, cN s true dy cm ct ∧ rN t true dy cm ct) ∧ (1171 ≤ s.n ∧ 1171 ≤ t.n) ∧ lsO t ∧ s.I 1042 3 = 4001 ∧ (∃ L : Nat, 4000 < L ∧ L ≤ 1000000 ∧ t.I 1079 13 = nI L) ∧ rRc t rcs us
theorem t_oneB {s t : uS} {dy ri : Nat} {rcs : List (List Nat)} {us : List Nat} (K20 : Int32 → Int32 → uS → Option uS) (h : dB dy rcs us s t) (hi : ri < rcs.length) : ∃ s1 t1 : uS, fb_X11_deliver_20 K20 (nI rcs.length) (nI ri) s = K20 (nI rcs.length) (nI (ri + 1)) s1 ∧ fn_X12_deliver (nI ri) t = some (t1, true) ∧ dB dy rcs us s1 t1 ∧ sW cS s s1 ∧ s1.I 0 9 = s.I 0 9 ∧ tY t t1 ∧ s1.n = s.n ∧ s1.m = s.m := by
  obtain ⟨hw, ⟨cm, ct, hcn, hrn⟩, ⟨hn, hnt⟩, hls, h3, ⟨L, hL1, hL2, hL3⟩, hRc⟩ := h
  have hr4 := hRc.2.1
  obtain ⟨t1, a1, a2, a3, a4⟩ := r_take hRc hi
  have y1 : tY t t1 := tY_out a4 (fun f b z => by unfold rkI at z; unfold yB at b; omega) (fun k f b z => by unfold rkF at z; unfold yA at b; omega)
  have x1 : tX t t1 := tX_out a4 (fun f b z => by unfold rkI at z; unfold xB at b; omega) (fun k f b z => by unfold rkF at z; unfold xA at b; omega)
  have hw1 : wW dy s t1 := hw.o hn oc_r x1
  have hls1 : lsO t1 := fun n hn' => by
    rw [a4.2.2 _ _ (by unfold rkF; omega), a4.2.2 _ _ (by unfold rkF; omega)]
    exact hls n hn'
  have J1 : ∀ f : Nat, f ≤ 3 → t1.I 1079 f = t.I 1079 f := fun f hf => a4.2.1 _ _ (by unfold rkI; omega)
  have hrn1 : rN t1 true dy cm ct := by obtain ⟨z1, z2, z3, z4, z5⟩ := hrn; exact ⟨(J1 _ (by omega)).trans z1, (J1 _ (by omega)).trans z2, (J1 _ (by omega)).trans z3, (J1 _ (by omega)).trans z4, z5⟩
  have i13 : t1.I 1079 13 = nI L := (y1.2.1 _ (by unfold yB; omega)).trans hL3
  obtain ⟨s2, t2, q1, q2, q3⟩ := q_lineP (show 4 < 5 by decide) (w := kW_1) (by decide) (hw1.2.2.2.1 4 (by decide))
  obtain ⟨w1, w2⟩ := q3.cs
  refine ⟨s2, t2, ?_, ?_, ⟨hw1.q hn q3, q3.cn ⟨cm, ct, hcn, hrn1⟩, ⟨Nat.le_trans hn w1.1, Nat.le_trans hnt (tY_t y1 w2).1⟩, q3.ls hls1, ?_, ⟨L, hL1, hL2, (w2.2.1 _ (by unfold yB; omega)).trans i13⟩, hRc.ty (tY_t y1 w2)⟩, w1, q3.2.1.2.1 _ _ (fun z => by have := qC4 z; omega), tY_t y1 w2, q3.2.1.1.2.2.2.2.1, q3.2.1.1.2.2.2.2.2⟩
  · unfold fb_X11_deliver_20 fn_X0_isTooBig
    rw [if_neg (nI_ge hi (by omega)), hcn.1, if_neg (by decide), h3, if_neg (by decide), Option.bind_some, if_pos rfl, show pgt 24 s 2 4 = some (qk 4) from pgt_que (show 4 < 5 by decide), Option.bind_some, if_pos (so_que (show 4 < 5 by decide)), q1, Option.bind_some, nI_1]
  · rw [a1, i13, if_neg (show ¬ nI L ≤ 4000 from nI_ge (a := 4000) hL1 (by omega)), show kW_159 = kW_1 from rfl, show (4 : Int32) = nI 4 from rfl, q2, Option.bind_some]
  · rw [(w1.2 1042 (by omega) (by unfold cS; omega)).2.1]; exact h3
theorem t_dlvB {dy : Nat} {rcs : List (List Nat)} {us : List Nat} : ∀ (d N ri : Nat) (s t : uS), ri + d = rcs.length → d + 2 ≤ N → dB dy rcs us s t → ∃ s1 t1 : uS, fn_X11_deliver_20 N (nI rcs.length) (nI ri) s = fb_X11_deliver_181 s1 ∧ fn_X12_dataLine_57 N true (nI ri) t = fb_X12_dataLine_81 true t1 ∧ dB dy rcs us s1 t1 ∧ sW cS s s1 ∧ s1.I 0 9 = s.I 0 9 ∧ tY t t1 ∧ s1.n = s.n ∧ s1.m = s.m := by
  intro d
  induction d with
  | zero =>
    intro N ri s t h1 h2 h
    obtain ⟨M, rfl⟩ : ∃ M, N = M + 1 := ⟨N - 1, by omega⟩
    have hRc := h.2.2.2.2.2.2
    have hr4 := hRc.2.1
    refine ⟨s, t, ?_, ?_, h, sW_r, rfl, ⟨Nat.le_refl _, fun _ _ => rfl, fun _ _ => ⟨rfl, rfl⟩⟩, rfl, rfl⟩
    · show fb_X11_deliver_20 (fn_X11_deliver_20 M) (nI rcs.length) (nI ri) s = _
      unfold fb_X11_deliver_20
      rw [if_pos (nI_le (by omega) (by omega))]
    · show fb_X12_dataLine_57 (fn_X12_dataLine_57 M) true (nI ri) t = _
      unfold fb_X12_dataLine_57
      rw [hRc.2.2.1, if_pos (nI_le (by omega) (by omega))]
  | succ d ih =>
    intro N ri s t h1 h2 h
    obtain ⟨M, rfl⟩ : ∃ M, N = M + 1 := ⟨N - 1, by omega⟩
    have hRc := h.2.2.2.2.2.2
    have hr4 := hRc.2.1
    have hi : ri < rcs.length := by omega
    obtain ⟨s1, t1, a1, a2, a3, a4, a5, a6, a7, a8⟩ := t_oneB (fn_X11_deliver_20 M) h hi
    obtain ⟨s2, t2, b1, b2, b3, b4, b5, b6, b7, b8⟩ := ih M (ri + 1) s1 t1 (by omega) (by omega) a3
    refine ⟨s2, t2, Eq.trans (show fn_X11_deliver_20 (M + 1) (nI rcs.length) (nI ri) s = _ from a1) b1, ?_, b3, sW_t a4 b4, b5.trans a5, tY_t a6 b6, b7.trans a7, b8.trans a8⟩
    show fb_X12_dataLine_57 (fn_X12_dataLine_57 M) true (nI ri) t = _
    unfold fb_X12_dataLine_57
    rw [hRc.2.2.1, if_neg (nI_ge hi (by omega)), if_pos rfl, a2, Option.bind_some, nI_1]
    exact b2
