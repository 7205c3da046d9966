/-! a recipient is answered -/
theorem qC4 {k f : Nat} (h : qC 4 k f) : k = 1040 ∨ k = 1041 := by
  unfold qC at h
  rw [show qk 4 = 1040 from rfl] at h
  omega
theorem q_rng {n4 : Nat} {x : List Nat} {k fr : Nat} (hx : x.length ≤ 101) (hb : bys x) (hk : k = 1048) (hfr : fr + x.length ≤ 404) : ∀ (d N i : Nat) (s t : uS), i + d = x.length → d + 1 ≤ N → pQ1 4 s t → (∀ j : Nat, j < x.length → s.F k (fr + j) = sb (x.getD j 0)) → rTe t 91 1136 x → ∃ s1 t1 : uS, fn_X5_range_3 N (qk 4) k (nI (fr + x.length)) (nI (fr + i)) s = some s1 ∧ fn_X12_deliver_357 N (nI i) t = (fn_X12_line 4 kW_162 t1).bind (fun s3 => some (s3, true)) ∧ pQo 4 s t s1 t1 := by
  subst hk
  intro d
  induction d with
  | zero =>
    intro N i s t h1 h2 hq hs ht
    obtain ⟨M, rfl⟩ : ∃ M, N = M + 1 := ⟨N - 1, by omega⟩
    refine ⟨s, t, ?_, ?_, hq, out_r, out_r⟩
    · show fb_X5_range_3 (fn_X5_range_3 M) (qk 4) 1048 (nI (fr + x.length)) (nI (fr + i)) s = _
      unfold fb_X5_range_3
      rw [if_pos (nI_le (by omega) (by omega))]
    · show fb_X12_deliver_357 (fn_X12_deliver_357 M) (nI i) t = _
      unfold fb_X12_deliver_357
      rw [ht.1, if_pos (nI_le (by omega) (by omega))]
  | succ d ih =>
    intro N i s t h1 h2 hq hs ht
    obtain ⟨M, rfl⟩ : ∃ M, N = M + 1 := ⟨N - 1, by omega⟩
    obtain ⟨s1, t1, a1, a2, a3⟩ := q_put (show 4 < 5 by decide) hq (x := sb (x.getD i 0)) (y := nI (x.getD i 0)) (sb_i8e (hb i))
    obtain ⟨s2, t2, b1, b2, b3⟩ := ih M (i + 1) s1 t1 (by omega) (by omega) a3.1 (fun j hj => (a3.2.1.2.2 _ _ (by intro z; have := qC4 z; omega)).trans (hs j hj)) ⟨(a3.2.2.2.1 _ _ (fun z => z)).trans ht.1, ht.2.1, ht.2.2.1, fun j hj => (a3.2.2.2.2 _ _ (by unfold qR; omega)).trans (ht.2.2.2 j hj)⟩
    refine ⟨s2, t2, ?_, ?_, a3.tr b3⟩
    · show fb_X5_range_3 (fn_X5_range_3 M) (qk 4) 1048 (nI (fr + x.length)) (nI (fr + i)) s = _
      unfold fb_X5_range_3
      rw [if_neg (nI_ge (by omega) (by omega)), g_1048 (by omega), Option.bind_some, hs i (by omega), a1, Option.bind_some, nI_1]
      exact b1
    · show fb_X12_deliver_357 (fn_X12_deliver_357 M) (nI i) t = _
      unfold fb_X12_deliver_357
      rw [ht.1, if_neg (nI_ge (by omega) (by omega)), g_1136 (by omega), Option.bind_some, ht.2.2.2 i (by omega), show (4 : Int32) = nI 4 from rfl, a2, Option.bind_some, nI_1]
      exact b2
theorem t_ansD {s t : uS} {ri b4 : Nat} {rcs : List (List Nat)} (hq : pQ1 4 s t) (hr : cTz s 1047 404 4 rcs b4 []) (hi : ri < rcs.length) (ht : rTe t 91 1136 (rcs.getD ri [])) : ∃ s1 t1 : uS, fn_X0_answerDelivered (nI ri) s = some s1 ∧ fb_X12_deliver_346 t = some (t1, true) ∧ pQo 4 s t s1 t1 := by
  obtain ⟨s1, t1, a1, a2, a3⟩ := q_text (show 4 < 5 by decide) (w := kW_12) (by decide) hq
  have hr1 : cTz s1 1047 404 4 rcs b4 [] := hr.o a3.2.1 (fun f => by intro z; have := qC4 z; omega) (fun f => by intro z; have := qC4 z; omega) (fun f => by intro z; have := qC4 z; omega) (fun f => by intro z; have := qC4 z; omega)
  have ht1 : rTe t1 91 1136 (rcs.getD ri []) := ⟨(a3.2.2.2.1 _ _ (fun z => z)).trans ht.1, ht.2.1, ht.2.2.1, fun j hj => (a3.2.2.2.2 _ _ (by unfold qR; omega)).trans (ht.2.2.2 j hj)⟩
  obtain ⟨fr, c1, c2, c3, c4⟩ := tz_rd uTx_rc hr1 hi
  have hF : ∀ j : Nat, j < (rcs.getD ri []).length → s1.F 1048 (fr + j) = sb ((rcs.getD ri []).getD j 0) := by
    intro j hj
    have := c3.2.2 j hj
    rw [show (1047 + 1 : Nat) = 1048 from rfl, g_1048 (by omega)] at this
    exact Option.some.inj this
  obtain ⟨s2, t2, b1, b2, b3⟩ := q_rng (n4 := 0) (k := 1048) ht.2.1 ht.2.2.1 rfl c4 (rcs.getD ri []).length uFu 0 s1 t1 (by omega) (by have := ht.2.1; show _ ≤ 1000000; omega) a3.1 hF ht1
  rw [Nat.add_zero] at b1
  obtain ⟨s3, t3, e1, e2, e3⟩ := q_lineP (show 4 < 5 by decide) (w := kW_13) (by decide) b3.1
  refine ⟨s3, t3, ?_, ?_, (a3.tr b3).tr e3⟩
  · unfold fn_X0_answerDelivered
    rw [show fn_X5_text 1040 kW_12 s = some s1 from a1, Option.bind_some]
    rw [show iget 20 s1 1049 (nI ri) = some (nI fr) from c1, Option.bind_some, show iget 20 s1 1050 (nI ri) = _ from c2, Option.bind_some]
    unfold fn_X5_range
    rw [show fn_X5_range_3 uFu 1040 1048 (nI (fr + (rcs.getD ri []).length)) (nI fr) s1 = some s2 from b1, Option.bind_some, show fn_X5_line 1040 kW_13 s2 = some s3 from e1, Option.bind_some]
  · unfold fb_X12_deliver_346
    rw [show kW_161 = kW_12 from rfl, show (4 : Int32) = nI 4 from rfl, a2, Option.bind_some]
    rw [show fn_X12_deliver_357 uFu 0 t1 = _ from b2, show kW_162 = kW_13 from rfl, show (4 : Int32) = nI 4 from rfl, e2, Option.bind_some]
