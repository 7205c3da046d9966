/-! manage -/
theorem wS_u {w : Nat → Nat} {u x : Nat} (hu : u < 4) : wS (fun v => if v = u then x else w v) + w u = wS w + x := by
  unfold wS
  rcases (show u = 0 ∨ u = 1 ∨ u = 2 ∨ u = 3 by omega) with rfl | rfl | rfl | rfl
  · show x + w 1 + w 2 + w 3 + w 0 = w 0 + w 1 + w 2 + w 3 + x; omega
  · show w 0 + x + w 2 + w 3 + w 1 = w 0 + w 1 + w 2 + w 3 + x; omega
  · show w 0 + w 1 + x + w 3 + w 2 = w 0 + w 1 + w 2 + w 3 + x; omega
  · show w 0 + w 1 + w 2 + x + w 3 = w 0 + w 1 + w 2 + w 3 + x; omega
theorem rb4 {m1 m N L κ a b B W W1 : Nat} (h1 : m1 + 450 * a ≤ m + 450 * N + 450 * b) (hw : W1 + b = W + a) (hN : N ≤ L) (h : m + 550 * (κ + L) + 450 * W ≤ B) : m1 + 550 * (κ + 0) + 450 * W1 ≤ B := by
  have e1 : 450 * W1 + 450 * b = 450 * W + 450 * a := by rw [← Nat.mul_add, ← Nat.mul_add, hw]
  have e2 : 450 * N ≤ 550 * L := Nat.le_trans (Nat.mul_le_mul_left 450 hN) (Nat.mul_le_mul_right L (by decide))
  rw [Nat.mul_add] at h
  rw [Nat.add_zero]
  generalize 550 * κ = K at *
  generalize 550 * L = L' at *
  generalize 450 * N = N' at *
  generalize 450 * a = a' at *
  generalize 450 * b = b' at *
  generalize 450 * W = W' at *
  generalize 450 * W1 = W1' at *
  omega
theorem wS_le {w : Nat → Nat} {u : Nat} (hu : u < 4) : w u ≤ wS w := by
  unfold wS
  rcases (show u = 0 ∨ u = 1 ∨ u = 2 ∨ u = 3 by omega) with rfl | rfl | rfl | rfl <;> omega
theorem rb5 {m N L κ b W B : Nat} (hb : b ≤ W) (hN : N ≤ L) (h : m + 550 * (κ + L) + 450 * W ≤ B) : m + 450 * N + 450 * b ≤ B := by
  have e2 : 450 * N ≤ 550 * L := Nat.le_trans (Nat.mul_le_mul_left 450 hN) (Nat.mul_le_mul_right L (by decide))
  have e3 : 450 * b ≤ 450 * W := Nat.mul_le_mul_left 450 hb
  rw [Nat.mul_add] at h
  generalize 550 * κ = K at *
  generalize 550 * L = L' at *
  generalize 450 * N = N' at *
  generalize 450 * b = b' at *
  generalize 450 * W = W' at *
  omega
/-- the other sessions, and the delivery, over a session for scripts -/
theorem mg_rest {u dy κ τ : Nat} {s t s1 t1 : uS} (hu : u < 4) (hn : 1171 ≤ s.n) (g : pLw u s t s1 t1) (hS : dS κ τ s t) (h7 : ∀ v : Nat, v < 4 → pS v s t) (hc : ∃ cm ct : Nat, cN s true dy cm ct ∧ rN t true dy cm ct) : dS κ τ s1 t1 ∧ (∀ v : Nat, v < 4 → v ≠ u → pS v s1 t1 ∧ s1.I (978 + 16 * v) 4 = s.I (978 + 16 * v) 4) ∧ (∃ cm ct : Nat, cN s1 true dy cm ct ∧ rN t1 true dy cm ct) ∧ s1.F 1 = s.F 1 ∧ t1.F 1080 = t.F 1080 ∧ t1.I 1079 5 = t.I 1079 5 := by
  obtain ⟨⟨dy2, cm2, ct2, a1, a2⟩, -, -, o, q, -⟩ := g
  have hqk : qk u = 976 + 16 * u := qk_u hu
  have nI' : ∀ k f : Nat, ((k = 0 ∧ f ≠ 14 ∧ f ≠ 15) ∨ (0 < k ∧ k < 6) ∨ (976 ≤ k ∧ k ≠ 976 + 16 * u ∧ k ≠ 977 + 16 * u ∧ (k < 978 + 16 * u ∨ 984 + 16 * u < k) ∧ (k ≠ 985 + 16 * u ∨ f ≠ 3))) → ¬ mgI u k f := fun k f a z => by unfold mgI cmI qC sPl at z; rw [hqk] at z; omega
  have nF' : ∀ k f : Nat, (k < 6 ∨ (976 ≤ k ∧ k ≠ 976 + 16 * u ∧ k ≠ 977 + 16 * u ∧ (k < 978 + 16 * u ∨ 984 + 16 * u < k))) → ¬ mgF u k f := fun k f a z => by unfold mgF cmF qC sPl at z; rw [hqk] at z; omega
  refine ⟨hS.fr (fun k y1 y2 => ⟨o.I (by omega) (fun f => nI' _ _ (by omega)), o.F (by omega) (fun f => nF' _ _ (by omega))⟩) (fun f hf => q.2.1 _ _ (fun z => by unfold rmI scI at z; omega)) (fun k hk => funext fun f => q.2.2.1 _ _ (fun z => by unfold mrF rmF scF qR rPl at z; omega)), fun v hv hvu => ⟨(h7 v hv).fr (fun k f z => ?_) (fun k f z => q.2.2.1 _ _ (fun y => ?_)), o.2.2.2.1 _ _ (by omega) (nI' _ _ (by omega))⟩, ?_, o.F (by omega) (fun f => nF' _ _ (by omega)), funext fun f => q.2.2.1 _ _ (fun z => by unfold mrF rmF scF qR rPl at z; omega), q.2.1 _ _ (fun z => by unfold rmI scI at z; omega)⟩
  · unfold sPl at z
    exact ⟨o.2.2.2.1 _ _ (by omega) (nI' _ _ (by omega)), o.2.2.2.2.1 _ _ (by omega) (nF' _ _ (by omega))⟩
  · unfold mrF rmF scF qR rPl at y
    unfold rPl at z
    omega
  · obtain ⟨cm, ct, c1, c2⟩ := hc
    refine ⟨cm2, ct2, ⟨a1.1, ?_, a1.2.2.1, a1.2.2.2.1, a1.2.2.2.2⟩, a2.1, ?_, a2.2.2.1, a2.2.2.2.1, a2.2.2.2.2⟩
    · rw [o.2.2.2.1 _ _ (by omega) (nI' _ _ (by omega))]; exact c1.2.1
    · rw [q.2.1 _ _ (fun z => by unfold rmI scI at z; omega)]; exact c2.2.1
theorem g_manage {j : Nat} {s t : uS} (hj : j ≤ 512) (h : gJ j s t) (x1 x2 : Int32) : ∃ (s1 t1 : uS) (v : Int32), fn_X11_manage x1 x2 s = some (s1, v) ∧ fn_X12_manage x1 x2 t = some (t1, v) ∧ gJ j s1 t1 := by
  have h00 := h
  obtain ⟨dy, κ, τ, pw, bs, w, hK, hD, hP, hW, hn, hm, hτ, hdy⟩ := h
  have hK0 := hK
  obtain ⟨k1, ⟨cm, ct, c1, c2⟩, k3, k4, k5, k6, k7⟩ := hK
  obtain ⟨p1, p2, p3, p4, p5, p6⟩ := hP
  have no : ∀ v : Int32, fn_X11_manage x1 x2 s = some (s, v) → fn_X12_manage x1 x2 t = some (t, v) → ∃ (s1 t1 : uS) (v : Int32), fn_X11_manage x1 x2 s = some (s1, v) ∧ fn_X12_manage x1 x2 t = some (t1, v) ∧ gJ j s1 t1 := fun v a b => ⟨s, t, v, a, b, h00⟩
  cases pw with
  | false =>
    refine no (-1) ?_ ?_
    · unfold fn_X11_manage
      rw [if_pos (show s.I 0 16 = 0 from c1.1)]
    · unfold fn_X12_manage
      rw [if_pos (show t.I 1079 0 = 0 from c2.1), ite_self, ite_self]
  | true =>
    have n16 : ¬ s.I 0 16 = 0 := by rw [c1.1]; decide
    have n0 : ¬ t.I 1079 0 = 0 := by rw [c2.1]; decide
    by_cases cx : x1 < 0
    · refine no (-1) ?_ ?_
      · unfold fn_X11_manage
        rw [if_neg n16, if_pos cx]
      · unfold fn_X12_manage
        rw [if_pos cx]
    · obtain ⟨u, hu1, rfl⟩ := nI_of cx
      by_cases cu : u < 4
      · have nu : ¬ (4 : Int32) ≤ nI u := nI_ge (b := 4) cu (by decide)
        have nu3 : ¬ (3 : Int32) < nI u := nI_nlt (a := 3) (by omega) (by decide)
        by_cases cy : x2 < 0
        · refine no (-1) ?_ ?_
          · unfold fn_X11_manage
            rw [if_neg n16, if_neg cx, if_neg nu, if_pos cy]
          · unfold fn_X12_manage
            rw [if_neg cx, if_neg nu3, if_neg n0, if_pos cy]
        · obtain ⟨N, hN1, rfl⟩ := nI_of cy
          by_cases cN' : N ≤ bs.length
          · have e1 : fn_X11_manage (nI u) (nI N) s = fn_X11_manage_40 uFu (nI u) (nI N) (978 + 16 * u) 0 s := by
              unfold fn_X11_manage
              rw [if_neg n16, if_neg cx, if_neg nu, if_neg cy, p3, if_pos (nI_le cN' (by omega)), pgt_ses cu, Option.bind_some, if_pos (so_ses cu)]
            have e2 : fn_X12_manage (nI u) (nI N) t = fn_X12_manage_37 uFu (nI u) (nI N) 0 (wI t 1079 5 0) := by
              unfold fn_X12_manage
              rw [if_neg cx, if_neg nu3, if_neg n0, if_neg cy, p4, if_pos (nI_le cN' (by omega))]
            obtain ⟨t0, ht0⟩ : ∃ t0, t0 = wI t 1079 5 0 := ⟨_, rfl⟩
            rw [← ht0] at e2
            have q0 : out (fun k f => k = 1079 ∧ f = 5) rNo t t0 := by rw [ht0]; exact out_I out_r ⟨rfl, rfl⟩
            have hK1 : gK dy κ τ true s t0 := hK0.o out_r q0
            obtain ⟨y1, ⟨cm0, ct0, y2, y2'⟩, y3, y4, y5, y6, y7⟩ := hK1
            have hb := rb1 hm hj
            have hwu := hW u cu
            have hwl : w u ≤ wS w := wS_le cu
            have hL0 : pLw u s t0 s t0 := ⟨⟨dy, cm0, ct0, y2, y2'⟩, y1.2.2.2.1 u (by omega), y1.2.2.1 u cu, oc_out out_r, ol_out out_r, fun k _ z => z⟩
            obtain ⟨s1, t1, k, l1, l2, l3, l4⟩ := m_loop2 PW cu (N := N) (by omega) p2 cN' (s0 := s) (t0 := t0) y3 y4 (fun i hi => p5 i (by omega)) (fun i hi => by rw [q0.2.2 _ _ (fun z => z)]; exact p6 i (by omega)) (Bn := s.n + N + w u) (Bm := s.m + 450 * N + 450 * w u) (by omega) (Nat.le_trans (Nat.add_le_add_right (Nat.le_trans (rb5 hwl cN' (Nat.le_refl _)) hb) 2030) (by decide)) uFu 0 s t0 (by show N + 1 < 0 + 1000000; omega) (Nat.zero_le _) hL0 y5 (y7 u cu) ⟨w u, hwu.1, hwu.2, Nat.le_refl _, Nat.le_refl _⟩
            have o1 : out (fun k f => k = 0 ∧ f = 9) rNo s1 (wI s1 0 9 0) := out_I out_r ⟨rfl, rfl⟩
            refine ⟨wI s1 0 9 0, t1, nI k, e1.trans l1, e2.trans l2, ?_⟩
            rcases l4 with ⟨g1, g2, ws, w1, w2, w3, w4⟩ | ⟨⟨s', t', s2, g1, ⟨g2, g3, g4⟩, g5, g6⟩, b1, b2⟩
            · obtain ⟨m1, m2⟩ := y1.m cu hD y3 g1
              obtain ⟨r1', r2', r3', r4', r5', r6'⟩ := mg_rest cu y3 g1 y6 y7 ⟨cm0, ct0, y2, y2'⟩
              have hn1 := g1.2.2.2.1.1
              have hn2 : t1.n = t0.n := g1.2.2.2.2.1.1.2.2.2.1
              have hK2 : gK dy κ τ true s1 t1 := ⟨m1, r3', by omega, by omega, l3, r1', fun v hv => by
                by_cases c : v = u
                · subst c; exact g2
                · exact (r2' v hv c).1⟩
              have hw1 := wS_u (w := w) (u := u) (x := ws) cu
              refine gJ_mk (w := fun v => if v = u then ws else w v) hdy (hK2.o o1 out_r) (m2.o o1 (fun v hv => by omega)) (gP_0 (wI_e _ _ _ _) (by rw [r6', ht0, wI_e])) (fun v hv => ?_) ?_ (rb4 w4 hw1 cN' hm) ?_
              · rw [wI_o (by omega)]
                dsimp only
                by_cases c : v = u
                · rw [if_pos c, c]; exact ⟨w1, w2⟩
                · rw [if_neg c, (r2' v hv c).2]; exact hW v hv
              · show s1.n + (κ + 0) + wS _ ≤ _; omega
              · show τ + 2 * 0 ≤ _; omega
            · obtain ⟨m1, m2⟩ := y1.m cu hD y3 g1
              obtain ⟨r1', r2', ⟨cm3, ct3, r3', r3''⟩, r4', r5', r6'⟩ := mg_rest cu y3 g1 y6 y7 ⟨cm0, ct0, y2, y2'⟩
              obtain ⟨dy4, cm4, x1', x2'⟩ := g2
              have ec : ct3 = 1 := (nI_eq (by have := r3'.2.2.2.2; omega) (by decide)).mp (r3'.2.2.2.1.symm.trans x1'.2.2.2.1)
              subst ec
              have hn1 := g1.2.2.2.1.1
              have hn2 : t'.n = t0.n := g1.2.2.2.2.1.1.2.2.2.1
              have hV : ∀ v : Nat, v < 4 → pV v s' t' := fun v hv => by
                by_cases c : v = u
                · subst c; exact g6
                · exact (r2' v hv c).1.V
              have hls' : lsO t' := by
                intro a ha
                have := l3 a ha
                rw [g4] at this
                rw [(rlose_lo t').2.2 _ _ (by unfold roF; omega), (rlose_lo t').2.2 _ _ (by unfold roF; omega)] at this
                exact this
              obtain ⟨z1, z2, z3, z4⟩ := gK_lost m1 ⟨r3', r3''⟩ (by omega) (by omega) hls' hV
              rw [← g3] at z1 z2 z3 z4
              rw [← g4] at z1
              have hz := lose_u cu (wI s' 0 15 0)
              rw [← g3] at hz
              have e5 : s1 = s2 := by rw [g5]; exact rst_z hz
              have hd2 : dj s2 := by rw [g3]; exact (m2.o (s1 := wI s' 0 15 0) (PI := fun k f => k = 0 ∧ f = 15) (PF := rNo) (out_I out_r ⟨rfl, rfl⟩) (fun v hv => by omega)).o (lose_lo _) (fun v hv => by unfold loI; omega)
              rw [e5]
              have o2 : out (fun k f => k = 0 ∧ f = 9) rNo s2 (wI s2 0 9 0) := out_I out_r ⟨rfl, rfl⟩
              have t5 : t1.I 1079 5 = 0 := by rw [g4, (rlose_lo t').2.1 _ _ (by unfold roI; omega), r6', ht0, wI_e]
              rw [e5] at b1 b2
              refine gJ_mk (w := fun _ => 0) hdy (z1.o o2 out_r) (hd2.o o2 (fun v hv => by omega)) (gP_0 (wI_e _ _ _ _) t5) (fun v hv => ⟨Nat.zero_le _, by rw [wI_o (by omega)]; exact z4 v hv⟩) ?_ ?_ ?_
              · show s2.n + (0 + 0) + 0 ≤ _; omega
              · show s2.m + 550 * (0 + 0) + 450 * 0 ≤ _
                exact Nat.le_trans b2 (rb5 hwl cN' hm)
              · show 0 + 2 * 0 ≤ _; omega
          · have nl : ¬ nI N ≤ nI bs.length := nI_ge (by omega) hN1
            refine no (-1) ?_ ?_
            · unfold fn_X11_manage
              rw [if_neg n16, if_neg cx, if_neg nu, if_neg cy, p3, if_neg nl]
            · unfold fn_X12_manage
              rw [if_neg cx, if_neg nu3, if_neg n0, if_neg cy, p4, if_neg nl]
      · refine no (-1) ?_ ?_
        · unfold fn_X11_manage
          rw [if_neg n16, if_neg cx, if_pos (show (4 : Int32) ≤ nI u from nI_le (a := 4) (by omega) hu1)]
        · unfold fn_X12_manage
          rw [if_neg cx, if_pos (show (3 : Int32) < nI u from nI_lt (a := 3) (by omega) hu1)]
