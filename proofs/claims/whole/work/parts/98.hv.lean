/-! what both hold between two calls, and the calls mail and manage -/
def gP (bs : List Nat) (s t : uS) : Prop := bs.length ≤ 6000 ∧ bys bs ∧ s.I 0 9 = nI bs.length ∧ t.I 1079 5 = nI bs.length ∧ (∀ i : Nat, i < bs.length → s.F 1 i = sb (bs.getD i 0)) ∧ ∀ i : Nat, i < bs.length → t.F 1080 i = nI (bs.getD i 0)
def gW (w : Nat → Nat) (s : uS) : Prop := ∀ u : Nat, u < 4 → w u ≤ 13 ∧ s.I (978 + 16 * u) 4 = nI (w u)
def wS (w : Nat → Nat) : Nat := w 0 + w 1 + w 2 + w 3
def gJ (j : Nat) (s t : uS) : Prop := ∃ (dy κ τ : Nat) (pw : Bool) (bs : List Nat) (w : Nat → Nat), gK dy κ τ pw s t ∧ dj s ∧ gP bs s t ∧ gW w s ∧ s.n + (κ + bs.length) + wS w ≤ 1171 + 20 * j ∧ s.m + 550 * (κ + bs.length) + 450 * wS w ≤ 325232 + 11000 * j ∧ τ + 2 * bs.length ≤ 40 * j ∧ dy ≤ j
theorem gJ.up {j : Nat} {s t : uS} (h : gJ j s t) : gJ (j + 1) s t := by
  obtain ⟨dy, κ, τ, pw, bs, w, h1, h2, h3, h4, h5, h6, h7, h8⟩ := h
  exact ⟨dy, κ, τ, pw, bs, w, h1, h2, h3, h4, Nat.le_trans h5 (by omega), Nat.le_trans h6 (Nat.add_le_add_left (Nat.mul_le_mul_left _ (Nat.le_succ j)) _), by omega, by omega⟩
theorem rb1 {a j : Nat} (h : a ≤ 325232 + 11000 * j) (hj : j ≤ 512) : a ≤ 5957232 := Nat.le_trans h (Nat.le_trans (Nat.add_le_add_left (Nat.mul_le_mul_left 11000 hj) 325232) (by decide))
theorem rb2 {m a b : Nat} (h : m + 550 * a + b ≤ 5957232) : m + 550 * a ≤ 7302250 := Nat.le_trans (Nat.le_add_right _ b) (Nat.le_trans h (by decide))
/-- a small change of the class, and one of the reference, that nobody reads but the tape -/
theorem gK.o {dy κ τ : Nat} {pw : Bool} {s t s1 t1 : uS} (h : gK dy κ τ pw s t) (o : out (fun k f => k = 0 ∧ f = 9) rNo s s1) (q : out (fun k f => k = 1079 ∧ f = 5) rNo t t1) : gK dy κ τ pw s1 t1 := by
  obtain ⟨h1, ⟨cm, ct, ⟨a1, a2, a3, a4, a5⟩, b1, b2, b3, b4, b5⟩, h3, h4, h5, h6, h7⟩ := h
  refine ⟨h1.k h3 (pQ_o (h1.2.2.2.1 4 (by decide)) o q (fun k f a => ⟨by omega, fun z => z⟩) (fun _ _ _ z => z)) (out_w o (fun k f z => by unfold clK; omega) (fun _ _ z => z.elim)) (out_w q (fun k f z => by unfold rkJ; omega) (fun _ _ z => z.elim)), ⟨cm, ct, ⟨(o.2.1 _ _ (by omega)).trans a1, (o.2.1 _ _ (by omega)).trans a2, (o.2.1 _ _ (by omega)).trans a3, (o.2.1 _ _ (by omega)).trans a4, a5⟩, (q.2.1 _ _ (by omega)).trans b1, (q.2.1 _ _ (by omega)).trans b2, (q.2.1 _ _ (by omega)).trans b3, (q.2.1 _ _ (by omega)).trans b4, b5⟩, by rw [o.1.2.2.2.2.1]; exact h3, by rw [q.1.2.2.2.2.1]; exact h4, h5.o q (fun _ _ _ z => z), h6.fr (fun k y1 y2 => ⟨funext fun f => o.2.1 _ _ (by omega), funext fun f => o.2.2 _ _ (fun z => z)⟩) (fun f hf => q.2.1 _ _ (by omega)) (fun k hk => funext fun f => q.2.2 _ _ (fun z => z)), fun u hu => (h7 u hu).fr (fun k f z => ⟨o.2.1 _ _ (by unfold sPl at z; omega), o.2.2 _ _ (fun z => z)⟩) (fun k f z => q.2.2 _ _ (fun z => z))⟩
theorem gP_0 {s t : uS} (h1 : s.I 0 9 = 0) (h2 : t.I 1079 5 = 0) : gP [] s t := ⟨Nat.zero_le _, bys_nil, h1, h2, fun i hi => absurd hi (Nat.not_lt_zero _), fun i hi => absurd hi (Nat.not_lt_zero _)⟩
/-- sessions and word sizes, over what a delivery leaves alone -/
theorem pS_g {s t s1 t1 : uS} (hn : 1171 ≤ s.n) (h : ∀ u : Nat, u < 4 → pS u s t) (g : sW gC s s1) (q : gT t t1) : ∀ u : Nat, u < 4 → pS u s1 t1 := fun u hu => (h u hu).fr (fun k f z => by
    unfold sPl at z
    have := g.2 k (by omega) (by unfold gC; omega)
    exact ⟨by rw [this.2.1], by rw [this.2.2.2.1]⟩) (fun k f z => by rw [q.2.2 k (by unfold rPl at z; unfold gR; omega)])
theorem gW_g {w : Nat → Nat} {s s1 : uS} (hn : 1171 ≤ s.n) (h : gW w s) (g : sW gC s s1) : gW w s1 := fun u hu => ⟨(h u hu).1, by rw [(g.2 (978 + 16 * u) (by omega) (by unfold gC; omega)).2.1]; exact (h u hu).2⟩
theorem gK_z {dy : Nat} {pw : Bool} {s t s1 t1 : uS} (h : gK dy 0 0 pw s t) (h4 : s.I 1042 4 = 0) (h113 : t.I 1079 113 = 0) (o : out (fun k f => fgI k f ∨ (k = 0 ∧ f = 9)) rNo s s1) (q : out (fun k f => rsJ k f ∨ (k = 1079 ∧ f = 5)) rNo t t1) : gK dy 0 0 pw s1 t1 := by
  obtain ⟨h1, ⟨cm, ct, ⟨a1, a2, a3, a4, a5⟩, b1, b2, b3, b4, b5⟩, h3, h4', h5, h6, h7⟩ := h
  refine ⟨h1.k h3 (pQ_o (h1.2.2.2.1 4 (by decide)) o q (fun k f a => ⟨by unfold fgI; omega, fun z => z⟩) (fun _ _ _ z => z)) (out_w o (fun k f z => by unfold fgI at z; unfold clK; omega) (fun _ _ z => z.elim)) (out_w q (fun k f z => by unfold rsJ at z; unfold rkJ; omega) (fun _ _ z => z.elim)), ⟨cm, ct, ⟨(o.2.1 _ _ (by unfold fgI; omega)).trans a1, (o.2.1 _ _ (by unfold fgI; omega)).trans a2, (o.2.1 _ _ (by unfold fgI; omega)).trans a3, (o.2.1 _ _ (by unfold fgI; omega)).trans a4, a5⟩, (q.2.1 _ _ (by unfold rsJ; omega)).trans b1, (q.2.1 _ _ (by unfold rsJ; omega)).trans b2, (q.2.1 _ _ (by unfold rsJ; omega)).trans b3, (q.2.1 _ _ (by unfold rsJ; omega)).trans b4, b5⟩, by rw [o.1.2.2.2.2.1]; exact h3, by rw [q.1.2.2.2.2.1]; exact h4', h5.o q (fun _ _ _ z => z), Or.inl ⟨(o.2.1 _ _ (by unfold fgI; omega)).trans h4, (q.2.1 _ _ (by unfold rsJ; omega)).trans h113⟩, fun u hu => (h7 u hu).fr (fun k f z => ⟨o.2.1 _ _ (by unfold sPl at z; unfold fgI; omega), o.2.2 _ _ (fun z => z)⟩) (fun k f z => q.2.2 _ _ (fun z => z))⟩
theorem gJ_mk {dy κ τ j : Nat} {pw : Bool} {bs : List Nat} {w : Nat → Nat} {s t : uS} (h8 : dy ≤ j) (h1 : gK dy κ τ pw s t) (h2 : dj s) (h3 : gP bs s t) (h4 : gW w s) (h5 : s.n + (κ + bs.length) + wS w ≤ 1171 + 20 * j) (h6 : s.m + 550 * (κ + bs.length) + 450 * wS w ≤ 325232 + 11000 * j) (h7 : τ + 2 * bs.length ≤ 40 * j) : gJ j s t := ⟨dy, κ, τ, pw, bs, w, h1, h2, h3, h4, h5, h6, h7, h8⟩
theorem rb3 {m1 m κ1 κ N L w B : Nat} (h1 : m1 + 550 * κ1 ≤ m + 550 * (κ + N)) (hN : N ≤ L) (h : m + 550 * (κ + L) + w ≤ B) : m1 + 550 * (κ1 + 0) + w ≤ B := by
  rw [Nat.add_zero]
  exact Nat.le_trans (Nat.add_le_add_right (Nat.le_trans h1 (Nat.add_le_add_left (Nat.mul_le_mul_left 550 (Nat.add_le_add_left hN κ)) m)) w) h
/-- mail -/
theorem g_mail {j : Nat} {s t : uS} (hj : j ≤ 512) (h : gJ j s t) (x : Int32) : ∃ (s1 t1 : uS) (v : Int32), fn_X11_mail x s = some (s1, v) ∧ fn_X12_mail x t = some (t1, v) ∧ gJ j s1 t1 := by
  have h00 := h
  obtain ⟨dy, κ, τ, pw, bs, w, hK, hD, hP, hW, hn, hm, hτ, hdy⟩ := h
  have hK0 := hK
  obtain ⟨k1, ⟨cm, ct, c1, c2⟩, k3, k4, k5, k6, k7⟩ := hK
  obtain ⟨p1, p2, p3, p4, p5, p6⟩ := hP
  have no : ∀ v : Int32, fn_X11_mail x s = some (s, v) → fn_X12_mail x t = some (t, v) → ∃ (s1 t1 : uS) (v : Int32), fn_X11_mail x s = some (s1, v) ∧ fn_X12_mail x t = some (t1, v) ∧ gJ j s1 t1 := fun v a b => ⟨s, t, v, a, b, h00⟩
  cases pw with
  | false =>
    refine no (-1) ?_ ?_
    · unfold fn_X11_mail
      rw [if_pos (show s.I 0 16 = 0 from c1.1)]
    · unfold fn_X12_mail
      rw [if_pos (show t.I 1079 0 = 0 from c2.1), ite_self]
  | true =>
    have n16 : ¬ s.I 0 16 = 0 := by rw [c1.1]; decide
    have n0 : ¬ t.I 1079 0 = 0 := by rw [c2.1]; decide
    have dS0 := k6
    rcases k6 with ⟨a1, a2⟩ | ⟨a1, a2, a3⟩
    · refine no (-1) ?_ ?_
      · unfold fn_X11_mail
        rw [if_neg n16, if_pos a1]
      · unfold fn_X12_mail
        rw [if_pos a2]
    · have n4 : ¬ s.I 1042 4 = 0 := by rw [a1]; decide
      have n113 : ¬ t.I 1079 113 = 0 := by rw [a2]; decide
      by_cases cx : x < 0
      · refine no (-1) ?_ ?_
        · unfold fn_X11_mail
          rw [if_neg n16, if_neg n4, if_pos cx]
        · unfold fn_X12_mail
          rw [if_neg n113, if_neg n0, if_pos cx]
      · obtain ⟨N, hN1, rfl⟩ := nI_of cx
        by_cases cN' : N ≤ bs.length
        · have e1 : fn_X11_mail (nI N) s = fn_X11_mail_33 uFu (nI N) 0 s := by
            unfold fn_X11_mail
            rw [if_neg n16, if_neg n4, if_neg cx, p3, if_pos (nI_le cN' (by omega))]
          have e2 : fn_X12_mail (nI N) t = fn_X12_mail_35 uFu (nI N) 0 (wI t 1079 5 0) := by
            unfold fn_X12_mail
            rw [if_neg n113, if_neg n0, if_neg cx, p4, if_pos (nI_le cN' (by omega))]
          obtain ⟨t0, ht0⟩ : ∃ t0, t0 = wI t 1079 5 0 := ⟨_, rfl⟩
          rw [← ht0] at e2
          have q0 : out (fun k f => k = 1079 ∧ f = 5) rNo t t0 := by rw [ht0]; exact out_I out_r ⟨rfl, rfl⟩
          have hK1 : gK dy κ τ true s t0 := hK0.o out_r q0
          have hb := rb1 hm hj
          obtain ⟨s1, t1, k, l1, l2, l3⟩ := ml_loop (N := N) (by omega) p2 (s0 := s) (t0 := t0) k3 (fun i hi => p5 i (by omega)) (fun i hi => by rw [q0.2.2 _ _ (fun z => z)]; exact p6 i (by omega)) (dy := dy) (Bn := s.n + (κ + N)) (Bm := s.m + 550 * (κ + N)) (Bt := τ + 2 * N) (by omega) (Nat.le_trans (Nat.add_le_add_left (Nat.mul_le_mul_left 550 (Nat.add_le_add_left cN' κ)) s.m) (rb2 hb)) (by omega) uFu 0 s t0 κ τ (by show N + 1 < 0 + 1000000; omega) (Nat.zero_le _) ⟨⟨hK1.1, hK1.2.1, hK1.2.2.1, hK1.2.2.2.1, hK1.2.2.2.2.1⟩, hK1.2.2.2.2.2.1⟩ sW_r gT_r (Nat.le_refl _) (Nat.le_refl _) (Nat.le_refl _)
          have fp := fp_33 (lo := s.n) k3 _ _ _ _ _ l1 (Nat.le_refl _)
          have hD1 : dj (wI s1 0 9 0) := hD.fp k1 fp
          refine ⟨wI s1 0 9 0, t1, nI k, e1.trans l1, e2.trans l2, ?_⟩
          rcases l3 with ⟨κ1, τ1, ⟨hW1, hS1⟩, g1, g2, b1, b2, b3⟩ | ⟨s', t', s2, t2, m1, m2, m3, m4, m5, m6, m7, m8, ⟨cm2, m9, m10⟩, m11, m12, m13, m14⟩
          · have o1 : out (fun k f => k = 0 ∧ f = 9) rNo s1 (wI s1 0 9 0) := out_I out_r ⟨rfl, rfl⟩
            have hK2 : gK dy κ1 τ1 true s1 t1 := ⟨hW1.1, hW1.2.1, hW1.2.2.1, hW1.2.2.2.1, hW1.2.2.2.2, hS1, pS_g k3 hK1.2.2.2.2.2.2 g1 g2⟩
            refine gJ_mk hdy (hK2.o o1 out_r) hD1 (gP_0 (wI_e _ _ _ _) (by rw [g2.2.1, ht0, wI_e])) (w := w) (fun u hu => ⟨(hW u hu).1, by rw [wI_o (by omega)]; exact (gW_g k3 hW g1 u hu).2⟩) ?_ (rb3 b2 cN' hm) ?_
            · show s1.n + (κ1 + 0) + wS w ≤ _; omega
            · show τ1 + 2 * 0 ≤ _; omega
          · have hV : ∀ u : Nat, u < 4 → pV u s' t' := fun u hu => (pS_g k3 hK1.2.2.2.2.2.2 m5 m6 u hu).V
            obtain ⟨y1, y2, y3, y4⟩ := gK_lost m1 ⟨m9, m10⟩ m3 m4 m2 hV
            rw [← m11] at y1 y2 y3 y4
            rw [← m12] at y1
            have z4 : s2.I 1042 4 = 0 := by rw [m11]; rfl
            have z113 : t2.I 1079 113 = 0 := by rw [m12]; rfl
            have t5 : t2.I 1079 5 = 0 := by rw [m12, (rlose_lo t').2.1 _ _ (by unfold roI; omega), m6.2.1, ht0, wI_e]
            have hKz : gK dy 0 0 false (wI s1 0 9 0) t1 := gK_z y1 z4 z113 (by rw [m13]; exact out_t (out_w (cFg_o s2) (fun _ _ z => Or.inl z) (fun _ _ z => z)) (out_I out_r (Or.inr ⟨rfl, rfl⟩))) (by rw [m14]; exact out_w (rRs_o t2) (fun _ _ z => Or.inl z) (fun _ _ z => z))
            have en : (wI s1 0 9 0).n = s'.n := by rw [m13]; exact y2
            have em : (wI s1 0 9 0).m = s'.m := by rw [m13]; exact y3
            refine gJ_mk (w := fun _ => 0) hdy hKz hD1 (gP_0 (wI_e _ _ _ _) (by rw [m14, (rRs_o t2).2.1 _ _ (by unfold rsJ; omega)]; exact t5)) (fun u hu => ⟨Nat.zero_le _, ?_⟩) ?_ ?_ ?_
            · rw [wI_o (by omega), m13, (cFg_o s2).2.1 _ _ (by unfold fgI; omega)]; exact y4 u hu
            · rw [en]; show s'.n + (0 + 0) + 0 ≤ _; omega
            · rw [em]; show s'.m + 550 * (0 + 0) + 450 * 0 ≤ _
              exact Nat.le_trans (Nat.le_trans m8 (Nat.add_le_add_left (Nat.mul_le_mul_left 550 (Nat.add_le_add_left cN' κ)) s.m)) (Nat.le_trans (Nat.le_add_right _ _) hm)
            · show 0 + 2 * 0 ≤ _; omega
        · have nl : ¬ nI N ≤ nI bs.length := nI_ge (by omega) hN1
          refine no (-1) ?_ ?_
          · unfold fn_X11_mail
            rw [if_neg n16, if_neg n4, if_neg cx, p3, if_neg nl]
          · unfold fn_X12_mail
            rw [if_neg n113, if_neg n0, if_neg cx, p4, if_neg nl]
