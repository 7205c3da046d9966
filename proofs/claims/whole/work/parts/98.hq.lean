/-! a byte of the delivery's session, whatever it is -/
/-- the session of the delivery, with what it may still cost (κ: twenty for each recipient, and the line so far) -/
def dS (κ τ : Nat) (s t : uS) : Prop := (s.I 1042 4 = 0 ∧ t.I 1079 113 = 0) ∨ (s.I 1042 4 = 1 ∧ t.I 1079 113 = 1 ∧ ∃ (gr : Bool) (sd : Option (List Nat)) (rcs : List (List Nat)) (us : List Nat), tS gr sd rcs us s t ∧ ((∃ L : List Nat, kR L s t ∧ 20 * rcs.length + min L.length 19 ≤ κ) ∨ (sd.isSome = true ∧ 20 * rcs.length ≤ κ ∧ ∃ T : List Nat, dR T s t ∧ T.length ≤ τ ∧ s.I 1042 7 = 0 ∧ t.I 1079 122 = 0)))
theorem dS.mo {κ τ κ1 τ1 : Nat} {s t : uS} (h : dS κ τ s t) (h1 : κ ≤ κ1) (h2 : τ ≤ τ1) : dS κ1 τ1 s t := by
  rcases h with h | ⟨a, b, gr, sd, rcs, us, c, d⟩
  · exact Or.inl h
  · refine Or.inr ⟨a, b, gr, sd, rcs, us, c, ?_⟩
    rcases d with ⟨L, d1, d2⟩ | ⟨d1, d2, T, d3, d4, d5, d6⟩
    · exact Or.inl ⟨L, d1, by omega⟩
    · exact Or.inr ⟨d1, by omega, T, d3, by omega, d5, d6⟩
def mW (dy : Nat) (s t : uS) : Prop := wW dy s t ∧ (∃ cm ct : Nat, cN s true dy cm ct ∧ rN t true dy cm ct) ∧ 1171 ≤ s.n ∧ 1171 ≤ t.n ∧ lsO t
def mJ (dy κ τ : Nat) (s t : uS) : Prop := mW dy s t ∧ dS κ τ s t
/-- what a byte leaves alone: the tape and the users' sessions -/
def gC (k : Nat) : Prop := k = 1 ∨ (976 ≤ k ∧ k < 1040 ∧ 2 ≤ (k - 976) % 16 ∧ (k - 976) % 16 < 9)
def gR (k : Nat) : Prop := k = 1080 ∨ (1156 ≤ k ∧ k ≤ 1170)
def gT (t t1 : uS) : Prop := t.n ≤ t1.n ∧ t1.I 1079 5 = t.I 1079 5 ∧ ∀ k : Nat, gR k → t1.F k = t.F k
theorem gT_r {t : uS} : gT t t := ⟨Nat.le_refl _, rfl, fun _ _ => rfl⟩
theorem gT_t {t t1 t2 : uS} (h : gT t t1) (g : gT t1 t2) : gT t t2 := ⟨Nat.le_trans h.1 g.1, g.2.1.trans h.2.1, fun k hk => (g.2.2 k hk).trans (h.2.2 k hk)⟩
theorem gT_o {PI PF : Nat → Nat → Prop} {t t1 : uS} (o : out PI PF t t1) (h1 : ¬ PI 1079 5) (h2 : ∀ k f : Nat, gR k → ¬ PF k f) : gT t t1 := ⟨Nat.le_of_eq o.1.2.2.2.2.1.symm, o.2.1 _ _ h1, fun k hk => funext fun f => o.2.2 _ _ (h2 k f hk)⟩
theorem gT_y {t t1 : uS} (h : tY t t1) : gT t t1 := ⟨h.1, h.2.1 _ (by unfold yB; omega), fun k hk => (h.2.2 k (by unfold gR at hk; unfold yA; omega)).1⟩
theorem gS_o {PI PF : Nat → Nat → Prop} {s s1 : uS} (o : out PI PF s s1) (h : ∀ k f : Nat, PI k f ∨ PF k f → 1040 ≤ k) : sW gC s s1 := sW_out o (fun k a => ⟨fun f z => by have := h k f (Or.inl z); unfold gC at a; omega, fun f z => by have := h k f (Or.inr z); unfold gC at a; omega⟩)
theorem gS_2 {s s1 : uS} (h : sW cS2 s s1) : sW gC s s1 := sW_w h (fun k a => by unfold gC at a; unfold cS2; omega)
theorem lsO.o {PI PF : Nat → Nat → Prop} {t t1 : uS} (h : lsO t) (o : out PI PF t t1) (h1 : ∀ k f : Nat, k = 1099 ∨ k = 1100 → ¬ PF k f) : lsO t1 := fun n hn => by
  rw [o.2.2 1099 n (h1 _ _ (Or.inl rfl)), o.2.2 1100 n (h1 _ _ (Or.inr rfl))]
  exact h n hn
theorem cNr.o {PI PF QI QF : Nat → Nat → Prop} {s t s1 t1 : uS} {dy : Nat} (h : ∃ cm ct : Nat, cN s true dy cm ct ∧ rN t true dy cm ct) (o : out PI PF s s1) (q : out QI QF t t1) (h1 : ∀ f : Nat, ¬ PI 0 f) (h2 : ∀ f : Nat, f < 4 → ¬ QI 1079 f) : ∃ cm ct : Nat, cN s1 true dy cm ct ∧ rN t1 true dy cm ct := by
  obtain ⟨cm, ct, a, b⟩ := h
  refine ⟨cm, ct, ?_, ?_⟩
  · obtain ⟨a1, a2, a3, a4, a5⟩ := a
    exact ⟨(o.2.1 _ _ (h1 _)).trans a1, (o.2.1 _ _ (h1 _)).trans a2, (o.2.1 _ _ (h1 _)).trans a3, (o.2.1 _ _ (h1 _)).trans a4, a5⟩
  · obtain ⟨a1, a2, a3, a4, a5⟩ := b
    exact ⟨(q.2.1 _ _ (h2 _ (by decide))).trans a1, (q.2.1 _ _ (h2 _ (by decide))).trans a2, (q.2.1 _ _ (h2 _ (by decide))).trans a3, (q.2.1 _ _ (h2 _ (by decide))).trans a4, a5⟩
/-- a step that changes the session's places alone -/
theorem mW.l {dy : Nat} {s t s1 t1 : uS} (h : mW dy s t) (g1 : pQ1 4 s1 t1) (g2 : out clC clC s s1) (g3 : out rlI rlG t t1) : mW dy s1 t1 ∧ sW gC s s1 ∧ gT t t1 ∧ s1.n = s.n ∧ s1.m = s.m := by
  obtain ⟨h1, h2, h3, h4, h5⟩ := h
  have en : s1.n = s.n := g2.1.2.2.2.2.1
  have et : t1.n = t.n := g3.1.2.2.2.2.1
  exact ⟨⟨h1.l h3 g1 g2 g3, cNr.o h2 g2 g3 (fun f => by unfold clC; omega) (fun f hf => by unfold rlI; omega), by rw [en]; exact h3, by rw [et]; exact h4, h5.o g3 (fun k f a => by unfold rlG qR; omega)⟩, gS_o g2 (fun k f z => by unfold clC at z; omega), gT_o g3 (by unfold rlI; omega) (fun k f a => by unfold gR at a; unfold rlG qR; omega), en, g2.1.2.2.2.2.2⟩
theorem rm1 {m k r : Nat} (h1 : m + 550 * k ≤ 7302250) (h2 : 20 * r ≤ k) : m + 11000 * r ≤ 7302250 := by
  have : 11000 * r = 550 * (20 * r) := by rw [← Nat.mul_assoc]
  rw [this]
  exact Nat.le_trans (Nat.add_le_add_left (Nat.mul_le_mul_left 550 h2) m) h1
theorem rm2 {m m1 k r : Nat} (h1 : m1 ≤ m + 11000 * r) (h2 : 20 * r ≤ k) : m1 ≤ m + 550 * k := by
  have : 11000 * r = 550 * (20 * r) := by rw [← Nat.mul_assoc]
  rw [this] at h1
  exact Nat.le_trans h1 (Nat.add_le_add_left (Nat.mul_le_mul_left 550 h2) m)
/-- the power has gone while a message was delivered -/
def mDd (dy Bn Bm : Nat) (s0 t0 s1 t1 : uS) : Prop := ∃ s' t' s2 t2 : uS, wW dy s' t' ∧ lsO t' ∧ 1171 ≤ s'.n ∧ 1171 ≤ t'.n ∧ sW gC s0 s' ∧ gT t0 t' ∧ s'.n ≤ Bn ∧ s'.m ≤ Bm ∧ (∃ cm : Nat, cN s' true dy cm 1 ∧ rN t' true dy cm 1) ∧ s2 = c_lose (wI s' 0 15 0) ∧ t2 = r_lose t' ∧ s1 = cFg s2 ∧ t1 = rRs t2
/-- what the class does with a byte -/
def cBy (K : uS → Option (uS × Int32)) (x : Int32) (s : uS) : Option (uS × Int32) := (fn_X0_take x s).bind fun r6 => if r6.2 = 1 then ((fn_X0_answerLine r6.1).bind fun s12 => K s12) else (if r6.2 = 2 then ((fn_X11_deliver r6.1).bind fun s10 => K s10) else (K r6.1))
/-- a byte that ends a message -/
theorem t_dend {dy κ : Nat} {gr : Bool} {snd : List Nat} {rcs : List (List Nat)} {us : List Nat} {s t : uS} {T : List Nat} (hJ : mW dy s t) (h4 : s.I 1042 4 = 1) (h113 : t.I 1079 113 = 1) (hT : tS gr (some snd) rcs us s t) (hk : 20 * rcs.length ≤ κ) (hE : crE T) (hc : cTb s T) (hr : rTb t T) (hb : bys T) (i7 : s.I 1042 7 = 0) (i122 : t.I 1079 122 = 0) (hn : s.n + κ ≤ 600000) (hm : s.m + 550 * κ ≤ 7302250) : ∃ (s1 t1 : uS) (b : Bool), fn_X11_deliver (wI (wI s 1042 8 0) 1042 9 0) = some s1 ∧ fb_X12_dataLine_19 true (wI t 1079 123 0) = some (t1, b) ∧ ((b = true ∧ mJ dy 0 0 s1 t1 ∧ sW gC s s1 ∧ gT t t1 ∧ s1.n ≤ s.n + κ ∧ s1.m ≤ s.m + 550 * κ) ∨ (b = false ∧ mDd dy (s.n + κ) (s.m + 550 * κ) s t s1 t1)) := by
  obtain ⟨s2, hs2⟩ : ∃ s2, s2 = wI (wI s 1042 8 0) 1042 9 0 := ⟨_, rfl⟩
  obtain ⟨t2, ht2⟩ : ∃ t2, t2 = wI t 1079 123 0 := ⟨_, rfl⟩
  rw [← hs2, ← ht2]
  have o2 : out (fun k f => k = 1042 ∧ (f = 8 ∨ f = 9)) rNo s s2 := by rw [hs2]; exact out_I (out_I out_r ⟨rfl, by omega⟩) ⟨rfl, by omega⟩
  have q2 : out (fun k f => k = 1079 ∧ f = 123) rNo t t2 := by rw [ht2]; exact out_I out_r ⟨rfl, rfl⟩
  have o2' : out kpC kpC s s2 := out_w o2 (fun k f z => by unfold kpC; omega) (fun _ _ z => z.elim)
  have q2' : out kpI kpF t t2 := out_w q2 (fun k f z => by unfold kpI; omega) (fun _ _ z => z.elim)
  have hQ : pQ1 4 s2 t2 := pQ_o (hJ.1.2.2.2.1 4 (by decide)) o2 q2 (fun k f a => ⟨by omega, fun z => z⟩) (fun _ _ _ z => z)
  obtain ⟨⟨w1, w2, w3, w4, w5⟩, w7, w8, w9, w10⟩ := hJ.l hQ (kp_cl o2') (kp_rl q2')
  have hT2 : tS gr (some snd) rcs us s2 t2 := hT.o o2' q2'
  obtain ⟨v1, v2, v3, v4, v5, ⟨b4, v6, v7⟩, v8, v9, v10⟩ := hT2
  have hr4 := v8.2.1
  have j4 : s2.I 1042 4 = 1 := (o2.2.1 _ _ (by omega)).trans h4
  have j7 : s2.I 1042 7 = 0 := (o2.2.1 _ _ (by omega)).trans i7
  have j8 : s2.I 1042 8 = 0 := by rw [hs2, wI_o (by omega), wI_e]
  have j9 : s2.I 1042 9 = 0 := by rw [hs2, wI_e]
  have j113 : t2.I 1079 113 = 1 := (q2.2.1 _ _ (by omega)).trans h113
  have j122 : t2.I 1079 122 = 0 := (q2.2.1 _ _ (by omega)).trans i122
  have j123 : t2.I 1079 123 = 0 := by rw [ht2, wI_e]
  have hc2 : cTb s2 T := ⟨(o2.2.1 _ _ (by omega)).trans hc.1, fun j y1 y2 => (o2.2.2 _ _ (fun z => z)).trans (hc.2 j y1 y2)⟩
  have hr2 : rTb t2 T := ⟨(q2.2.1 _ _ (by omega)).trans hr.1, fun j y1 y2 => (q2.2.2 _ _ (fun z => z)).trans (hr.2 j y1 y2)⟩
  have gD : gT t2 (rDt t2) := gT_o (PI := fun k f => k = 1079 ∧ (f = 124 ∨ f = 125 ∨ f = 116)) (PF := rNo) (out_I (out_I (out_I out_r ⟨rfl, by omega⟩) ⟨rfl, by omega⟩) ⟨rfl, by omega⟩) (by omega) (fun _ _ _ z => z)
  have rD116 : (rDt t2).I 1079 116 = 0 := wI_e _ _ _ _
  -- behind a message: the session anew
  have fin : ∀ (s' t' : uS), mW dy s' t' → sW cS2 s2 s' → tY (rDt t2) t' → s'.n ≤ s.n + κ → s'.m ≤ s.m + 550 * κ → mJ dy 0 0 (cFg s') (rRs t') ∧ sW gC s (cFg s') ∧ gT t (rRs t') ∧ (cFg s').n ≤ s.n + κ ∧ (cFg s').m ≤ s.m + 550 * κ := by
    intro s' t' hW d2 d4 hn' hm'
    have hk2 : ∀ f : Nat, s'.I 1042 f = s2.I 1042 f := fun f => congrFun (d2.2 1042 (by omega) (by unfold cS2; omega)).2.1 f
    have hk3 : ∀ f : Nat, 113 ≤ f → f ≠ 116 → f ≠ 124 → f ≠ 125 → t'.I 1079 f = t2.I 1079 f := fun f y1 y2 y3 y4 => (d4.2.1 f (by unfold yB; omega)).trans (rDt_I ⟨y2, y3, y4⟩)
    have hk4 : t'.I 1079 116 = 0 := (d4.2.1 116 (by unfold yB; omega)).trans rD116
    have q' : pQ1 4 (cFg s') (rRs t') := pQ_o (hW.1.2.2.2.1 4 (by decide)) (cFg_o s') (rRs_o t') (fun k f a => ⟨by unfold fgI; omega, fun z => z⟩) (fun _ _ _ z => z)
    obtain ⟨x1, x2, x3, x4, x5⟩ := hW.l q' (fg_cl s') (rs_rl t')
    have hA : ∀ f : Nat, (cFg s').I 1042 f = s2.I 1042 f := fun f => ((cFg_o s').2.1 _ _ (by unfold fgI; omega)).trans (hk2 f)
    have hB : ∀ f : Nat, f ≠ 115 → f ≠ 117 → (rRs t').I 1079 f = t'.I 1079 f := fun f y1 y2 => (rRs_o t').2.1 _ _ (by unfold rsJ; omega)
    have hZ : kZ (cFg s') (rRs t') := ⟨(hA 7).trans j7, (hA 8).trans j8, (hA 9).trans j9, (hB 116 (by decide) (by decide)).trans hk4, (hB 122 (by decide) (by decide)).trans ((hk3 122 (by decide) (by decide) (by decide) (by decide)).trans j122), (hB 123 (by decide) (by decide)).trans ((hk3 123 (by decide) (by decide) (by decide) (by decide)).trans j123)⟩
    refine ⟨⟨x1, Or.inr ⟨(hA 4).trans j4, (hB 113 (by decide) (by decide)).trans ((hk3 113 (by decide) (by decide) (by decide) (by decide)).trans j113), gr, none, [], [], tS_fg ((hk2 10).trans v1) ((hk3 114 (by decide) (by decide) (by decide) (by decide)).trans v2), Or.inl ⟨[], hZ.r, Nat.le_refl _⟩⟩⟩, sW_t w7 (sW_t (gS_2 d2) x2), gT_t w8 (gT_t gD (gT_t (gT_y d4) x3)), by rw [x4]; exact hn', by rw [x5]; exact hm'⟩
  by_cases cT : T.length ≤ 4000
  · have hP : dP dy T snd rcs us s2 t2 := ⟨w1, w2, ⟨w3, w4⟩, w5, v3, ⟨b4, v7⟩, ⟨cT, hb, fun j hj => hc2.2 j hj (by omega)⟩, by rw [hc2.1, show min T.length 4001 = T.length by omega], ⟨cT, hb, by rw [hr2.1, show min T.length 1000000 = T.length by omega], fun j hj => hr2.2 j hj (by omega)⟩, (v5 snd rfl).2, v8⟩
    obtain ⟨s1, t1, b, e1, e2, s', t', d1, d2, d3, d4, d5, d6, d7⟩ := t_deliv hP hE (v5 snd rfl).1 v9 (by rw [w9]; exact Nat.le_trans (Nat.add_le_add_left hk _) hn) (by rw [w10]; exact rm1 hm hk)
    rw [w9] at d5
    rw [w10] at d6
    have hn' : s'.n ≤ s.n + κ := Nat.le_trans d5 (Nat.add_le_add_left hk _)
    have hm' : s'.m ≤ s.m + 550 * κ := rm2 d6 hk
    have hW' : mW dy s' t' := ⟨d1.1, d1.2.1, d1.2.2.1.1, d1.2.2.1.2, d1.2.2.2.1⟩
    refine ⟨cFg s1, rRs t1, b, by rw [e1]; rfl, by rw [e2]; rfl, ?_⟩
    rcases d7 with ⟨rfl, rfl, rfl⟩ | ⟨rfl, d8, d9, d10⟩
    · left
      obtain ⟨x1, x2, x3, x4, x5⟩ := fin _ _ hW' d2 d4 hn' hm'
      exact ⟨rfl, x1, x2, x3, x4, x5⟩
    · right
      refine ⟨rfl, s', t', s1, t1, hW'.1, hW'.2.2.2.2, hW'.2.2.1, hW'.2.2.2.1, sW_t w7 (gS_2 d2), gT_t w8 (gT_t gD (gT_y d4)), hn', hm', ?_, d9, d10, rfl, rfl⟩
      obtain ⟨cm, ct, y1, y2⟩ := hW'.2.1
      obtain ⟨dy2, cm2, y3, y4⟩ := d8
      have : ct = 1 := (nI_eq (by have := y1.2.2.2.2; omega) (by decide)).mp (y1.2.2.2.1.symm.trans y3.2.2.2.1)
      subst this
      exact ⟨cm, y1, y2⟩
  · have hP : dPB dy rcs us s2 t2 := ⟨w1, w2, ⟨w3, w4⟩, w5, ⟨b4, v7⟩, by rw [hc2.1, show min T.length 4001 = 4001 by omega]; rfl, ⟨min T.length 1000000, by omega, by omega, hr2.1⟩, v8⟩
    obtain ⟨s1, t1, e1, e2, d1, d2, d3, d4, d5, d6⟩ := t_delivB hP
    have hW' : mW dy s1 t1 := ⟨d1.1, d1.2.1, d1.2.2.1.1, d1.2.2.1.2, d1.2.2.2.1⟩
    refine ⟨cFg s1, rRs t1, true, by rw [e1]; rfl, by rw [e2]; rfl, Or.inl ?_⟩
    obtain ⟨x1, x2, x3, x4, x5⟩ := fin _ _ hW' d2 d4 (by rw [d5, w9]; exact Nat.le_add_right _ _) (by rw [d6, w10]; exact Nat.le_add_right _ _)
    exact ⟨rfl, x1, x2, x3, x4, x5⟩
theorem kp_db {s s1 : uS} (o : out dbI tbF s s1) : out kpC kpC s s1 := out_w o (fun k f z => by unfold dbI at z; unfold kpC; omega) (fun k f z => by unfold tbF at z; unfold kpC; omega)
theorem kp_dy {t t1 : uS} (o : out dyI mbR t t1) : out kpI kpF t t1 := out_w o (fun k f z => by unfold dyI at z; unfold kpI; omega) (fun k f z => by unfold mbR at z; unfold kpF qR; omega)
theorem kp_lb {s s1 : uS} (o : out lbI lbF s s1) : out kpC kpC s s1 := out_w o (fun k f z => by unfold lbI at z; unfold kpC; omega) (fun k f z => by unfold lbF at z; unfold kpC; omega)
theorem kp_lr {t t1 : uS} (o : out lrJ lrF t t1) : out kpI kpF t t1 := out_w o (fun k f z => by unfold lrJ at z; unfold kpI; omega) (fun k f z => by unfold lrF at z; unfold kpF qR; omega)
theorem dMd_m {m : Nat} {fl pd dot : Bool} {cnt : Nat} {T Tr : List Nat} (h : dMd m fl pd dot cnt T Tr) : 1 ≤ m ∧ m ≤ 4 := by
  rcases h with h | h | h | h | h <;> (have := h.1; omega)
theorem rm3 {m κ κ1 : Nat} (h : κ1 ≤ κ + 1) : m + 550 * κ1 ≤ m + 550 * (κ + 1) := Nat.add_le_add_left (Nat.mul_le_mul_left 550 h) m
/-- a byte, both sides -/
theorem t_mby {dy κ τ x : Nat} {s t : uS} (K : uS → Option (uS × Int32)) (hJ : mJ dy κ τ s t) (hx : x < 256) (hn : s.n + κ ≤ 600000) (hm : s.m + 550 * κ ≤ 7302250) (hτ : τ + 2 < 2 ^ 29) : ∃ (s1 t1 : uS) (b : Bool), cBy K (nI x) s = K s1 ∧ ((t.I 1079 113 = 0 ∧ t1 = t ∧ b = true) ∨ (¬ t.I 1079 113 = 0 ∧ fn_X12_mailIn (nI x) t = some (t1, b))) ∧ ((b = true ∧ ∃ κ1 : Nat, mJ dy κ1 (τ + 2) s1 t1 ∧ sW gC s s1 ∧ gT t t1 ∧ s1.n + κ1 ≤ s.n + (κ + 1) ∧ s1.m + 550 * κ1 ≤ s.m + 550 * (κ + 1)) ∨ (b = false ∧ mDd dy (s.n + κ) (s.m + 550 * κ) s t s1 t1)) := by
  obtain ⟨hW, hS⟩ := hJ
  unfold cBy fn_X0_take
  rcases hS with ⟨a1, a2⟩ | ⟨a1, a2, gr, sd, rcs, us, a3, a4⟩
  · rw [if_pos a1, Option.bind_some]
    dsimp only
    rw [if_neg (show ¬ (0 : Int32) = 1 by decide), if_neg (show ¬ (0 : Int32) = 2 by decide)]
    exact ⟨s, t, true, rfl, Or.inl ⟨a2, rfl, rfl⟩, Or.inl ⟨rfl, κ, ⟨hW, Or.inl ⟨a1, a2⟩⟩, sW_r, gT_r, by omega, rm3 (by omega)⟩⟩
  · have n113 : ¬ t.I 1079 113 = 0 := by rw [a2]; decide
    rw [if_neg (show ¬ s.I 1042 4 = 0 by rw [a1]; decide)]
    have hQ := hW.1.2.2.2.1 4 (by decide)
    rcases a4 with ⟨L, b1, b2⟩ | ⟨b1, b2, T, b3, b4, b5, b6⟩
    · have i8 : s.I 1042 8 = 0 := by obtain ⟨fl, Lr, z1, z2, z3, z4, z5⟩ := b1; exact z4
      rw [if_pos i8]
      rcases t_cbyte b1 hx with ⟨s1, t1, c1, c2, c3, c4, c5⟩ | ⟨Lr, c1, c2, c3, c4, c5, c6, c7, c8⟩
      · have q1 : pQ1 4 s1 t1 := pQ_o hQ c4 c5 (fun k f a => ⟨by unfold lbI; omega, by unfold lbF; omega⟩) (fun k f a => by unfold lrF; omega)
        obtain ⟨x1, x2, x3, x4, x5⟩ := hW.l q1 (kp_cl (kp_lb c4)) (kp_rl (kp_lr c5))
        rw [c1, Option.bind_some, Option.bind_some]
        dsimp only
        rw [if_neg (show ¬ (0 : Int32) = 1 by decide), if_neg (show ¬ (0 : Int32) = 2 by decide)]
        refine ⟨s1, t1, true, rfl, Or.inr ⟨n113, c2⟩, Or.inl ⟨rfl, κ + 1, ⟨x1, Or.inr ⟨(c4.2.1 _ _ (by unfold lbI; omega)).trans a1, (c5.2.1 _ _ (by unfold lrJ; omega)).trans a2, gr, sd, rcs, us, a3.o (kp_lb c4) (kp_lr c5), Or.inl ⟨_, c3, ?_⟩⟩⟩, x2, x3, by rw [x4]; exact Nat.le_refl _, by rw [x5]; exact Nat.le_refl _⟩⟩
        have el : (L ++ [x]).length = L.length + 1 := by rw [List.length_append]; rfl
        rw [el]
        omega
      · rw [c1] at c2 c4
        have hbL : bys Lr := fun j => by
          by_cases g : j < Lr.length
          · have := c4 j; rw [getDn_app g] at this; exact this
          · rw [getDn_out (by omega)]; decide
        obtain ⟨s1, t1, R, d1, d2, ⟨d3, d4, d5, d6⟩, d7⟩ := t_line hQ a1 a2 a3 c2 c3 hbL c5 c6
        obtain ⟨x1, x2, x3, x4, x5⟩ := hW.l d3 d4 d5
        rw [c7, Option.bind_some, Option.bind_some]
        dsimp only
        rw [if_pos rfl, d1, Option.bind_some]
        have hLl : L.length = Lr.length + 1 := by rw [c1, List.length_append]; rfl
        have hR : 20 * R ≤ κ + 1 := by
          unfold ltR at d7
          rcases d7 with d7 | ⟨d7, d8⟩
          · rw [d7]; omega
          · rw [d7]; omega
        refine ⟨s1, t1, true, rfl, Or.inr ⟨n113, c8.trans d2⟩, Or.inl ⟨rfl, 20 * R, ⟨x1, ?_⟩, x2, x3, by rw [x4]; omega, by rw [x5]; exact rm3 hR⟩⟩
        rcases d6 with d6 | ⟨e1, e2, gr1, sd1, rcs1, us1, e3, e4, e5⟩
        · exact Or.inl d6
        · refine Or.inr ⟨e1, e2, gr1, sd1, rcs1, us1, e3, ?_⟩
          rcases e5 with e5 | ⟨e5, e6, e7, e8⟩
          · exact Or.inl ⟨[], e5, by show 20 * rcs1.length + min 0 19 ≤ 20 * R; omega⟩
          · exact Or.inr ⟨e5, by omega, [], e6, Nat.zero_le _, e7, e8⟩
    · have n8 : ¬ s.I 1042 8 = 0 := by
        obtain ⟨m, fl, pd, dot, cnt, Tr, z1, z2, z3, z4, z5⟩ := b3
        have := dMd_m z1
        rw [z4]
        exact fun z => by have := (nI_eq (b := 0) (by omega) (by decide)).mp z; omega
      rw [if_neg n8]
      rcases t_dbyte b3 hx (by omega) with ⟨s1, t1, T1, c1, c2, c3, c4, c5, c6⟩ | ⟨c1, c2, c3, c4, c5, c6⟩
      · have q1 : pQ1 4 s1 t1 := pQ_o hQ c5 c6 (fun k f a => ⟨by unfold dbI; omega, by unfold tbF; omega⟩) (fun k f a => by unfold mbR; omega)
        obtain ⟨x1, x2, x3, x4, x5⟩ := hW.l q1 (kp_cl (kp_db c5)) (kp_rl (kp_dy c6))
        rw [c1, Option.bind_some, Option.bind_some]
        dsimp only
        rw [if_neg (show ¬ (0 : Int32) = 1 by decide), if_neg (show ¬ (0 : Int32) = 2 by decide)]
        exact ⟨s1, t1, true, rfl, Or.inr ⟨n113, c2⟩, Or.inl ⟨rfl, κ, ⟨x1, Or.inr ⟨(c5.2.1 _ _ (by unfold dbI; omega)).trans a1, (c6.2.1 _ _ (by unfold dyI; omega)).trans a2, gr, sd, rcs, us, a3.o (kp_db c5) (kp_dy c6), Or.inr ⟨b1, b2, T1, c3, by omega, (c5.2.1 _ _ (by unfold dbI; omega)).trans b5, (c6.2.1 _ _ (by unfold dyI; omega)).trans b6⟩⟩⟩, x2, x3, by rw [x4]; omega, by rw [x5]; exact rm3 (by omega)⟩⟩
      · cases sd with
        | none => cases b1
        | some snd =>
          obtain ⟨s1, t1, b, d1, d2, d3⟩ := t_dend hW a1 a2 a3 b2 c1 c2 c3 c4 b5 b6 hn hm
          rw [c5, Option.bind_some, Option.bind_some]
          dsimp only
          rw [if_neg (show ¬ (2 : Int32) = 1 by decide), if_pos rfl, d1, Option.bind_some]
          refine ⟨s1, t1, b, rfl, Or.inr ⟨n113, c6.trans d2⟩, ?_⟩
          rcases d3 with ⟨rfl, y1, y2, y3, y4, y5⟩ | ⟨rfl, y1⟩
          · exact Or.inl ⟨rfl, 0, ⟨y1.1, y1.2.mo (Nat.le_refl _) (Nat.zero_le _)⟩, y2, y3, by omega, Nat.le_trans (show s1.m + 550 * 0 ≤ s.m + 550 * κ from y5) (rm3 (by omega))⟩
          · exact Or.inr ⟨rfl, y1⟩
