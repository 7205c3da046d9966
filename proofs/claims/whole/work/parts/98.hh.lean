/-! the session of the delivery between two lines, and the plain answers -/
def clC (k _f : Nat) : Prop := 1040 ≤ k ∧ k ≤ 1052
def rlI (k f : Nat) : Prop := k = 1079 ∧ (f = 13 ∨ f = 21 ∨ f = 23 ∨ f = 93 ∨ 113 ≤ f)
def rlG (k f : Nat) : Prop := qR 4 k f ∨ k = 1087 ∨ k = 1093 ∨ k = 1094 ∨ k = 1137 ∨ (1144 ≤ k ∧ k ≤ 1148)
/-- all that the world does not read -/
def clK (k f : Nat) : Prop := (k = 0 ∧ (f < 10 ∨ 12 < f)) ∨ (0 < k ∧ k < 976 ∧ k ≠ 5) ∨ (976 ≤ k ∧ k < 1040 ∧ 2 ≤ (k - 976) % 16 ∧ (k - 976) % 16 < 9) ∨ (1040 ≤ k ∧ k < 1171)
def rkJ (k f : Nat) : Prop := k ≠ 1079 ∨ f < 69 ∨ 71 < f
def rkG (k f : Nat) : Prop := qR 4 k f ∨ ¬ ((1081 ≤ k ∧ k ≤ 1086) ∨ (1118 ≤ k ∧ k ≤ 1135) ∨ (1149 ≤ k ∧ k ≤ 1155))
theorem wW.k {dy : Nat} {s t s1 t1 : uS} (h : wW dy s t) (hn : 1171 ≤ s.n) (g1 : pQ1 4 s1 t1) (g2 : out clK clK s s1) (g3 : out rkJ rkG t t1) : wW dy s1 t1 := by
  obtain ⟨h1, h2, h3, h4, ms, p, h5, h6, h7⟩ := h
  have o : oc clK clK rNo rNo s s1 := oc_out g2
  have lQ : low clK := fun k f a z => by unfold clK at z; omega
  have nQ : ∀ k f : Nat, (k = 0 ∧ 10 ≤ f ∧ f ≤ 12) ∨ k = 5 ∨ (976 ≤ k ∧ k < 1040 ∧ ((k - 976) % 16 < 2 ∨ 9 ≤ (k - 976) % 16)) ∨ 1171 ≤ k → ¬ clK k f := fun k f a z => by unfold clK at z; omega
  have hF : ∀ k f : Nat, (1081 ≤ k ∧ k ≤ 1084) ∨ (k = 1086 ∧ f ≠ 4) ∨ (1118 ≤ k ∧ k ≤ 1135) ∨ (1149 ≤ k ∧ k ≤ 1155) → t1.F k f = t.F k f := fun k f a => g3.2.2 _ _ (by unfold rkG qR; omega)
  have hL : t1.L = t.L := g3.1.2.2.1
  have hI : ∀ f : Nat, 69 ≤ f → f ≤ 71 → t1.I 1079 f = t.I 1079 f := fun f a b => g3.2.1 _ _ (by unfold rkJ; omega)
  refine ⟨fun u hu => ?_, fun u hu => ?_, fun u hu => ?_, fun u hu => ?_, ms, p, h5.oc o hn lQ lQ low_no (nQ _ _ (by omega)) (nQ _ _ (by omega)) (nQ _ _ (by omega)) (fun f z => z), ?_, h7⟩
  · obtain ⟨bx, bg, a, b, c, d⟩ := h1 u hu
    exact ⟨bx, bg, a, b.oc o (by omega) (fun f => nQ _ _ (by omega)) (fun j f y1 y2 => nQ _ _ (by omega)), c, d.fr (fun k j a b => hF _ _ (by omega))⟩
  · obtain ⟨ns, a, b, c⟩ := h2 u hu
    refine ⟨ns, a, b.oc o hu hn lQ lQ low_no (nQ _ _ (by omega)) (fun f z => z), (hF _ _ (by omega)).trans c.1, fun i hi => ?_⟩
    obtain ⟨a1, a2, a3, a4, a5⟩ := c.2 i hi
    exact ⟨(hF _ _ (by omega)).trans a1, (hF _ _ (by omega)).trans a2, fun j hj => (hF _ _ (by omega)).trans (a3 j hj), (hF _ _ (by omega)).trans a4, fun j hj => by rw [hdb_S, hL, ← hdb_S]; exact a5 j hj⟩
  · obtain ⟨scs, ac, ⟨es, a⟩, sl, b⟩ := h3 u hu
    refine ⟨scs, ac, ⟨es, a.fr o.1 o.2.1 (o.2.2.2.1 _ _ (by omega) (nQ _ _ (by omega))) (o.P (by omega) (fun f z => z)) (o.2.2.2.2.2.1 _ _ (by omega) (fun z => z)) (fun i hi => ?_) (fun k y1 y2 => o.F y2 (fun f => nQ _ _ (by omega)))⟩, sl, b.fr (hF _ _ (by omega)) (hF _ _ (by omega)) (fun f _ _ => ⟨hF _ _ (by omega), hF _ _ (by omega), hF _ _ (by omega)⟩) (fun f _ _ => hF _ _ (by omega)) (fun f _ _ => by rw [hL])⟩
    obtain ⟨-, y⟩ := a.2.2.2.1 i hi
    exact o.R y.1 (fun f z => z)
  · by_cases c4 : u = 4
    · subst c4; exact g1
    · obtain ⟨xs, a, b, c⟩ := h4 u hu
      have hq := qk_lt hu
      have hq2 : qk u = 976 + 16 * u := by unfold qk; rw [if_pos (by omega)]
      exact ⟨xs, a.fr (o.I (by omega) (fun f => nQ _ _ (by omega))) (o.F (by omega) (fun f => nQ _ _ (by omega))), ⟨b.1, (hF _ _ (by omega)).trans b.2.1, fun j hj => (hF _ _ (by omega)).trans (b.2.2 j hj)⟩, c⟩
  · obtain ⟨x1, x2, x3, x4, x5, x6, x7, x8⟩ := h6
    refine ⟨x1, x2, x3, (hI _ (by decide) (by decide)).trans x4, (hI _ (by decide) (by decide)).trans x5, (hI _ (by decide) (by decide)).trans x6, fun i hi => ?_, fun k hk => ?_⟩
    · obtain ⟨a1, a2, a3, a4, a5, at_, a6, a7, a8⟩ := x7 i hi
      exact ⟨(hF _ _ (by omega)).trans a1, (hF _ _ (by omega)).trans a2, (hF _ _ (by omega)).trans a3, (hF _ _ (by omega)).trans a4, a5, at_, (hF _ _ (by omega)).trans a6, a7, fun j hj => by rw [pkb_S, hL, ← pkb_S]; exact a8 j hj⟩
    · obtain ⟨q, q1, q2, q3, q4⟩ := x8 k hk
      exact ⟨q, q1, q2, (hF _ _ (by omega)).trans q3, fun j hj => (hF _ _ (by omega)).trans (q4 j hj)⟩
theorem wW.l {dy : Nat} {s t s1 t1 : uS} (h : wW dy s t) (hn : 1171 ≤ s.n) (g1 : pQ1 4 s1 t1) (g2 : out clC clC s s1) (g3 : out rlI rlG t t1) : wW dy s1 t1 := h.k hn g1 (out_w g2 (fun k f z => by unfold clC at z; unfold clK; omega) (fun k f z => by unfold clC at z; unfold clK; omega)) (out_w g3 (fun k f z => by unfold rlI at z; unfold rkJ; omega) (fun k f z => by unfold rlG qR at z; unfold rkG qR; omega))
/-- sender and recipients so far -/
def sdL (sd : Option (List Nat)) : List (List Nat) := match sd with | none => [] | some x => [x]
def sdB (sd : Option (List Nat)) : Nat := match sd with | none => 0 | some x => x.length
def tS (gr : Bool) (sd : Option (List Nat)) (rcs : List (List Nat)) (us : List Nat) (s t : uS) : Prop := s.I 1042 10 = bI gr ∧ t.I 1079 114 = bI gr ∧ cTz s 1043 101 1 (sdL sd) (sdB sd) [] ∧ t.I 1079 115 = bI sd.isSome ∧ (∀ x : List Nat, sd = some x → adO x ∧ rTe t 93 1137 x) ∧ (∃ b4 : Nat, b4 ≤ 101 * rcs.length ∧ cTz s 1047 404 4 rcs b4 []) ∧ rRc t rcs us ∧ dlS rcs us ∧ (rcs ≠ [] → sd.isSome = true)
def kpC (k f : Nat) : Prop := k = 1040 ∨ k = 1041 ∨ k = 1051 ∨ k = 1052 ∨ (k = 1042 ∧ f ≠ 10)
def kpI (k f : Nat) : Prop := k = 1079 ∧ (f = 13 ∨ f = 21 ∨ f = 23 ∨ f = 113 ∨ f = 116 ∨ 122 ≤ f)
def kpF (k f : Nat) : Prop := qR 4 k f ∨ k = 1087 ∨ k = 1093 ∨ k = 1094 ∨ k = 1147 ∨ k = 1148
theorem cTz.ou {PI PF : Nat → Nat → Prop} {s s1 : uS} {k cap mo bg : Nat} {ts : List (List Nat)} {cur : List Nat} (h : cTz s k cap mo ts bg cur) (o : out PI PF s s1) (h1 : ∀ f : Nat, ¬ PI k f) (h2 : ∀ j f : Nat, k + 1 ≤ j → j ≤ k + 3 → ¬ PF j f) : cTz s1 k cap mo ts bg cur := h.fr (o.2.1 _ _ (h1 _)) (o.2.1 _ _ (h1 _)) (o.2.1 _ _ (h1 _)) (funext fun f => o.2.2 _ _ (h2 _ _ (by omega) (by omega))) (funext fun f => o.2.2 _ _ (h2 _ _ (by omega) (by omega))) (funext fun f => o.2.2 _ _ (h2 _ _ (by omega) (by omega)))
theorem rRc.ou {PI PF : Nat → Nat → Prop} {t t1 : uS} {rcs : List (List Nat)} {us : List Nat} (h : rRc t rcs us) (o : out PI PF t t1) (h1 : ¬ PI 1079 117) (h2 : ∀ j f : Nat, 1144 ≤ j → j ≤ 1146 → ¬ PF j f) : rRc t1 rcs us := by
  obtain ⟨a, b, c, d⟩ := h
  refine ⟨a, b, (o.2.1 _ _ h1).trans c, fun i hi => ?_⟩
  obtain ⟨d1, d2, d3, d4, d5, d6⟩ := d i hi
  exact ⟨d1, d2, d3, (o.2.2 _ _ (h2 _ _ (by omega) (by omega))).trans d4, (o.2.2 _ _ (h2 _ _ (by omega) (by omega))).trans d5, fun j hj => (o.2.2 _ _ (h2 _ _ (by omega) (by omega))).trans (d6 j hj)⟩
theorem rTe.ou {PI PF : Nat → Nat → Prop} {t t1 : uS} {kf kr : Nat} {x : List Nat} (h : rTe t kf kr x) (o : out PI PF t t1) (h1 : ¬ PI 1079 kf) (h2 : ∀ f : Nat, ¬ PF kr f) : rTe t1 kf kr x := ⟨(o.2.1 _ _ h1).trans h.1, h.2.1, h.2.2.1, fun j hj => (o.2.2 _ _ (h2 _)).trans (h.2.2.2 j hj)⟩
theorem tS.o {gr : Bool} {sd : Option (List Nat)} {rcs : List (List Nat)} {us : List Nat} {s t s1 t1 : uS} (h : tS gr sd rcs us s t) (o : out kpC kpC s s1) (q : out kpI kpF t t1) : tS gr sd rcs us s1 t1 := by
  obtain ⟨h1, h2, h3, h4, h5, ⟨b4, h6, h7⟩, h8, h9⟩ := h
  refine ⟨(o.2.1 _ _ (by unfold kpC; omega)).trans h1, (q.2.1 _ _ (by unfold kpI; omega)).trans h2, h3.ou o (fun f => by unfold kpC; omega) (fun j f a b => by unfold kpC; omega), (q.2.1 _ _ (by unfold kpI; omega)).trans h4, fun x hx => ⟨(h5 x hx).1, (h5 x hx).2.ou q (by unfold kpI; omega) (fun f => by unfold kpF qR; omega)⟩, ⟨b4, h6, h7.ou o (fun f => by unfold kpC; omega) (fun j f a b => by unfold kpC; omega)⟩, h8.ou q (by unfold kpI; omega) (fun j f a b => by unfold kpF qR; omega), h9⟩
theorem kp_cl {s s1 : uS} (o : out kpC kpC s s1) : out clC clC s s1 := out_w o (fun k f z => by unfold kpC at z; unfold clC; omega) (fun k f z => by unfold kpC at z; unfold clC; omega)
theorem kp_rl {t t1 : uS} (o : out kpI kpF t t1) : out rlI rlG t t1 := out_w o (fun k f z => by unfold kpI at z; unfold rlI; omega) (fun k f z => by unfold kpF qR at z; unfold rlG qR; omega)
/-- changes of no account to a session at a line's end -/
def kqC (k f : Nat) : Prop := k = 1040 ∨ k = 1041 ∨ (k = 1042 ∧ f = 11)
def kqI (k f : Nat) : Prop := k = 1079 ∧ (f = 21 ∨ f = 23 ∨ 126 ≤ f)
def kqF (k f : Nat) : Prop := qR 4 k f ∨ k = 1093 ∨ k = 1094 ∨ k = 1148
theorem kq_kp {s s1 : uS} (o : out kqC kqC s s1) : out kpC kpC s s1 := out_w o (fun k f z => by unfold kqC at z; unfold kpC; omega) (fun k f z => by unfold kqC at z; unfold kpC; omega)
theorem kq_kr {t t1 : uS} (o : out kqI kqF t t1) : out kpI kpF t t1 := out_w o (fun k f z => by unfold kqI at z; unfold kpI; omega) (fun k f z => by unfold kqF qR at z; unfold kpF qR; omega)
def kZ (s t : uS) : Prop := s.I 1042 7 = 0 ∧ s.I 1042 8 = 0 ∧ s.I 1042 9 = 0 ∧ t.I 1079 116 = 0 ∧ t.I 1079 122 = 0 ∧ t.I 1079 123 = 0
theorem kZ.r {s t : uS} (h : kZ s t) : kR [] s t := ⟨false, [], by rw [if_neg (by decide)]; rfl, ⟨h.1, fun j hj => absurd hj (Nat.not_lt_zero _)⟩, ⟨h.2.2.2.2.1, fun j hj => absurd hj (Nat.not_lt_zero _)⟩, h.2.1, h.2.2.1, h.2.2.2.1, h.2.2.2.2.2, bys_nil⟩
/-- at a line's end -/
def lnS (gr : Bool) (sd : Option (List Nat)) (rcs : List (List Nat)) (us : List Nat) (s t : uS) : Prop := pQ1 4 s t ∧ s.I 1042 4 = 1 ∧ t.I 1079 113 = 1 ∧ tS gr sd rcs us s t ∧ kZ s t
theorem lnS.o {gr : Bool} {sd : Option (List Nat)} {rcs : List (List Nat)} {us : List Nat} {s t s1 t1 : uS} (h : lnS gr sd rcs us s t) (o : out kqC kqC s s1) (q : out kqI kqF t t1) (g : pQ1 4 s1 t1) : lnS gr sd rcs us s1 t1 := by
  obtain ⟨h1, h2, h3, h4, z1, z2, z3, z4, z5, z6⟩ := h
  exact ⟨g, (o.2.1 _ _ (by unfold kqC; omega)).trans h2, (q.2.1 _ _ (by unfold kqI; omega)).trans h3, h4.o (kq_kp o) (kq_kr q), (o.2.1 _ _ (by unfold kqC; omega)).trans z1, (o.2.1 _ _ (by unfold kqC; omega)).trans z2, (o.2.1 _ _ (by unfold kqC; omega)).trans z3, (q.2.1 _ _ (by unfold kqI; omega)).trans z4, (q.2.1 _ _ (by unfold kqI; omega)).trans z5, (q.2.1 _ _ (by unfold kqI; omega)).trans z6⟩
/-- behind a line -/
def lnO (R : Nat) (s t : uS) : Prop := (s.I 1042 4 = 0 ∧ t.I 1079 113 = 0) ∨ (s.I 1042 4 = 1 ∧ t.I 1079 113 = 1 ∧ ∃ (gr : Bool) (sd : Option (List Nat)) (rcs : List (List Nat)) (us : List Nat), tS gr sd rcs us s t ∧ rcs.length ≤ R ∧ (kR [] s t ∨ (sd.isSome = true ∧ dR [] s t ∧ s.I 1042 7 = 0 ∧ t.I 1079 122 = 0)))
def lnP (R : Nat) (s t s1 t1 : uS) : Prop := pQ1 4 s1 t1 ∧ out clC clC s s1 ∧ out rlI rlG t t1 ∧ lnO R s1 t1
theorem lnS.p {gr : Bool} {sd : Option (List Nat)} {rcs : List (List Nat)} {us : List Nat} {s t s1 t1 : uS} {R : Nat} (h : lnS gr sd rcs us s1 t1) (hR : rcs.length ≤ R) (o : out clC clC s s1) (q : out rlI rlG t t1) : lnP R s t s1 t1 := ⟨h.1, o, q, Or.inr ⟨h.2.1, h.2.2.1, gr, sd, rcs, us, h.2.2.2.1, hR, Or.inl h.2.2.2.2.r⟩⟩
theorem ln_c {s s1 : uS} (o : out (qC 4) (qC 4) s s1) : out kqC kqC s s1 := out_w o (fun k f z => by have := qC4 z; unfold kqC; omega) (fun k f z => by have := qC4 z; unfold kqC; omega)
theorem ln_r {t t1 : uS} (o : out rNo (qR 4) t t1) : out kqI kqF t t1 := out_w o (fun _ _ z => z.elim) (fun _ _ z => Or.inl z)
theorem t_lnR {w w' : List Nat} {s t : uS} (e : w = w') (hw : w.length < 900000) (h : pQ1 4 s t) : ∃ s1 t1 : uS, fn_X5_line 1040 w s = some s1 ∧ fn_X12_line 4 w' t = some t1 ∧ pQ1 4 s1 t1 ∧ out (qC 4) (qC 4) s s1 ∧ out rNo (qR 4) t t1 := by
  subst e
  exact q_lineP (u := 4) (by decide) hw h
theorem t_ln {w w' : List Nat} {s t : uS} (e : w = w') (hw : w.length < 900000) (h : pQ1 4 s t) : ∃ s1 t1 : uS, fn_X5_line 1040 w s = some s1 ∧ fn_X12_line 4 w' t = some t1 ∧ pQ1 4 s1 t1 ∧ out kqC kqC s s1 ∧ out kqI kqF t t1 := by
  subst e
  obtain ⟨s1, t1, a1, a2, a3, a4, a5⟩ := q_lineP (u := 4) (by decide) hw h
  exact ⟨s1, t1, a1, a2, a3, ln_c a4, ln_r a5⟩
/-- a line is the whole answer -/
theorem t_an {gr : Bool} {sd : Option (List Nat)} {rcs : List (List Nat)} {us : List Nat} {s t : uS} {w w' : List Nat} (h : lnS gr sd rcs us s t) (e : w = w') (hw : w.length < 900000) : ∃ s1 t1 : uS, fn_X5_line 1040 w s = some s1 ∧ fn_X12_line 4 w' t = some t1 ∧ lnS gr sd rcs us s1 t1 ∧ out kqC kqC s s1 ∧ out kqI kqF t t1 := by
  obtain ⟨s1, t1, a1, a2, a3, a4, a5⟩ := t_ln e hw h.1
  exact ⟨s1, t1, a1, a2, h.o a4 a5 a3, a4, a5⟩
