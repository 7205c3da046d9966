/-! results of a piece of parsing: both fail at one place, or both go on -/
def RU (x : List Nat) (s t : uS) (C : Option (uS × Int32)) (A : Option uS) (G : uS → Nat → uS → Prop) : Prop := (∃ (p : Nat) (s1 : uS), p ≤ x.length ∧ C = some (s1, nI (1 + lnc x p)) ∧ out psI psI s s1 ∧ FU p t A) ∨ ∃ (T1 : Nat) (s1 t1 : uS), C = pd T1 s1 ∧ A = some t1 ∧ out psI psI s s1 ∧ ol rdI rdF rNo t t1 ∧ G s1 T1 t1
def RV (x : List Nat) (s t : uS) (C : Option (uS × Int32)) (A : Option (uS × Int32)) (G : uS → Nat → uS → Nat → Prop) : Prop := (∃ (p : Nat) (s1 : uS), p ≤ x.length ∧ C = some (s1, nI (1 + lnc x p)) ∧ out psI psI s s1 ∧ FV p t A) ∨ ∃ (T1 : Nat) (s1 t1 : uS) (v : Nat), C = pd T1 s1 ∧ A = some (t1, nI v) ∧ out psI psI s s1 ∧ ol rdI rdF rNo t t1 ∧ G s1 T1 t1 v
theorem RU.uu {x : List Nat} {s t : uS} {C : Option (uS × Int32)} {A : Option uS} {g : uS → Option uS} {G H : uS → Nat → uS → Prop} (h : RU x s t C A G) (f : ∀ (p : Nat) (t1 : uS), fO p t1 → FU p t1 (g t1)) (k : ∀ (s1 : uS) (T1 : Nat) (t1 : uS), out psI psI s s1 → ol rdI rdF rNo t t1 → G s1 T1 t1 → RU x s1 t1 (pd T1 s1) (g t1) H) : RU x s t C (A.bind g) H := by
  rcases h with ⟨p, s1, a1, a2, a3, a4⟩ | ⟨T1, s1, t1, a1, a2, a3, a4, a5⟩
  · exact Or.inl ⟨p, s1, a1, a2, a3, a4.uu fun t1 h1 => f p t1 h1⟩
  · rw [a1, a2, Option.bind_some]
    rcases k s1 T1 t1 a3 a4 a5 with ⟨p, s2, b1, b2, b3, b4⟩ | ⟨T2, s2, t2, b1, b2, b3, b4, b5⟩
    · exact Or.inl ⟨p, s2, b1, b2, out_t a3 b3, b4.w a4⟩
    · exact Or.inr ⟨T2, s2, t2, b1, b2, out_t a3 b3, ol_t a4 b4, b5⟩
theorem RU.uv {x : List Nat} {s t : uS} {C : Option (uS × Int32)} {A : Option uS} {g : uS → Option (uS × Int32)} {G : uS → Nat → uS → Prop} {H : uS → Nat → uS → Nat → Prop} (h : RU x s t C A G) (f : ∀ (p : Nat) (t1 : uS), fO p t1 → FV p t1 (g t1)) (k : ∀ (s1 : uS) (T1 : Nat) (t1 : uS), out psI psI s s1 → ol rdI rdF rNo t t1 → G s1 T1 t1 → RV x s1 t1 (pd T1 s1) (g t1) H) : RV x s t C (A.bind g) H := by
  rcases h with ⟨p, s1, a1, a2, a3, a4⟩ | ⟨T1, s1, t1, a1, a2, a3, a4, a5⟩
  · exact Or.inl ⟨p, s1, a1, a2, a3, a4.uv fun t1 h1 => f p t1 h1⟩
  · rw [a1, a2, Option.bind_some]
    rcases k s1 T1 t1 a3 a4 a5 with ⟨p, s2, b1, b2, b3, b4⟩ | ⟨T2, s2, t2, v, b1, b2, b3, b4, b5⟩
    · exact Or.inl ⟨p, s2, b1, b2, out_t a3 b3, b4.w a4⟩
    · exact Or.inr ⟨T2, s2, t2, v, b1, b2, out_t a3 b3, ol_t a4 b4, b5⟩
theorem RV.vu {x : List Nat} {s t : uS} {C : Option (uS × Int32)} {A : Option (uS × Int32)} {g : uS × Int32 → Option uS} {G : uS → Nat → uS → Nat → Prop} {H : uS → Nat → uS → Prop} (h : RV x s t C A G) (f : ∀ (p : Nat) (t1 : uS) (v : Nat), v < 520 → fO p t1 → FU p t1 (g (t1, nI v))) (k : ∀ (s1 : uS) (T1 : Nat) (t1 : uS) (v : Nat), out psI psI s s1 → ol rdI rdF rNo t t1 → G s1 T1 t1 v → RU x s1 t1 (pd T1 s1) (g (t1, nI v)) H) : RU x s t C (A.bind g) H := by
  rcases h with ⟨p, s1, a1, a2, a3, a4⟩ | ⟨T1, s1, t1, v, a1, a2, a3, a4, a5⟩
  · exact Or.inl ⟨p, s1, a1, a2, a3, a4.vu fun t1 v hv h1 => f p t1 v hv h1⟩
  · rw [a1, a2, Option.bind_some]
    rcases k s1 T1 t1 v a3 a4 a5 with ⟨p, s2, b1, b2, b3, b4⟩ | ⟨T2, s2, t2, b1, b2, b3, b4, b5⟩
    · exact Or.inl ⟨p, s2, b1, b2, out_t a3 b3, b4.w a4⟩
    · exact Or.inr ⟨T2, s2, t2, b1, b2, out_t a3 b3, ol_t a4 b4, b5⟩
theorem RV.vv {x : List Nat} {s t : uS} {C : Option (uS × Int32)} {A : Option (uS × Int32)} {g : uS × Int32 → Option (uS × Int32)} {G H : uS → Nat → uS → Nat → Prop} (h : RV x s t C A G) (f : ∀ (p : Nat) (t1 : uS) (v : Nat), v < 520 → fO p t1 → FV p t1 (g (t1, nI v))) (k : ∀ (s1 : uS) (T1 : Nat) (t1 : uS) (v : Nat), out psI psI s s1 → ol rdI rdF rNo t t1 → G s1 T1 t1 v → RV x s1 t1 (pd T1 s1) (g (t1, nI v)) H) : RV x s t C (A.bind g) H := by
  rcases h with ⟨p, s1, a1, a2, a3, a4⟩ | ⟨T1, s1, t1, v, a1, a2, a3, a4, a5⟩
  · exact Or.inl ⟨p, s1, a1, a2, a3, a4.vv fun t1 v hv h1 => f p t1 v hv h1⟩
  · rw [a1, a2, Option.bind_some]
    rcases k s1 T1 t1 v a3 a4 a5 with ⟨p, s2, b1, b2, b3, b4⟩ | ⟨T2, s2, t2, w, b1, b2, b3, b4, b5⟩
    · exact Or.inl ⟨p, s2, b1, b2, out_t a3 b3, b4.w a4⟩
    · exact Or.inr ⟨T2, s2, t2, w, b1, b2, out_t a3 b3, ol_t a4 b4, b5⟩
/-- what leaves the lexers as they are -/
def cnI (k _f : Nat) : Prop := k = 6 ∨ (16 ≤ k ∧ k < 976)
def cnF (k _f : Nat) : Prop := k = 14 ∨ k = 15 ∨ (16 ≤ k ∧ k < 976)
def rnJ (k f : Nat) : Prop := k = 1079 ∧ (f = 21 ∨ (41 ≤ f ∧ f ≤ 42) ∨ f = 61 ∨ (64 ≤ f ∧ f ≤ 67))
def rnK (k _f : Nat) : Prop := k = 1093 ∨ (1098 ≤ k ∧ k ≤ 1117)
theorem cn_ps {s s1 : uS} (h : out cnI cnF s s1) : out psI psI s s1 := out_w h (fun k f z => by unfold cnI at z; unfold psI; omega) (fun k f z => by unfold cnF at z; unfold psI; omega)
theorem rn_rd {t t1 : uS} (h : ol rnJ rnK rNo t t1) : ol rdI rdF rNo t t1 := ol_w h (fun k f z => by unfold rnJ at z; unfold rdI; omega) (fun k f z => by unfold rnK at z; unfold rdF; omega) (fun _ _ z => z)
theorem ln_ps {s s1 : uS} (h : out lnI' lqF s s1) : out psI psI s s1 := out_w h (fun k f z => by unfold lnI' at z; unfold psI; omega) (fun k f z => by unfold lqF at z; unfold psI; omega)
theorem rq_rd {bg : Nat} {t t1 : uS} (h : out rnI (rqP bg) t t1) : ol rdI rdF rNo t t1 := ol_out (out_w h (fun k f z => by unfold rnI at z; unfold rdI; omega) (fun k f z => by unfold rqP at z; unfold rdF; omega))
theorem lxB.o {k fr : Nat} {x : List Nat} {ts : List (List Nat)} {bg p : Nat} {s t s1 t1 : uS} (h : lxB k fr x ts bg p s t) (o : out cnI cnF s s1) (q : ol rnJ rnK rNo t t1) : lxB k fr x ts bg p s1 t1 := by
  obtain ⟨⟨a1, a2, a3, a4, a5, a6, a7, a8⟩, ⟨c1, c2, c3, c4, c5, c6⟩, h3, h4, h5, h6, h7, h8, h9⟩ := h
  have i7 : ∀ f : Nat, s1.I 7 f = s.I 7 f := fun f => o.2.1 _ _ (by unfold cnI; omega)
  have i8 : ∀ f : Nat, s1.I 8 f = s.I 8 f := fun f => o.2.1 _ _ (by unfold cnI; omega)
  have f8 : ∀ r : Nat, r < 14 ∨ 976 ≤ r → s1.F r = s.F r := fun r hr => funext fun f => o.2.2 _ _ (by unfold cnF; omega)
  have j : ∀ f : Nat, f < 41 → f ≠ 21 → t1.I 1079 f = t.I 1079 f := fun f hf hg => q.2.1 _ _ (by unfold rnJ; omega)
  have g : ∀ r f : Nat, r = 1096 ∨ r = 1097 → t1.F r f = t.F r f := fun r f hr => q.2.2.1 _ _ (by unfold rnK; omega)
  have uc : uCl s1 k = uCl s k := by unfold uCl; rw [o.1.1]
  exact ⟨⟨by rw [o.1.2.1]; exact a1, a2.fr o.1.1 o.1.2.2.2.2.1 (f8 k (Or.inr h7)), a3, a4, (i7 4).trans a5, (i7 5).trans a6, (i7 8).trans a7, a8⟩, ⟨(j 29 (by omega) (by omega)).trans c1, fun i hi => (g 1096 i (Or.inl rfl)).trans (c2 i hi), c3, c4, (j 30 (by omega) (by omega)).trans c5, c6⟩, h3.fr (i8 3) (i8 4) (i8 5) (f8 9 (by omega)) (f8 10 (by omega)) (f8 11 (by omega)), (j 37 (by omega) (by omega)).trans h4, (j 40 (by omega) (by omega)).trans h5, by rw [uc]; exact h6, h7, h8, h9⟩
theorem pj.nq {k fr : Nat} {x : List Nat} {ts : List (List Nat)} {bg b e : Nat} {σ : List (Nat × Nat)} {N M cn ob dp rq T : Nat} {s t : uS} (h : pj k fr x ts bg b e σ N M cn ob dp rq T s t) (hq : s.I 7 2 ≠ 3) : lxB k fr x ts bg e s t := by
  obtain ⟨h1, h2, h3, k1, k2, k3, k4, k5⟩ := h
  have hbe := h1.l.2.2.2.2.2
  rcases h1 with h | h | h | h | h | h
  · obtain ⟨a, c, ⟨g1, g2, g3, g4, g5, g6, g7⟩, -⟩ := h
    exact ⟨g1, g2, g3, g4, g5, k1, k2, k3, by omega⟩
  · obtain ⟨a, ⟨g1, g2, g3, g4, g5, g6, g7⟩, -⟩ := h
    exact ⟨g1, g2, g3, g4, g5, k1, k2, k3, by omega⟩
  · obtain ⟨a, ⟨g1, g2, g3, g4, g5, g6, g7⟩, -⟩ := h
    exact ⟨g1, g2, g3, g4, g5, k1, k2, k3, by omega⟩
  · obtain ⟨a, ⟨g1, g2, g3, g4, g5, g6, g7⟩, -⟩ := h
    exact ⟨g1, g2, g3, g4, g5, k1, k2, k3, by omega⟩
  · obtain ⟨a, c, ⟨g1, g2, g3, g4, g5, g6, g7⟩, -⟩ := h
    exact ⟨g1, g2, g3, g4, g5, k1, k2, k3, by omega⟩
  · obtain ⟨a, str, -, -, -, -, -, -, -, -, -, z, -⟩ := h
    exact absurd z hq
theorem pj.fl {k fr : Nat} {x : List Nat} {ts : List (List Nat)} {bg b e : Nat} {σ : List (Nat × Nat)} {N M cn ob dp rq T : Nat} {s t : uS} (h : pj k fr x ts bg b e σ N M cn ob dp rq T s t) : FU b t (fn_X12_fail (t.I 1079 32) t) := by
  obtain ⟨h1, h2, ⟨r1, r2, r3, r4, r5, r6, r7, r8⟩, k1, k2, k3, k4, k5, k6, k7, k8, k9, k10, k11, k12, k13⟩ := h
  obtain ⟨l1, l2, l3, l4, l5, l6⟩ := h1.l
  have := l1.2.2.1
  have := l1.2.2.2.2.2.2.2
  unfold fn_X12_fail fb_X12_fail_12
  rw [l3, if_neg (show ¬ (0 : Int32) ≤ -1 by decide), l5]
  refine ⟨_, rfl, ⟨by omega, ?_, ⟨M, by omega, ?_⟩, r8⟩, ol_I (ol_I (ol_I ol_r ⟨rfl, by omega⟩) ⟨rfl, by omega⟩) ⟨rfl, by omega⟩⟩
  · rw [wI_o (by omega), wI_o (by omega), wI_e]
  · rw [wI_o (by omega), wI_o (by omega), wI_o (by omega)]; exact r1
theorem pj.bl {k fr : Nat} {x : List Nat} {ts : List (List Nat)} {bg b e : Nat} {σ : List (Nat × Nat)} {N M cn ob dp rq T : Nat} {s t : uS} (h : pj k fr x ts bg b e σ N M cn ob dp rq T s t) : b ≤ x.length ∧ T < 19000 ∧ x.length ≤ 2000 := by
  obtain ⟨h1, h2, h3, k1, k2, k3, k4, k5, k6, k7, k8, k9, k10, k11, k12, k13⟩ := h
  obtain ⟨l1, l2, l3, l4, l5, l6⟩ := h1.l
  have := l1.2.2.1
  have := l1.2.2.2.2.2.2.2
  exact ⟨by omega, by omega, by omega⟩
/-- a refusal in the class -/
theorem pj.rf {k fr : Nat} {x : List Nat} {ts : List (List Nat)} {bg b e : Nat} {σ : List (Nat × Nat)} {N M cn ob dp rq T : Nat} {s t : uS} (h : pj k fr x ts bg b e σ N M cn ob dp rq T s t) {S : uS} (o : out cnI cnF s S) : fn_X4_parse_13 (999999 - T) 0 (nI T + 1) S = some (S, nI (1 + lnc x b)) := by
  have hb := h.bl
  obtain ⟨l1, l2, l3, l4, l5, l6⟩ := h.1.l
  have hk := h.2.2.2.2.1
  have i7 : ∀ f : Nat, S.I 7 f = s.I 7 f := fun f => o.2.1 _ _ (by unfold cnI; omega)
  rw [K_ref hb.2.1, c_lineAt (k := k) (fr := fr) (b := b) (x := x) (by rw [o.1.2.1]; exact l1.1) (l1.2.1.fr o.1.1 o.1.2.2.2.2.1 (funext fun f => o.2.2 _ _ (by unfold cnF; omega))) ((i7 4).trans l1.2.2.2.2.1) ((i7 6).trans l4) hb.1 hb.2.2, Option.bind_some]
/-- refused by the class, failed in the reference -/
theorem pj.RU {k fr : Nat} {x : List Nat} {ts : List (List Nat)} {bg b e : Nat} {σ : List (Nat × Nat)} {N M cn ob dp rq T : Nat} {s t : uS} (h : pj k fr x ts bg b e σ N M cn ob dp rq T s t) {S : uS} (o : out cnI cnF s S) {A : Option uS} {G : uS → Nat → uS → Prop} (f : FU b t A) : RU x s t (fn_X4_parse_13 (999999 - T) 0 (nI T + 1) S) A G := Or.inl ⟨b, S, h.bl.1, h.rf o, cn_ps o, f⟩
theorem pj.RV {k fr : Nat} {x : List Nat} {ts : List (List Nat)} {bg b e : Nat} {σ : List (Nat × Nat)} {N M cn ob dp rq T : Nat} {s t : uS} (h : pj k fr x ts bg b e σ N M cn ob dp rq T s t) {S : uS} (o : out cnI cnF s S) {A : Option (uS × Int32)} {G : uS → Nat → uS → Nat → Prop} (f : FV b t A) : RV x s t (fn_X4_parse_13 (999999 - T) 0 (nI T + 1) S) A G := Or.inl ⟨b, S, h.bl.1, h.rf o, cn_ps o, f⟩
theorem pj.k6 {k fr : Nat} {x : List Nat} {ts : List (List Nat)} {bg b e : Nat} {σ : List (Nat × Nat)} {N M cn ob dp rq T : Nat} {s t : uS} (h : pj k fr x ts bg b e σ N M cn ob dp rq T s t) : s.I 7 2 ≠ 6 := by
  rcases h.1 with h | h | h | h | h | h
  · rw [h.2.2.2.1]; decide
  · rw [h.2.2.1]; decide
  · rw [h.2.2.1]; decide
  · rw [h.2.2.1]; decide
  · rw [h.2.2.2.1]; decide
  · obtain ⟨a, str, -, -, -, -, -, -, -, -, -, z, -⟩ := h
    rw [z]; decide
theorem pd_0 {k fr : Nat} {x : List Nat} {ts : List (List Nat)} {bg b e : Nat} {σ : List (Nat × Nat)} {N M cn ob dp rq T : Nat} {s t : uS} {a : Nat} (h : pj k fr x ts bg b e ((0, a) :: σ) N M cn ob dp rq T s t) : pd T s = ((fn_X4_require s).bind fun r => fn_X4_parse_13 (999999 - T) r.2 (nI T + 1) r.1) := by
  have h6 := h.k6
  obtain ⟨h1, ⟨m1, m2, m3, m4⟩, h3, k1, k2, k3, k4, k5, k6, k7, k8, k9, k10, k11, k12, k13⟩ := h
  rw [List.length_cons] at m1 k5
  obtain ⟨d1, d2, d3, d4, d5⟩ := D_top (n := 0) (T := T) h6 m1 (by omega) ⟨N, by omega, m3⟩ m2
  unfold pd pD4 fb_X4_parse_46
  rw [if_neg h6, if_neg d3, if_neg d4, if_pos d5, d1, Option.bind_some, d2, Option.bind_some, if_pos (show nI 0 = 0 from rfl)]
theorem pd_1 {k fr : Nat} {x : List Nat} {ts : List (List Nat)} {bg b e : Nat} {σ : List (Nat × Nat)} {N M cn ob dp rq T : Nat} {s t : uS} {a : Nat} (h : pj k fr x ts bg b e ((1, a) :: σ) N M cn ob dp rq T s t) : pd T s = (if (s.I 7 2) = 5 then (fn_X4_parse_13 (999999 - T) 3 (nI T + 1) s) else ((fn_X4_startCommand s).bind fun r => fn_X4_parse_13 (999999 - T) r.2 (nI T + 1) r.1)) := by
  have h6 := h.k6
  obtain ⟨h1, ⟨m1, m2, m3, m4⟩, h3, k1, k2, k3, k4, k5, k6, k7, k8, k9, k10, k11, k12, k13⟩ := h
  rw [List.length_cons] at m1 k5
  obtain ⟨d1, d2, d3, d4, d5⟩ := D_top (n := 0) (T := T) h6 m1 (by omega) ⟨N, by omega, m3⟩ m2
  unfold pd pD4 fb_X4_parse_46
  rw [if_neg h6, if_neg d3, if_neg d4, if_pos d5, d1, Option.bind_some, d2, Option.bind_some, if_neg (show ¬ nI 1 = 0 by decide), if_pos (show nI 1 = 1 from rfl)]
theorem pd_2 {k fr : Nat} {x : List Nat} {ts : List (List Nat)} {bg b e : Nat} {σ : List (Nat × Nat)} {N M cn ob dp rq T : Nat} {s t : uS} {a : Nat} (h : pj k fr x ts bg b e ((2, a) :: σ) N M cn ob dp rq T s t) : pd T s = ((fn_X4_openBlock (nI a) s).bind fun r => fn_X4_parse_13 (999999 - T) r.2 (nI T + 1) r.1) := by
  have h6 := h.k6
  obtain ⟨h1, ⟨m1, m2, m3, m4⟩, h3, k1, k2, k3, k4, k5, k6, k7, k8, k9, k10, k11, k12, k13⟩ := h
  rw [List.length_cons] at m1 k5
  obtain ⟨d1, d2, d3, d4, d5⟩ := D_top (n := 0) (T := T) h6 m1 (by omega) ⟨N, by omega, m3⟩ m2
  unfold pd pD4 fb_X4_parse_46
  rw [if_neg h6, if_neg d3, if_neg d4, if_pos d5, d1, Option.bind_some, d2, Option.bind_some, if_neg (show ¬ nI 2 = 0 by decide), if_neg (show ¬ nI 2 = 1 by decide), if_pos (show nI 2 = 2 from rfl)]
theorem pd_3 {k fr : Nat} {x : List Nat} {ts : List (List Nat)} {bg b e : Nat} {σ : List (Nat × Nat)} {N M cn ob dp rq T : Nat} {s t : uS} {a : Nat} (h : pj k fr x ts bg b e ((3, a) :: σ) N M cn ob dp rq T s t) : pd T s = ((fn_X2_isSign 125 s).bind fun v => if v = true then ((fn_X4_closeBlock (nI a) s).bind fun r => fn_X4_parse_13 (999999 - T) r.2 (nI T + 1) r.1) else ((fn_X4_startCommand s).bind fun r => fn_X4_parse_13 (999999 - T) r.2 (nI T + 1) r.1)) := by
  have h6 := h.k6
  obtain ⟨h1, ⟨m1, m2, m3, m4⟩, h3, k1, k2, k3, k4, k5, k6, k7, k8, k9, k10, k11, k12, k13⟩ := h
  rw [List.length_cons] at m1 k5
  obtain ⟨d1, d2, d3, d4, d5⟩ := D_top (n := 0) (T := T) h6 m1 (by omega) ⟨N, by omega, m3⟩ m2
  unfold pd pD4 fb_X4_parse_46
  rw [if_neg h6, if_neg d3, if_neg d4, if_pos d5, d1, Option.bind_some, d2, Option.bind_some, if_neg (show ¬ nI 3 = 0 by decide), if_neg (show ¬ nI 3 = 1 by decide), if_neg (show ¬ nI 3 = 2 by decide), if_pos (show nI 3 = 3 from rfl)]
theorem pd_4 {k fr : Nat} {x : List Nat} {ts : List (List Nat)} {bg b e : Nat} {σ : List (Nat × Nat)} {N M cn ob dp rq T : Nat} {s t : uS} {a : Nat} (h : pj k fr x ts bg b e ((4, a) :: σ) N M cn ob dp rq T s t) : pd T s = ((fn_X4_startElse s).bind fun r => fn_X4_parse_13 (999999 - T) r.2 (nI T + 1) r.1) := by
  have h6 := h.k6
  obtain ⟨h1, ⟨m1, m2, m3, m4⟩, h3, k1, k2, k3, k4, k5, k6, k7, k8, k9, k10, k11, k12, k13⟩ := h
  rw [List.length_cons] at m1 k5
  obtain ⟨d1, d2, d3, d4, d5⟩ := D_top (n := 0) (T := T) h6 m1 (by omega) ⟨N, by omega, m3⟩ m2
  unfold pd pD4 fb_X4_parse_46
  rw [if_neg h6, if_neg d3, if_neg d4, if_pos d5, d1, Option.bind_some, d2, Option.bind_some, if_neg (show ¬ nI 4 = 0 by decide), if_neg (show ¬ nI 4 = 1 by decide), if_neg (show ¬ nI 4 = 2 by decide), if_neg (show ¬ nI 4 = 3 by decide), if_pos (show nI 4 = 4 from rfl)]
theorem pd_5 {k fr : Nat} {x : List Nat} {ts : List (List Nat)} {bg b e : Nat} {σ : List (Nat × Nat)} {N M cn ob dp rq T : Nat} {s t : uS} {a : Nat} (h : pj k fr x ts bg b e ((5, a) :: σ) N M cn ob dp rq T s t) : pd T s = ((fn_X4_startTest (nI a) s).bind fun r => fn_X4_parse_13 (999999 - T) r.2 (nI T + 1) r.1) := by
  have h6 := h.k6
  obtain ⟨h1, ⟨m1, m2, m3, m4⟩, h3, k1, k2, k3, k4, k5, k6, k7, k8, k9, k10, k11, k12, k13⟩ := h
  rw [List.length_cons] at m1 k5
  obtain ⟨d1, d2, d3, d4, d5⟩ := D_top (n := 0) (T := T) h6 m1 (by omega) ⟨N, by omega, m3⟩ m2
  unfold pd pD4 fb_X4_parse_46
  rw [if_neg h6, if_neg d3, if_neg d4, if_pos d5, d1, Option.bind_some, d2, Option.bind_some, if_neg (show ¬ nI 5 = 0 by decide), if_neg (show ¬ nI 5 = 1 by decide), if_neg (show ¬ nI 5 = 2 by decide), if_neg (show ¬ nI 5 = 3 by decide), if_neg (show ¬ nI 5 = 4 by decide), if_pos (show nI 5 = 5 from rfl)]
theorem pd_6 {k fr : Nat} {x : List Nat} {ts : List (List Nat)} {bg b e : Nat} {σ : List (Nat × Nat)} {N M cn ob dp rq T : Nat} {s t : uS} {a : Nat} (h : pj k fr x ts bg b e ((6, a) :: σ) N M cn ob dp rq T s t) : pd T s = ((fn_X4_moreTests (nI a) s).bind fun r => fn_X4_parse_13 (999999 - T) r.2 (nI T + 1) r.1) := by
  have h6 := h.k6
  obtain ⟨h1, ⟨m1, m2, m3, m4⟩, h3, k1, k2, k3, k4, k5, k6, k7, k8, k9, k10, k11, k12, k13⟩ := h
  rw [List.length_cons] at m1 k5
  obtain ⟨d1, d2, d3, d4, d5⟩ := D_top (n := 0) (T := T) h6 m1 (by omega) ⟨N, by omega, m3⟩ m2
  unfold pd pD4 fb_X4_parse_46
  rw [if_neg h6, if_neg d3, if_neg d4, if_pos d5, d1, Option.bind_some, d2, Option.bind_some, if_neg (show ¬ nI 6 = 0 by decide), if_neg (show ¬ nI 6 = 1 by decide), if_neg (show ¬ nI 6 = 2 by decide), if_neg (show ¬ nI 6 = 3 by decide), if_neg (show ¬ nI 6 = 4 by decide), if_neg (show ¬ nI 6 = 5 by decide), if_pos (show nI 6 = 6 from rfl)]
theorem pd_7 {k fr : Nat} {x : List Nat} {ts : List (List Nat)} {bg b e : Nat} {σ : List (Nat × Nat)} {N M cn ob dp rq T : Nat} {s t : uS} {a : Nat} (h : pj k fr x ts bg b e ((7, a) :: σ) N M cn ob dp rq T s t) : pd T s = ((fn_X4_endTest (nI a) 2 s).bind fun r => fn_X4_parse_13 (999999 - T) r.2 (nI T + 1) r.1) := by
  have h6 := h.k6
  obtain ⟨h1, ⟨m1, m2, m3, m4⟩, h3, k1, k2, k3, k4, k5, k6, k7, k8, k9, k10, k11, k12, k13⟩ := h
  rw [List.length_cons] at m1 k5
  obtain ⟨d1, d2, d3, d4, d5⟩ := D_top (n := 0) (T := T) h6 m1 (by omega) ⟨N, by omega, m3⟩ m2
  unfold pd pD4 fb_X4_parse_46
  rw [if_neg h6, if_neg d3, if_neg d4, if_pos d5, d1, Option.bind_some, d2, Option.bind_some, if_neg (show ¬ nI 7 = 0 by decide), if_neg (show ¬ nI 7 = 1 by decide), if_neg (show ¬ nI 7 = 2 by decide), if_neg (show ¬ nI 7 = 3 by decide), if_neg (show ¬ nI 7 = 4 by decide), if_neg (show ¬ nI 7 = 5 by decide), if_neg (show ¬ nI 7 = 6 by decide), if_pos (show nI 7 = 7 from rfl)]
theorem pd_8 {k fr : Nat} {x : List Nat} {ts : List (List Nat)} {bg b e : Nat} {σ : List (Nat × Nat)} {N M cn ob dp rq T : Nat} {s t : uS} {a : Nat} (h : pj k fr x ts bg b e ((8, a) :: σ) N M cn ob dp rq T s t) : pd T s = (if (s.I 7 2) = 1 then ((fn_X4_takeTag (nI a) s).bind fun r => fn_X4_parse_13 (999999 - T) r.2 (nI T + 1) r.1) else ((fn_X4_pop 2 s).bind fun r => fn_X4_parse_13 (999999 - T) r.2 (nI T + 1) r.1)) := by
  have h6 := h.k6
  obtain ⟨h1, ⟨m1, m2, m3, m4⟩, h3, k1, k2, k3, k4, k5, k6, k7, k8, k9, k10, k11, k12, k13⟩ := h
  rw [List.length_cons] at m1 k5
  obtain ⟨d1, d2, d3, d4, d5⟩ := D_top (n := 0) (T := T) h6 m1 (by omega) ⟨N, by omega, m3⟩ m2
  unfold pd pD4 fb_X4_parse_46
  rw [if_neg h6, if_neg d3, if_neg d4, if_pos d5, d1, Option.bind_some, d2, Option.bind_some, if_neg (show ¬ nI 8 = 0 by decide), if_neg (show ¬ nI 8 = 1 by decide), if_neg (show ¬ nI 8 = 2 by decide), if_neg (show ¬ nI 8 = 3 by decide), if_neg (show ¬ nI 8 = 4 by decide), if_neg (show ¬ nI 8 = 5 by decide), if_neg (show ¬ nI 8 = 6 by decide), if_neg (show ¬ nI 8 = 7 by decide), if_pos (show nI 8 = 8 from rfl)]
theorem pd_9 {k fr : Nat} {x : List Nat} {ts : List (List Nat)} {bg b e : Nat} {σ : List (Nat × Nat)} {N M cn ob dp rq T : Nat} {s t : uS} {a : Nat} (h : pj k fr x ts bg b e ((9, a) :: σ) N M cn ob dp rq T s t) : pd T s = ((fn_X4_takeNumber (nI a) s).bind fun r => fn_X4_parse_13 (999999 - T) r.2 (nI T + 1) r.1) := by
  have h6 := h.k6
  obtain ⟨h1, ⟨m1, m2, m3, m4⟩, h3, k1, k2, k3, k4, k5, k6, k7, k8, k9, k10, k11, k12, k13⟩ := h
  rw [List.length_cons] at m1 k5
  obtain ⟨d1, d2, d3, d4, d5⟩ := D_top (n := 0) (T := T) h6 m1 (by omega) ⟨N, by omega, m3⟩ m2
  unfold pd pD4 fb_X4_parse_46
  rw [if_neg h6, if_neg d3, if_neg d4, if_pos d5, d1, Option.bind_some, d2, Option.bind_some, if_neg (show ¬ nI 9 = 0 by decide), if_neg (show ¬ nI 9 = 1 by decide), if_neg (show ¬ nI 9 = 2 by decide), if_neg (show ¬ nI 9 = 3 by decide), if_neg (show ¬ nI 9 = 4 by decide), if_neg (show ¬ nI 9 = 5 by decide), if_neg (show ¬ nI 9 = 6 by decide), if_neg (show ¬ nI 9 = 7 by decide), if_neg (show ¬ nI 9 = 8 by decide), if_pos (show nI 9 = 9 from rfl)]
theorem pd_10 {k fr : Nat} {x : List Nat} {ts : List (List Nat)} {bg b e : Nat} {σ : List (Nat × Nat)} {N M cn ob dp rq T : Nat} {s t : uS} {a : Nat} (h : pj k fr x ts bg b e ((10, a) :: σ) N M cn ob dp rq T s t) : pd T s = ((fn_X4_takeString (nI a) s).bind fun r => fn_X4_parse_13 (999999 - T) r.2 (nI T + 1) r.1) := by
  have h6 := h.k6
  obtain ⟨h1, ⟨m1, m2, m3, m4⟩, h3, k1, k2, k3, k4, k5, k6, k7, k8, k9, k10, k11, k12, k13⟩ := h
  rw [List.length_cons] at m1 k5
  obtain ⟨d1, d2, d3, d4, d5⟩ := D_top (n := 0) (T := T) h6 m1 (by omega) ⟨N, by omega, m3⟩ m2
  unfold pd pD4 fb_X4_parse_46
  rw [if_neg h6, if_neg d3, if_neg d4, if_pos d5, d1, Option.bind_some, d2, Option.bind_some, if_neg (show ¬ nI 10 = 0 by decide), if_neg (show ¬ nI 10 = 1 by decide), if_neg (show ¬ nI 10 = 2 by decide), if_neg (show ¬ nI 10 = 3 by decide), if_neg (show ¬ nI 10 = 4 by decide), if_neg (show ¬ nI 10 = 5 by decide), if_neg (show ¬ nI 10 = 6 by decide), if_neg (show ¬ nI 10 = 7 by decide), if_neg (show ¬ nI 10 = 8 by decide), if_neg (show ¬ nI 10 = 9 by decide), if_pos (show nI 10 = 10 from rfl)]
theorem pd_11 {k fr : Nat} {x : List Nat} {ts : List (List Nat)} {bg b e : Nat} {σ : List (Nat × Nat)} {N M cn ob dp rq T : Nat} {s t : uS} {a : Nat} (h : pj k fr x ts bg b e ((11, a) :: σ) N M cn ob dp rq T s t) : pd T s = ((fn_X2_isSign 91 s).bind fun v => if v = true then ((fn_X4_openList (nI a) s).bind fun r => fn_X4_parse_13 (999999 - T) r.2 (nI T + 1) r.1) else ((fn_X4_takeString (nI a) s).bind fun r => fn_X4_parse_13 (999999 - T) r.2 (nI T + 1) r.1)) := by
  have h6 := h.k6
  obtain ⟨h1, ⟨m1, m2, m3, m4⟩, h3, k1, k2, k3, k4, k5, k6, k7, k8, k9, k10, k11, k12, k13⟩ := h
  rw [List.length_cons] at m1 k5
  obtain ⟨d1, d2, d3, d4, d5⟩ := D_top (n := 0) (T := T) h6 m1 (by omega) ⟨N, by omega, m3⟩ m2
  unfold pd pD4 fb_X4_parse_46
  rw [if_neg h6, if_neg d3, if_neg d4, if_pos d5, d1, Option.bind_some, d2, Option.bind_some, if_neg (show ¬ nI 11 = 0 by decide), if_neg (show ¬ nI 11 = 1 by decide), if_neg (show ¬ nI 11 = 2 by decide), if_neg (show ¬ nI 11 = 3 by decide), if_neg (show ¬ nI 11 = 4 by decide), if_neg (show ¬ nI 11 = 5 by decide), if_neg (show ¬ nI 11 = 6 by decide), if_neg (show ¬ nI 11 = 7 by decide), if_neg (show ¬ nI 11 = 8 by decide), if_neg (show ¬ nI 11 = 9 by decide), if_neg (show ¬ nI 11 = 10 by decide), if_pos (show nI 11 = 11 from rfl)]
theorem pd_12 {k fr : Nat} {x : List Nat} {ts : List (List Nat)} {bg b e : Nat} {σ : List (Nat × Nat)} {N M cn ob dp rq T : Nat} {s t : uS} {a : Nat} (h : pj k fr x ts bg b e ((12, a) :: σ) N M cn ob dp rq T s t) : pd T s = ((fn_X4_moreStrings (nI a) s).bind fun r => fn_X4_parse_13 (999999 - T) r.2 (nI T + 1) r.1) := by
  have h6 := h.k6
  obtain ⟨h1, ⟨m1, m2, m3, m4⟩, h3, k1, k2, k3, k4, k5, k6, k7, k8, k9, k10, k11, k12, k13⟩ := h
  rw [List.length_cons] at m1 k5
  obtain ⟨d1, d2, d3, d4, d5⟩ := D_top (n := 0) (T := T) h6 m1 (by omega) ⟨N, by omega, m3⟩ m2
  unfold pd pD4 fb_X4_parse_46
  rw [if_neg h6, if_neg d3, if_neg d4, if_pos d5, d1, Option.bind_some, d2, Option.bind_some, if_neg (show ¬ nI 12 = 0 by decide), if_neg (show ¬ nI 12 = 1 by decide), if_neg (show ¬ nI 12 = 2 by decide), if_neg (show ¬ nI 12 = 3 by decide), if_neg (show ¬ nI 12 = 4 by decide), if_neg (show ¬ nI 12 = 5 by decide), if_neg (show ¬ nI 12 = 6 by decide), if_neg (show ¬ nI 12 = 7 by decide), if_neg (show ¬ nI 12 = 8 by decide), if_neg (show ¬ nI 12 = 9 by decide), if_neg (show ¬ nI 12 = 10 by decide), if_neg (show ¬ nI 12 = 11 by decide), if_pos (show nI 12 = 12 from rfl)]
theorem pd_13 {k fr : Nat} {x : List Nat} {ts : List (List Nat)} {bg b e : Nat} {σ : List (Nat × Nat)} {N M cn ob dp rq T : Nat} {s t : uS} {a : Nat} (h : pj k fr x ts bg b e ((13, a) :: σ) N M cn ob dp rq T s t) : pd T s = ((fn_X2_isSign (nI a) s).bind fun v => if v = true then ((fn_X4_pop 1 s).bind fun r => fn_X4_parse_13 (999999 - T) r.2 (nI T + 1) r.1) else (fn_X4_parse_13 (999999 - T) 0 (nI T + 1) s)) := by
  have h6 := h.k6
  obtain ⟨h1, ⟨m1, m2, m3, m4⟩, h3, k1, k2, k3, k4, k5, k6, k7, k8, k9, k10, k11, k12, k13⟩ := h
  rw [List.length_cons] at m1 k5
  obtain ⟨d1, d2, d3, d4, d5⟩ := D_top (n := 0) (T := T) h6 m1 (by omega) ⟨N, by omega, m3⟩ m2
  unfold pd pD4 fb_X4_parse_46
  rw [if_neg h6, if_neg d3, if_neg d4, if_pos d5, d1, Option.bind_some, d2, Option.bind_some, if_neg (show ¬ nI 13 = 0 by decide), if_neg (show ¬ nI 13 = 1 by decide), if_neg (show ¬ nI 13 = 2 by decide), if_neg (show ¬ nI 13 = 3 by decide), if_neg (show ¬ nI 13 = 4 by decide), if_neg (show ¬ nI 13 = 5 by decide), if_neg (show ¬ nI 13 = 6 by decide), if_neg (show ¬ nI 13 = 7 by decide), if_neg (show ¬ nI 13 = 8 by decide), if_neg (show ¬ nI 13 = 9 by decide), if_neg (show ¬ nI 13 = 10 by decide), if_neg (show ¬ nI 13 = 11 by decide), if_neg (show ¬ nI 13 = 12 by decide)]
