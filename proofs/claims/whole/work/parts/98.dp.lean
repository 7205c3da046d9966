/-! branches of a choice -/
theorem brsR.tt {C : Nat → Nat → Nat → Nat → Nat → Nat → Prop} {s t : uS} {z : Bool} : ∀ {L : List (Nat × Nat × Nat)} {κ i j n m u w : Nat}, brsR C s t z L κ i j n m u w → brsR C s t true L κ i j n m u w
  | [], _, _, _, _, _, _, _, h => ⟨(fun y => by cases y), h.2⟩
  | _ :: _, _, _, _, _, _, _, _, h => ⟨h.1, h.2.1, h.2.2.1, by
      rcases h.2.2.2 with y | y
      · exact Or.inl (brsR.tt y)
      · exact Or.inr (brsR.tt y)⟩
theorem brsR.k {C : Nat → Nat → Nat → Nat → Nat → Nat → Prop} {s t : uS} {z : Bool} {L : List (Nat × Nat × Nat)} {κ i j n m u w : Nat} (h : brsR C s t z L κ i j n m u w) : s.I (16 + 3 * i) 0 = nI κ := by
  cases L with
  | nil => exact h.2.1.1
  | cons q L => exact h.2.1.1
def brS (B : Nat) (ts : List (List Nat)) (s t : uS) (z : Bool) (n i0 i M u w : Nat) : Prop := ∃ L : List (Nat × Nat × Nat), t.F 1099 n = nI (brH L M - 1) ∧ t.F 1100 n = nI (M - 1) ∧ brsR (cnR B ts s t) s t z L 0 i0 i (n + 1) M u w
def brP (B : Nat) (ts : List (List Nat)) (s t : uS) (n i0 i M u w κ : Nat) : Prop := (κ = 0 ∧ i = i0 ∧ M = n + 1 ∧ w = u ∧ t.F 1099 n = -1) ∨ ((κ = 22 ∨ κ = 23) ∧ brS B ts s t false n i0 i M u w)
theorem brP.fr {B : Nat} {ts more : List (List Nat)} {s t s1 t1 : uS} {n i0 i M u w κ : Nat} (h : brP B ts s t n i0 i M u w κ) (o : ∀ k : Nat, i0 ≤ k → k < i → ndS k s s1) (q : ∀ r f : Nat, 1098 ≤ r → r ≤ 1115 → n ≤ f → f < M → t1.F r f = t.F r f) (hM : n < M) : brP B (ts ++ more) s1 t1 n i0 i M u w κ := by
  rcases h with ⟨h1, h2, h3, h4, h5⟩ | ⟨h1, L, h2, h3, h4⟩
  · exact Or.inl ⟨h1, h2, h3, h4, (q 1099 n (by omega) (by omega) (Nat.le_refl _) hM).trans h5⟩
  · refine Or.inr ⟨h1, L, (q 1099 n (by omega) (by omega) (Nat.le_refl _) hM).trans h2, (q 1100 n (by omega) (by omega) (Nat.le_refl _) hM).trans h3, ?_⟩
    refine brsR.fr (fun _ _ _ _ _ _ z => cnR.lt z) h4 ?_ o (fun r f e1 e2 e3 e4 => q r f e1 e2 (by omega) e4)
    intro i' j' n' m' u' w' e1 e2 e3 e4 z
    exact cnR.fr z (fun k c1 c2 => o k (by omega) (by omega)) (fun r f c1 c2 c3 c4 c5 => q r f c1 c2 (by omega) (by omega))
theorem brP.add {B : Nat} {ts : List (List Nat)} {s t : uS} {z : Bool} {n i0 i M u w κ j m w' : Nat} (h : brP B ts s t n i0 i M u w κ) (hz : z = false → κ ≠ 23) (g : bnR (cnR B ts s t) s t κ i j M m w w') (e : t.F 1101 (m - 1) = -1) (hm : m - 1 < 520) (hl : lsO t) : ∃ t2 : uS, fn_X12_put (nI n) (nI (m - 1)) t = some t2 ∧ ol rNo (ptF n (n + 1) M) rNo t t2 ∧ lsO t2 ∧ brS B ts s t2 z n i0 j m u w' := by
  have x2 := g.lt
  rcases h with ⟨h1, h2, h3, h4, h5⟩ | ⟨h1, L, h2, h3, h4⟩
  · subst h1; subst h2; subst h3; subst h4
    have F : ∀ r f : Nat, n + 1 ≤ f → (wF (wF t 1099 n (nI (m - 1))) 1100 n (nI (m - 1))).F r f = t.F r f := fun r f hf => by rw [wF_o (by omega), wF_o (by omega)]
    refine ⟨_, r_put1 (by omega) h5, ol_F (ol_F ol_r (Or.inl ⟨Or.inl rfl, rfl⟩)) (Or.inl ⟨Or.inr rfl, rfl⟩), ?_, [], ?_, wF_e _ _ _ _, hz, ?_, (F _ _ (by omega)).trans e⟩
    · intro f hf
      by_cases y : f = n
      · subst y; exact Or.inr ⟨_, hm, wF_e _ _ _ _⟩
      · rw [wF_r (show 1099 ≠ 1100 by decide), wF_o (by omega), wF_o (by omega), wF_r (show 1100 ≠ 1099 by decide)]; exact hl f hf
    · rw [wF_r (by decide), wF_e]; rfl
    · refine g.fr (fun _ _ _ _ _ _ y => cnR.lt y) ?_ (fun _ _ _ => ⟨fun _ => rfl, fun _ => rfl, fun _ => rfl⟩) (fun r f e1 e2 e3 e4 e5 => F r f (by omega))
      intro i' j' n' m' u' w' e1 e2 e3 e4 y
      exact frP_cm.2 _ _ _ _ _ _ _ _ y (fun r f c1 c2 c3 c4 c5 => F r f (by omega))
  · have x3 := brsR.lt h4
    refine ⟨_, r_put2 (by omega) (by omega) h2 (by omega) h3, ol_F (ol_F ol_r (Or.inr ⟨rfl, by omega, by omega⟩)) (Or.inl ⟨Or.inr rfl, rfl⟩), ?_, L ++ [(i, M, w)], ?_, wF_e _ _ _ _, ?_⟩
    · intro f hf
      by_cases y : f = n
      · subst y; exact Or.inr ⟨_, hm, wF_e _ _ _ _⟩
      · rw [wF_r (show 1099 ≠ 1100 by decide), wF_r (show 1099 ≠ 1101 by decide), wF_o (by omega), wF_r (show 1100 ≠ 1101 by decide)]; exact hl f hf
    · rw [wF_r (by decide), wF_r (by decide), h2]
      congr 2
      cases L with
      | nil => rfl
      | cons _ _ => rfl
    · have y := brsR.snoc (C := fun t => cnR B ts s t) frP_cm (z := z) h4 h1 hz g e
      have F : ∀ r f : Nat, n + 1 ≤ f → (wF (wF t 1101 (M - 1) (nI (m - 1))) 1100 n (nI (m - 1))).F r f = (wF t 1101 (M - 1) (nI (m - 1))).F r f := fun r f hf => wF_o (by omega)
      refine brsR.fr (fun _ _ _ _ _ _ z => cnR.lt z) y ?_ (fun _ _ _ => ⟨fun _ => rfl, fun _ => rfl, fun _ => rfl⟩) (fun r f e1 e2 e3 e4 => F r f e3)
      intro i' j' n' m' u' w' e1 e2 e3 e4 y
      exact frP_cm.2 _ _ _ _ _ _ _ _ y (fun r f c1 c2 c3 c4 c5 => F r f (by omega))
def elL : List (List Nat) := (spl kW_38).1 :: (spl kW_38).2
theorem ew_93 : wdAt elL kW_93 0 := ⟨by decide, by decide, by decide, by decide, by decide⟩
theorem ew_94 : wdAt elL kW_94 1 := ⟨by decide, by decide, by decide, by decide, by decide⟩
/-- what the reference does behind a branch's block -/
def bhK (R1 R2 : uS → Option (uS × Int32)) (fu : Nat) (n a c : Int32) (t : uS) : Option (uS × Int32) := (fn_X12_node 1 t).bind fun r9 => (iput 20 r9.1 1102 r9.2 a).bind fun s11 => (iput 20 s11 1104 r9.2 c).bind fun s13 => (fn_X12_put n r9.2 s13).bind fun s15 => (fn_X12_isWord kW_93 s15).bind fun v18 => fn_X12_choice_8 R1 R2 fu n v18 s15
theorem ch_s {R1 R2 : uS → Option (uS × Int32)} {fu : Nat} {n : Int32} {b : Bool} {t : uS} : fn_X12_choice_8 R1 R2 (fu + 1) n b t = if b = true then (if 0 ≤ (t.I 1079 40) then (fb_X12_choice_76 R1 R2 n t) else ((fn_X12_next t).bind fun s3 => (R1 s3).bind fun r5 => (R2 r5.1).bind fun r7 => bhK R1 R2 fu n r5.2 r7.2 r7.1)) else (fb_X12_choice_76 R1 R2 n t) := rfl
theorem fO.bhk {p n a c fu : Nat} {R1 R2 : uS → Option (uS × Int32)} {t : uS} (hn : n < 520) (h : fO p t) : FV p t (bhK R1 R2 (fu + 1) (nI n) (nI a) (nI c) t) := by
  unfold bhK
  refine (h.nd _).vv fun t1 v hv h1 => (h1.p1102 hv).uv fun t2 h2 => (h2.p1104 hv).uv fun t3 h3 => (h3.pt hn hv).uv fun t4 h4 => ?_
  rw [h4.wd, Option.bind_some]
  exact h4.c8 hn
/-- a node for a branch, made and hung -/
theorem r_bnode {k fr : Nat} {x : List Nat} {ts : List (List Nat)} {bg b e : Nat} {σ : List (Nat × Nat)} {N M cn ob dp rq T : Nat} {s t : uS} {B n i0 i M0 u w κ : Nat} {z : Bool} {nt it ut : Nat} {a : Int32} (h : pj k fr x ts bg b e σ N M cn ob dp rq T s t) (hM : M + 1 ≤ 9 + 3 * cn) (hb : brP B ts s t n i0 i M0 u w κ) (hz : z = false → κ ≠ 23) (hn0 : n < M0) (g1 : s.I (16 + 3 * i) 0 = nI κ) (g2 : s.I (16 + 3 * i) 4 = nI N) (g3 : i < it ∧ it < N ∧ M0 ≤ nt ∧ nt < M ∧ w ≤ ut ∧ ut ≤ ts.length) (g4 : s.I (16 + 3 * (N - 1)) 0 = nI 24) (g5 : (κ = 23 ∧ it = i + 1 ∧ a = -1) ∨ (κ ≠ 23 ∧ M0 < nt ∧ a = nI M0 ∧ tsR 9 s t i (i + 1) it M0 nt w ut)) (g6 : lcR (cnR B ts s t) t nt it (N - 1) (nt + 1) M ut ts.length) : ∃ t2 : uS, ((fn_X12_node 1 t).bind fun r9 => (iput 20 r9.1 1102 r9.2 a).bind fun s11 => (iput 20 s11 1104 r9.2 (nI nt)).bind fun s13 => fn_X12_put (nI n) r9.2 s13) = some t2 ∧ pj k fr x ts bg b e σ N (M + 1) cn ob dp rq T s t2 ∧ brS B ts s t2 z n i0 N (M + 1) u ts.length ∧ ol trI (fun k f => ((1098 ≤ k ∧ k ≤ 1115) ∧ f = M) ∨ ptF n (n + 1) M0 k f) rNo t t2 := by
  obtain ⟨k1, k2, k3, k4, k5, k6, k7, k8, k9, k10, k11, k12, k13⟩ := h.2.2.2
  have hM5 : M < 519 := by omega
  have hM6 : M < 520 := by omega
  obtain ⟨V, v1, v2, v3, v4⟩ := r_nd1 h.2.2.1 hM5 1
  rw [v1, Option.bind_some]
  dsimp only
  rw [p_1102 hM6, Option.bind_some, p_1104 hM6, Option.bind_some]
  have oV : out rndI (rndF M) t (wF (wF V 1102 M a) 1104 M (nI nt)) := out_F (out_F v2 ⟨by omega, rfl⟩) ⟨by omega, rfl⟩
  have hV : pj k fr x ts bg b e σ N (M + 1) cn ob dp rq T s (wF (wF V 1102 M a) 1104 M (nI nt)) := pj_at h out_r (nd_rn oV) h.2.1 ((v3.wF (by omega)).wF (by omega)) (Nat.le_refl _) k5 k6 k7 hM k9 k10 k11 k12
  have F : ∀ r f : Nat, f ≠ M → (wF (wF V 1102 M a) 1104 M (nI nt)).F r f = t.F r f := fun r f hf => oV.2.2 _ _ (by unfold rndF; omega)
  have hM0 : M0 < M := by omega
  have hb1 := hb.fr (more := []) (s1 := s) (t1 := wF (wF V 1102 M a) 1104 M (nI nt)) (fun _ _ _ => ⟨fun _ => rfl, fun _ => rfl, fun _ => rfl⟩) (fun r f _ _ _ e4 => F r f (by omega)) hn0
  rw [List.append_nil] at hb1
  have cc : ∀ i' j' n' m' u' w' : Nat, m' ≤ M → cnR B ts s t i' j' n' m' u' w' → cnR B ts s (wF (wF V 1102 M a) 1104 M (nI nt)) i' j' n' m' u' w' := fun i' j' n' m' u' w' hm' y => frP_cm.2 _ _ _ _ _ _ _ _ y (fun r f c1 c2 c3 c4 c5 => F r f (by omega))
  have hbn : bnR (cnR B ts s (wF (wF V 1102 M a) 1104 M (nI nt))) s (wF (wF V 1102 M a) 1104 M (nI nt)) κ i N M0 (M + 1) w ts.length := by
    refine ⟨g1, g2, it, nt, ut, g3.1, g3.2.1, g3.2.2.1, by omega, g3.2.2.2.2.1, g3.2.2.2.2.2, g4, ?_, ?_, ?_⟩
    · show (wF (wF V 1102 M a) 1104 M (nI nt)).F 1104 M = nI nt
      exact wF_e _ _ _ _
    · have e2 : (wF (wF V 1102 M a) 1104 M (nI nt)).F 1102 M = a := by rw [wF_r (by decide), wF_e]
      rcases g5 with ⟨y1, y2, y3⟩ | ⟨y1, y2, y3, y4⟩
      · exact Or.inl ⟨y1, y2, e2.trans y3⟩
      · exact Or.inr ⟨y1, y2, e2.trans y3, y4.fr (fun _ _ _ => ⟨fun _ => rfl, fun _ => rfl, fun _ => rfl⟩) (fun r f _ _ _ e4 _ => F r f (by omega))⟩
    · exact g6.fr (fun _ _ _ _ _ _ y => cnR.lt y) (fun i' j' n' m' u' w' _ _ _ e4 y => cc _ _ _ _ _ _ e4 y) (F _ _ (by omega)) (fun f _ e2 => F _ _ (by omega))
  obtain ⟨t2, p1, p2, p3, p4⟩ := hb1.add (z := z) hz hbn (by show (wF (wF V 1102 M a) 1104 M (nI nt)).F 1101 M = -1; rw [wF_r (by decide), wF_r (by decide)]; exact v4.2.2.2.1) (by omega) hV.2.2.1.2.2.2.2.2.2.2
  refine ⟨t2, p1, hV.pt p2 p3, p4, ol_t (ol_out (out_w oV (fun k f y => by unfold rndI at y; unfold trI; omega) (fun k f y => Or.inl y))) (ol_w p2 (fun _ _ y => y.elim) (fun k f y => Or.inr y) (fun _ _ y => y))⟩
