/-! running a script: actions of the class, beside those of the reference -/
def aI (k f : Nat) : Prop := k = 1070 ∧ f ≠ 12
def aF (k _f : Nat) : Prop := 1071 ≤ k ∧ k ≤ 1074
/-- a plan as the class holds it -/
def cPn (s : uS) (bx ts : List (List Nat)) (uu : Nat) (p : pl) (ir iv : Nat) : Prop := cFi s (cfF bx ts (pF p)) ∧ cNb s (nbsF bx ts (pF p)) ∧ cDi s (pDr p) ∧ s.R 1070 10 = (if prj p = 0 then none else some (16 + 3 * ir)) ∧ s.R 1070 9 = (if pvc p = 0 then none else some (16 + 3 * iv)) ∧ s.I 1070 14 = bI (pkp p) ∧ s.I 1070 15 = bI (pac p) ∧ s.I 1070 16 = 0 ∧ s.R 1070 11 = some (985 + 16 * uu) ∧ ir < 320 ∧ iv < 320
def rjO (s0 t0 : uS) (ts ts1 : List (List Nat)) (ui i n : Nat) : Prop := ∃ u w : Nat, w ≤ ui ∧ stR 5 i n u w (fun _ => true) ts s0 t0 ∧ s0.I (16 + 3 * i) 0 = nI 6 ∧ n < 520 ∧ ∀ j : Nat, u ≤ j → j < w → ts1.getD j [] = ts.getD j []
def vcO (s0 t0 : uS) (ts ts1 : List (List Nat)) (ui i n : Nat) : Prop := ∃ u w : Nat, w ≤ ui ∧ w ≤ ts.length ∧ vaR i n u w s0 t0 ∧ s0.I (16 + 3 * i) 0 = nI 10 ∧ n < 520 ∧ ∀ j : Nat, u ≤ j → j < w → ts1.getD j [] = ts.getD j []
/-- the strings of a plan are as they were written -/
def svP (s0 t0 : uS) (ts ts1 : List (List Nat)) (ui : Nat) (p : pl) (ir iv : Nat) : Prop := (∀ q ∈ pF p, ∀ j : Nat, q.1 = some j → j < ui ∧ j < ts.length ∧ bxn (ts.getD j []) = true ∧ ts1.getD j [] = ts.getD j []) ∧ (∀ j ∈ pDr p, j < ui ∧ j < ts.length ∧ adB (ts.getD j []) = true ∧ ts1.getD j [] = ts.getD j []) ∧ (0 < prj p → rjO s0 t0 ts ts1 ui ir (pnr p)) ∧ (0 < pvc p → vcO s0 t0 ts ts1 ui iv (pnv p))
theorem svP.up {s0 t0 : uS} {ts ts1 ts2 : List (List Nat)} {u w : Nat} {p : pl} {ir iv : Nat} (h : svP s0 t0 ts ts1 u p ir iv) (hw : u ≤ w) (hk : ∀ q : Nat, q < u → ts2.getD q [] = ts1.getD q []) : svP s0 t0 ts ts2 w p ir iv := by
  obtain ⟨h1, h2, h3, h4⟩ := h
  refine ⟨fun q hq j e => ?_, fun j hj => ?_, fun z => ?_, fun z => ?_⟩
  · obtain ⟨a, b, c, d⟩ := h1 q hq j e
    exact ⟨by omega, b, c, (hk j a).trans d⟩
  · obtain ⟨a, b, c, d⟩ := h2 j hj
    exact ⟨by omega, b, c, (hk j a).trans d⟩
  · obtain ⟨u1, w1, a, b, c, d, e⟩ := h3 z
    exact ⟨u1, w1, by omega, b, c, d, fun j x y => (hk j (by omega)).trans (e j x y)⟩
  · obtain ⟨u1, w1, a, b, c, d, e, f⟩ := h4 z
    exact ⟨u1, w1, by omega, b, c, d, e, fun j x y => (hk j (by omega)).trans (f j x y)⟩
def lvR (s0 t0 : uS) (N : Nat) (fs : List (List Nat × List Nat)) (snd : List Nat) (rcs : List (List Nat)) (sz ri : Nat) (ts bx : List (List Nat)) (bg uu ui : Nat) (ts1 : List (List Nat)) (p : pl) (ir iv : Nat) (s : uS) : Prop := cCt s0 s N fs snd rcs sz ri (pg p) ∧ cStr s ts bg ui ts1 ∧ cPn s bx ts uu p ir iv ∧ (∃ bgx : Nat, cTz s (988 + 16 * uu) 120 6 bx bgx []) ∧ svP s0 t0 ts ts1 ui p ir iv ∧ dsF ts (pF p) ∧ fcP bx ts p = false
/-- what an action may change leaves the rest -/
theorem cCt.a {s0 s s1 : uS} {N : Nat} {fs : List (List Nat × List Nat)} {snd : List Nat} {rcs : List (List Nat)} {sz ri g g1 : Nat} (h : cCt s0 s N fs snd rcs sz ri g) (o : out aI aF s s1) (hg : s1.I 1070 13 = nI g1) (h17 : s1.I 1070 17 = 0) : cCt s0 s1 N fs snd rcs sz ri g1 := by
  obtain ⟨h1, h2, h3, h4, h5, h6⟩ := h
  refine ⟨fun i hi => ?_, (o.2.1 _ _ (by unfold aI; omega)).trans h2, h3.o o (fun k f _ _ => by unfold aI; omega) (fun k f _ _ => by unfold aF; omega), (o.2.1 _ _ (by unfold aI; omega)).trans h4, hg, h17⟩
  obtain ⟨a, b, c⟩ := h1 i hi
  exact ⟨fun f => (o.2.1 _ _ (by unfold aI; omega)).trans (a f), fun f => (o.2.2 _ _ (by unfold aF; omega)).trans (b f), fun f => (o.2.2 _ _ (by unfold aF; omega)).trans (c f)⟩
theorem cTz.a {s s1 : uS} {k cap mo bg : Nat} {ts : List (List Nat)} (h : cTz s k cap mo ts bg []) (o : out aI aF s s1) (hk : k < 1060) : cTz s1 k cap mo ts bg [] := h.o o (fun f => by unfold aI; omega) (fun f => by unfold aF; omega) (fun f => by unfold aF; omega) (fun f => by unfold aF; omega)
theorem cStr.a {s s1 : uS} {ts ts1 : List (List Nat)} {bg u w : Nat} (h : cStr s ts bg u ts1) (o : out aI aF s s1) (hw : u ≤ w) : cStr s1 ts bg w ts1 := ⟨h.1.a o (by omega), h.2.1, fun j hj => h.2.2.1 j (by omega), h.2.2.2⟩
theorem cFi.a {s s1 : uS} {CF : List (Nat × Nat)} (h : cFi s CF) (hI : s1.I 1070 5 = s.I 1070 5) (h1 : s1.F 1071 = s.F 1071) (h2 : s1.F 1072 = s.F 1072) : cFi s1 CF := ⟨hI.trans h.1, h.2.1, fun k hk => by rw [h1, h2]; exact h.2.2 k hk⟩
theorem cNb.a {s s1 : uS} {nb : List Nat} (h : cNb s nb) (hI : s1.I 1070 6 = s.I 1070 6) (h1 : s1.F 1073 = s.F 1073) : cNb s1 nb := ⟨hI.trans h.1, h.2.1, fun k hk => by rw [h1]; exact h.2.2 k hk⟩
theorem cDi.a {s s1 : uS} {D : List Nat} (h : cDi s D) (hI : s1.I 1070 7 = s.I 1070 7) (h1 : s1.F 1074 = s.F 1074) : cDi s1 D := ⟨hI.trans h.1, h.2.1, fun k hk => by rw [h1]; exact h.2.2 k hk⟩
/-- what comes of an action -/
def acO (s0 t0 : uS) (N : Nat) (fs : List (List Nat × List Nat)) (snd : List Nat) (rcs : List (List Nat)) (sz ri : Nat) (ts bx : List (List Nat)) (bg uu w i : Nat) (ts1 : List (List Nat)) (p1 : pl) (s : uS) : Prop := (∃ (s1 : uS) (ir iv : Nat), fn_X7_perform (16 + 3 * i) s = some s1 ∧ lvR s0 t0 N fs snd rcs sz ri ts bx bg uu w ts1 p1 ir iv s1) ∨ (fcP bx ts p1 = true ∧ ∃ s1 : uS, fn_X7_perform (16 + 3 * i) s = some s1 ∧ s1.I 1070 16 = 1 ∧ s1.I 1070 17 = 1)
theorem out_aF {s : uS} {f : Nat} {v : Int32} (h : f ≠ 12) : out aI aF s (wI s 1070 f v) := out_I out_r ⟨rfl, h⟩
/-- filing: fileinto and keep, once the mailbox is known -/
theorem c_file {s0 t0 s s2 : uS} {N : Nat} {fs : List (List Nat × List Nat)} {snd : List Nat} {rcs : List (List Nat)} {sz ri : Nat} {ts bx more : List (List Nat)} {bg uu u w i b : Nat} {ts1 : List (List Nat)} {p p1 : pl} {ir iv : Nat} {x : Option Nat} {fl : Option Nat} {cp : Bool} (hu : uu < 4) (hi : i < 320) (hbx : bxO bx) (hw : u ≤ w) (h : lvR s0 t0 N fs snd rcs sz ri ts bx bg uu u ts1 p ir iv s) (hY : tgY i fl cp s0) (hp1 : p1 = (addF ts (pF p) x (fl.getD (pg p)), pDr p, pg p, prj p, pvc p, pnr p, pnv p, pkp p && cp, true)) (e : abxF bx ts (pF p1) = abxF bx ts (pF p) ++ more) (hb : bxN (abxF bx ts (pF p) ++ more) (fky ts x) = some b) (h6 : (abxF bx ts (pF p1)).length ≤ 6) (o2 : out (fun k f => k = 1070 ∧ f = 6) (fun k _ => k = 1073) s s2) (hn2 : cNb s2 (nbsF bx ts (pF p1))) (hx : ∀ j : Nat, x = some j → j < w ∧ j < ts.length ∧ bxn (ts.getD j []) = true ∧ ts1.getD j [] = ts.getD j []) : (∃ (s1 : uS), fn_X7_file (nI b) (16 + 3 * i) s2 = some s1 ∧ lvR s0 t0 N fs snd rcs sz ri ts bx bg uu w ts1 p1 ir iv s1) ∨ (fcP bx ts p1 = true ∧ ∃ s1 : uS, fn_X7_file (nI b) (16 + 3 * i) s2 = some s1 ∧ s1.I 1070 16 = 1 ∧ s1.I 1070 17 = 1) := by
  obtain ⟨hc, hst, ⟨f1, f2, f3, f4, f5, f6, f7, f8, f9, f10, f11⟩, ⟨bgx, hbz⟩, hsv, hds, hfc⟩ := h
  obtain ⟨g, y1, y2, y3, y4, y5⟩ := hY
  obtain ⟨q1, q2, q3, q4, q5⟩ := fcB_f.mp hfc
  have b6 : b < 6 := by
    have := bxN_lt (by rw [List.length_append]; have := (abx_0 (ts := ts) (F := pF p) hbx.1).2; omega) hb
    rw [← e] at this
    omega
  have I2 : ∀ k f : Nat, ¬ (k = 1070 ∧ f = 6) → s2.I k f = s.I k f := fun k f z => o2.2.1 k f z
  have R2 : s2.R = s.R := o2.1.2.1
  have nd : ∀ f : Nat, s2.I (16 + 3 * i) f = s0.I (16 + 3 * i) f := fun f => (I2 _ _ (by omega)).trans ((hc.1 i hi).1 f)
  unfold fn_X7_file
  rw [if_neg (nI_pos (by omega))]
  by_cases hr : prj p = 0
  · left
    have hR : s2.R 1070 10 = none := by rw [R2, f4, if_pos hr]
    rw [c_act0 (kp := pkp p) (cp := cp) hR ((I2 _ _ (by omega)).trans f6) ((nd 5).trans y1) y2 y3 hi, Option.bind_some, if_pos rfl]
    dsimp only
    have W : ∀ k f : Nat, ¬ (k = 1070 ∧ (f = 14 ∨ f = 15)) → (wI (wI s2 1070 15 1) 1070 14 (bI (pkp p && cp))).I k f = s2.I k f := fun k f z => by rw [wI_o (by omega), wI_o (by omega)]
    have hfl : ∀ K : Int32 → Option uS, ((fn_X3_has (16 + 3 * i) 8 (wI (wI s2 1070 15 1) 1070 14 (bI (pkp p && cp)))).bind fun v5 => if v5 = true then K ((wI (wI s2 1070 15 1) 1070 14 (bI (pkp p && cp))).I (16 + 3 * i) 11) else K ((wI (wI s2 1070 15 1) 1070 14 (bI (pkp p && cp))).I 1070 13)) = K (nI (fl.getD (pg p))) := by
      intro K
      rw [show (8 : Int32) = nI 8 from rfl, c_hs8 ((W _ _ (by omega)).trans ((nd 5).trans y1)) y2 (Or.inl rfl), Option.bind_some]
      cases hfl : fl with
      | none =>
        have : decide (g = 8 ∨ g = 24) = false := decide_eq_false (by have := y4 hfl; omega)
        rw [this, if_neg (by decide), W _ _ (by omega), I2 _ _ (by omega), hc.2.2.2.2.1]
        rfl
      | some v =>
        have : decide (g = 8 ∨ g = 24) = true := decide_eq_true (y5 v hfl).1
        rw [this, if_pos rfl, W _ _ (by omega), nd, (y5 v hfl).2]
        rfl
    have hk := hfl (fun z => fb_X7_file_34 z (nI b) (wI (wI s2 1070 15 1) 1070 14 (bI (pkp p && cp))))
    rw [hk]
    unfold fb_X7_file_34
    have oA : out (fun k f => k = 1070 ∧ (f = 14 ∨ f = 15)) rNo s2 (wI (wI s2 1070 15 1) 1070 14 (bI (pkp p && cp))) := out_I (out_I out_r ⟨rfl, Or.inr rfl⟩) ⟨rfl, Or.inl rfl⟩
    generalize hs3 : wI (wI s2 1070 15 1) 1070 14 (bI (pkp p && cp)) = s3 at *
    have e14 : s3.I 1070 14 = bI (pkp p && cp) := by rw [← hs3, wI_e]
    have e15 : s3.I 1070 15 = 1 := by rw [← hs3, wI_o (by omega), wI_e]
    have F3 : cFi s3 (cfF bx ts (pF p)) := f1.a ((W _ _ (by omega)).trans (I2 _ _ (by omega))) (by rw [← hs3]; exact funext fun f => o2.2.2 _ _ (by omega)) (by rw [← hs3]; exact funext fun f => o2.2.2 _ _ (by omega))
    have ep : pF p1 = addF ts (pF p) x (fl.getD (pg p)) := by rw [hp1]; rfl
    rw [ep] at e h6
    obtain ⟨s4, a1, a2, a3⟩ := c_fil hbx.1 hbx.2.2.1 F3 hds e hb h6
    rw [a1, Option.bind_some]
    have oF : out aI aF s s4 := out_t (out_w o2 (fun k f z => by unfold aI; omega) (fun k f z => by unfold aF; omega)) (out_t (out_w oA (fun k f z => by unfold aI; omega) (fun _ _ z => z.elim)) (out_w a3 (fun k f z => by unfold pfI at z; unfold aI; omega) (fun k f z => by unfold pfF at z; unfold aF; omega)))
    have I4 : ∀ k f : Nat, ¬ (k = 1070 ∧ f = 5) → s4.I k f = s3.I k f := fun k f z => a3.2.1 _ _ (by unfold pfI; omega)
    refine ⟨s4, rfl, ?_⟩
    rw [hp1]
    refine ⟨hc.a oF ((I4 _ _ (by omega)).trans ((W _ _ (by omega)).trans ((I2 _ _ (by omega)).trans hc.2.2.2.2.1))) ((I4 _ _ (by omega)).trans ((W _ _ (by omega)).trans ((I2 _ _ (by omega)).trans hc.2.2.2.2.2))), hst.a oF hw, ⟨a2, ?_, ?_, ?_, ?_, ?_, ?_, ?_, ?_, f10, f11⟩, ⟨bgx, hbz.a oF (by omega)⟩, ?_, dsF_add hds, ?_⟩
    · have hn3 : cNb s4 (nbsF bx ts (pF p1)) := hn2.a ((I4 _ _ (by omega)).trans (W _ _ (by omega))) (by rw [show s4.F 1073 = s3.F 1073 from funext fun f => a3.2.2 _ _ (by unfold pfF; omega), ← hs3]; rfl)
      rw [ep] at hn3
      exact hn3
    · refine f3.a ((I4 _ _ (by omega)).trans ((W _ _ (by omega)).trans (I2 _ _ (by omega)))) (funext fun f => ?_)
      have z1 : s4.F 1074 f = s3.F 1074 f := a3.2.2 _ _ (by unfold pfF; omega)
      rw [z1, ← hs3]
      exact o2.2.2 _ _ (by omega)
    · show s4.R 1070 10 = _
      rw [oF.1.2.1]; exact f4
    · show s4.R 1070 9 = _
      rw [oF.1.2.1]; exact f5
    · exact (I4 _ _ (by omega)).trans e14
    · exact (I4 _ _ (by omega)).trans e15
    · exact (I4 _ _ (by omega)).trans ((W _ _ (by omega)).trans ((I2 _ _ (by omega)).trans f8))
    · show s4.R 1070 11 = _
      rw [oF.1.2.1]; exact f9
    · have hs' := hsv.up (w := w) hw (fun q _ => rfl)
      obtain ⟨v1, v2, v3, v4⟩ := hs'
      refine ⟨fun q hq j ej => ?_, v2, v3, v4⟩
      have hq' : q ∈ addF ts (pF p) x (fl.getD (pg p)) := hq
      unfold addF at hq'
      cases c : hasF ts (pF p) x with
      | true => rw [c, if_pos rfl] at hq'; exact v1 q hq' j ej
      | false =>
        rw [c, if_neg (by decide)] at hq'
        rcases List.mem_append.mp hq' with y | y
        · exact v1 q y j ej
        · rw [List.mem_singleton.mp y] at ej
          exact hx j ej
    · refine fcB_f.mpr ⟨q1, q2, fun z => ?_, q4, ?_⟩
      · have z' : prj p = 1 := z
        omega
      · have : (abxF bx ts (addF ts (pF p) x (fl.getD (pg p)))).length = bx.length + (nbsF bx ts (addF ts (pF p) x (fl.getD (pg p)))).length := by unfold abxF nmL; rw [List.length_append, List.length_map]
        show bx.length + (nbsF bx ts (addF ts (pF p) x (fl.getD (pg p)))).length ≤ 6
        omega
  · right
    have hR : s2.R 1070 10 = some (16 + 3 * ir) := by rw [R2, f4, if_neg hr]
    rw [c_act1 hR f10, Option.bind_some]
    dsimp only
    rw [if_neg (by decide)]
    refine ⟨?_, _, rfl, by rw [wI_o (by omega), wI_e], by rw [wI_e]⟩
    refine fcP_t (fun z => ?_)
    rw [hp1] at z
    obtain ⟨-, z2, z3, -⟩ := z
    have z2' : prj p ≤ 1 := z2
    have z3' : prj p = 1 → true = false ∧ pvc p = 0 := z3
    have := (z3' (by omega)).1
    cases this
