/-! one recipient, on both sides -/
def cS (k : Nat) : Prop := k = 1 ∨ (976 ≤ k ∧ k < 1040 ∧ 2 ≤ (k - 976) % 16 ∧ (k - 976) % 16 < 9) ∨ (1042 ≤ k ∧ k ≤ 1061)
def yB (f : Nat) : Prop := (4 ≤ f ∧ f ≤ 13) ∨ f = 93 ∨ 113 ≤ f
def yA (k : Nat) : Prop := k = 1080 ∨ k = 1087 ∨ k = 1137 ∨ (1144 ≤ k ∧ k ≤ 1148) ∨ (1156 ≤ k ∧ k ≤ 1170)
/-- what of the reference a recipient leaves alone -/
def tY (t t1 : uS) : Prop := t.n ≤ t1.n ∧ (∀ f : Nat, yB f → t1.I 1079 f = t.I 1079 f) ∧ ∀ k : Nat, yA k → t1.F k = t.F k ∧ t1.L k = t.L k
theorem tY_t {t t1 t2 : uS} (h : tY t t1) (g : tY t1 t2) : tY t t2 := ⟨Nat.le_trans h.1 g.1, fun f a => (g.2.1 f a).trans (h.2.1 f a), fun k a => ⟨(g.2.2 k a).1.trans (h.2.2 k a).1, (g.2.2 k a).2.trans (h.2.2 k a).2⟩⟩
theorem tY_w {t t1 : uS} (h : tW t t1) : tY t t1 := ⟨h.1, fun f a => h.2.1 f (by unfold yB at a; unfold rB; omega), fun k a => h.2.2 k (by unfold yA at a; unfold rA; omega)⟩
theorem tY_ol {PI PF PL : Nat → Nat → Prop} {t t1 : uS} (o : ol PI PF PL t t1) (hI : ∀ f : Nat, yB f → ¬ PI 1079 f) (hF : ∀ k f : Nat, yA k → ¬ PF k f) (hL : ∀ k f : Nat, yA k → ¬ PL k f) : tY t t1 := ⟨Nat.le_of_eq o.1.2.2.2.1.symm, fun f a => o.2.1 _ _ (hI f a), fun k a => ⟨funext fun f => o.2.2.1 k f (hF k f a), funext fun f => o.2.2.2 k f (hL k f a)⟩⟩
theorem tY_out {PI PF : Nat → Nat → Prop} {t t1 : uS} (o : out PI PF t t1) (hI : ∀ f : Nat, yB f → ¬ PI 1079 f) (hF : ∀ k f : Nat, yA k → ¬ PF k f) : tY t t1 := tY_ol (PL := rNo) (ol_out o) hI hF (fun _ _ _ z => z)
/-- users and recipients -/
def dlS (rcs : List (List Nat)) (us : List Nat) : Prop := ∀ i : Nat, i < rcs.length → plc (rcs.getD i []) kW_11 0 0 true = some (us.getD i 0) ∧ adO (rcs.getD i [])
def dM (dy : Nat) (tx snd : List Nat) (rcs : List (List Nat)) (us : List Nat) (s t : uS) : Prop := wW dy s t ∧ (∃ cm ct : Nat, cN s true dy cm ct ∧ rN t true dy cm ct) ∧ (1171 ≤ s.n ∧ 1171 ≤ t.n) ∧ lsO t ∧ cMs s (hdr tx) snd rcs tx.length ∧ cTz s 1043 101 1 [snd] snd.length [] ∧ cTxt s tx ∧ rTt t tx ∧ rTe t 93 1137 snd ∧ rRc t rcs us
theorem rTt.ty {t t1 : uS} {tx : List Nat} (h : rTt t tx) (o : tY t t1) : rTt t1 tx := ⟨h.1, h.2.1, (o.2.1 _ (by unfold yB; omega)).trans h.2.2.1, fun j hj => by rw [(o.2.2 1087 (by unfold yA; omega)).1]; exact h.2.2.2 j hj⟩
theorem rTe.ty {t t1 : uS} {x : List Nat} (h : rTe t 93 1137 x) (o : tY t t1) : rTe t1 93 1137 x := ⟨(o.2.1 _ (by unfold yB; omega)).trans h.1, h.2.1, h.2.2.1, fun j hj => by rw [(o.2.2 1137 (by unfold yA; omega)).1]; exact h.2.2.2 j hj⟩
theorem rRc.ty {t t1 : uS} {rcs : List (List Nat)} {us : List Nat} (h : rRc t rcs us) (o : tY t t1) : rRc t1 rcs us := by
  have F : ∀ k : Nat, 1144 ≤ k → k ≤ 1146 → t1.F k = t.F k := fun k a b => (o.2.2 k (by unfold yA; omega)).1
  refine ⟨h.1, h.2.1, (o.2.1 _ (by unfold yB; omega)).trans h.2.2.1, fun i hi => ?_⟩
  obtain ⟨a1, a2, a3, a4, a5, a6⟩ := h.2.2.2 i hi
  exact ⟨a1, a2, a3, by rw [F _ (by omega) (by omega)]; exact a4, by rw [F _ (by omega) (by omega)]; exact a5, fun j hj => by rw [F _ (by omega) (by omega)]; exact a6 j hj⟩
theorem cMs.cs {s s1 : uS} {fs : List (List Nat × List Nat)} {snd : List Nat} {rcs : List (List Nat)} {sz : Nat} (h : cMs s fs snd rcs sz) (o : sW cS s s1) (hn : 1171 ≤ s.n) : cMs s1 fs snd rcs sz := by
  obtain ⟨⟨b1, b2, f1, f2⟩, ⟨b3, f3⟩, ⟨b4, f4⟩, f5, f6⟩ := h
  refine ⟨⟨b1, b2, f1.sw o (by omega) ?_ ?_ ?_ ?_, f2.sw o (by omega) ?_ ?_ ?_ ?_⟩, ⟨b3, f3.sw o (by omega) ?_ ?_ ?_ ?_⟩, ⟨b4, f4.sw o (by omega) ?_ ?_ ?_ ?_⟩, ?_, f6⟩
  all_goals first | (unfold cS; omega) | (rw [(o.2 1042 (by omega) (by unfold cS; omega)).2.1]; exact f5)
theorem cTxt.cs {s s1 : uS} {tx : List Nat} (h : cTxt s tx) (o : sW cS s s1) (hn : 1171 ≤ s.n) : cTxt s1 tx := ⟨h.1, h.2.1, fun j hj => by rw [(o.2 1051 (by omega) (by unfold cS; omega)).2.2.2.1]; exact h.2.2 j hj⟩
theorem dM.m {dy : Nat} {tx snd : List Nat} {rcs : List (List Nat)} {us : List Nat} {s t s1 t1 : uS} (h : dM dy tx snd rcs us s t) (o : sW cS s s1) (q : tY t t1) (hw : wW dy s1 t1) (hc : ∃ cm ct : Nat, cN s1 true dy cm ct ∧ rN t1 true dy cm ct) (hl : lsO t1) : dM dy tx snd rcs us s1 t1 := by
  obtain ⟨h1, h2, ⟨h3, h4⟩, h5, h6, h7, h8, h9, h10, h11⟩ := h
  exact ⟨hw, hc, ⟨Nat.le_trans h3 o.1, Nat.le_trans h4 q.1⟩, hl, h6.cs o h3, h7.sw o (by omega) (by unfold cS; omega) (by unfold cS; omega) (by unfold cS; omega) (by unfold cS; omega), h8.cs o h3, h9.ty q, h10.ty q, h11.ty q⟩
theorem cA_S {s s1 : uS} (h : sW cA s s1) : sW cS s s1 := sW_w h (fun k a => by unfold cS at a; unfold cA; omega)
/-- what one recipient has done: it goes on, or the power has gone -/
def dOut (dy : Nat) (tx snd : List Nat) (rcs : List (List Nat)) (us : List Nat) (s t s1 t1 : uS) (b : Bool) : Prop := ∃ s' t' : uS, dM dy tx snd rcs us s' t' ∧ sW cS s s' ∧ s'.I 0 9 = s.I 0 9 ∧ tY t t' ∧ s'.n ≤ s.n + 20 ∧ s'.m ≤ s.m + 11000 ∧ ((b = true ∧ s1 = s' ∧ t1 = t') ∨ (b = false ∧ pLost s' t' s1 t1))
theorem pQo.cs {s t s1 t1 : uS} (h : pQo 4 s t s1 t1) : sW cS s s1 ∧ tY t t1 := ⟨sW_out h.2.1 (fun k a => ⟨fun f z => by have := qC4 z; unfold cS at a; omega, fun f z => by have := qC4 z; unfold cS at a; omega⟩), tY_out h.2.2 (fun _ _ z => z) (fun k f a z => by unfold qR at z; unfold yA at a; omega)⟩
theorem pQo.cn {dy : Nat} {s t s1 t1 : uS} (h : pQo 4 s t s1 t1) (hc : ∃ cm ct : Nat, cN s true dy cm ct ∧ rN t true dy cm ct) : ∃ cm ct : Nat, cN s1 true dy cm ct ∧ rN t1 true dy cm ct := by
  obtain ⟨cm, ct, ⟨a1, a2, a3, a4, a5⟩, ⟨b1, b2, b3, b4, b5⟩⟩ := hc
  have I : ∀ f : Nat, s1.I 0 f = s.I 0 f := fun f => h.2.1.2.1 _ _ (fun z => by have := qC4 z; omega)
  have J : ∀ f : Nat, t1.I 1079 f = t.I 1079 f := fun f => h.2.2.2.1 _ _ (fun z => z)
  exact ⟨cm, ct, ⟨(I _).trans a1, (I _).trans a2, (I _).trans a3, (I _).trans a4, a5⟩, ⟨(J _).trans b1, (J _).trans b2, (J _).trans b3, (J _).trans b4, b5⟩⟩
theorem pQo.ls {s t s1 t1 : uS} (h : pQo 4 s t s1 t1) (hl : lsO t) : lsO t1 := fun n hn => by
  rw [h.2.2.2.2 _ _ (by unfold qR; omega), h.2.2.2.2 _ _ (by unfold qR; omega)]
  exact hl n hn
/-- what follows a plan in the class -/
def kT (K20 : Int32 → Int32 → uS → Option uS) (R ri u : Nat) (s1 : uS) : Option uS := (fn_X11_fits s1).bind fun v3 => if v3 = true then ((fn_X11_commit s1).bind fun r6 => if r6.2 = true then ((fn_X11_storePlan (nI u) r6.1).bind fun s9 => (fn_X0_answerDelivered (nI ri) s9).bind fun s11 => K20 (nI R) (nI ri + 1) s11) else (K20 (nI R) (nI ri + 1) r6.1)) else ((pgt 24 s1 2 4).bind fun j13 => if uSo j13 5 then ((fn_X5_line j13 kW_2 s1).bind fun s17 => K20 (nI R) (nI ri + 1) s17) else none)
