/-! commands of the delivery: bare words -/
/-- DATA -/
theorem t_data {gr : Bool} {sd : Option (List Nat)} {rcs : List (List Nat)} {us : List Nat} {s t : uS} {bs : List Nat} (h : lnS gr sd rcs us s t) (hr : rLn t bs) (hl : bs.length = 4) (h127 : t.I 1079 127 = nI 4) : ∃ s1 t1 : uS, fn_X0_answerData s = some s1 ∧ fn_X12_data t = some t1 ∧ lnP rcs.length s t s1 t1 := by
  obtain ⟨b4, hb4, h47⟩ := h.2.2.2.1.2.2.2.2.2.1
  have h117 : t.I 1079 117 = nI rcs.length := h.2.2.2.1.2.2.2.2.2.2.1.2.2.1
  have hsr := h.2.2.2.1.2.2.2.2.2.2.2.2
  have hr4 := h.2.2.2.1.2.2.2.2.2.2.1.2.1
  unfold fn_X0_answerData fn_X12_data
  rw [h47.1, h127, hr.1, hl, if_pos rfl, h117]
  by_cases c : rcs.length = 0
  · have hz : nI rcs.length = 0 := by rw [c]; rfl
    rw [if_pos hz, if_pos hz]
    obtain ⟨s1, t1, a1, a2, a3, a4, a5⟩ := t_an (w := kW_17) (w' := kW_175) h rfl (by decide)
    exact ⟨s1, t1, by rw [a1]; rfl, by rw [a2]; rfl, a3.p (Nat.le_refl _) (kq_cl a4) (kq_rl a5)⟩
  · have hne : ¬ nI rcs.length = 0 := fun z => c ((nI_eq (b := 0) (by omega) (by decide)).mp z)
    rw [if_neg hne, if_neg hne]
    obtain ⟨g1, g2, g3, g4, z1, z2, z3, z4, z5, z6⟩ := h
    obtain ⟨s0, hs0⟩ : ∃ s0, s0 = wI (wI s 1042 8 1) 1042 3 0 := ⟨_, rfl⟩
    rw [← hs0]
    have o0 : out (fun k f => k = 1042 ∧ (f = 8 ∨ f = 3)) rNo s s0 := by rw [hs0]; exact out_I (out_I out_r ⟨rfl, by omega⟩) ⟨rfl, by omega⟩
    have q0 : pQ1 4 s0 t := pQ_o (QI := rNo) (QF := rNo) g1 o0 out_r (fun k f a => ⟨by omega, fun z => z⟩) (fun _ _ _ z => z)
    obtain ⟨s1, t1, a1, a2, a3, a4, a5⟩ := t_ln (w := kW_31) (w' := kW_191) rfl (by decide) q0
    obtain ⟨t2, ht2⟩ : ∃ t2, t2 = wI (wI (wI (wI t1 1079 116 1) 1079 13 0) 1079 124 0) 1079 125 0 := ⟨_, rfl⟩
    have o2 : out (fun k f => k = 1079 ∧ (f = 116 ∨ f = 13 ∨ f = 124 ∨ f = 125)) rNo t1 t2 := by rw [ht2]; exact out_I (out_I (out_I (out_I out_r ⟨rfl, by omega⟩) ⟨rfl, by omega⟩) ⟨rfl, by omega⟩) ⟨rfl, by omega⟩
    have oc0 : out kpC kpC s s1 := out_t (out_w o0 (fun k f z => by unfold kpC; omega) (fun _ _ z => z.elim)) (kq_kp a4)
    have oq0 : out kpI kpF t t2 := out_t (kq_kr a5) (out_w o2 (fun k f z => by unfold kpI; omega) (fun _ _ z => z.elim))
    have c1 : ∀ f : Nat, f ≠ 3 → f ≠ 8 → f ≠ 11 → s1.I 1042 f = s.I 1042 f := fun f y1 y2 y3 => (a4.2.1 _ _ (by unfold kqC; omega)).trans (o0.2.1 _ _ (by omega))
    have c2 : ∀ f : Nat, f < 126 → f ≠ 116 → f ≠ 13 → f ≠ 124 → f ≠ 125 → f ≠ 21 → f ≠ 23 → t2.I 1079 f = t.I 1079 f := fun f y1 y2 y3 y4 y5 y6 y7 => (o2.2.1 _ _ (by omega)).trans (a5.2.1 _ _ (by unfold kqI; omega))
    refine ⟨s1, t2, by rw [a1]; rfl, by rw [a2, Option.bind_some, ht2], pQ_o (PI := rNo) (PF := rNo) a3 out_r o2 (fun _ _ _ => ⟨fun z => z, fun z => z⟩) (fun _ _ _ z => z), kp_cl oc0, kp_rl oq0, Or.inr ⟨(c1 4 (by decide) (by decide) (by decide)).trans g2, (c2 113 (by decide) (by decide) (by decide) (by decide) (by decide) (by decide) (by decide)).trans g3, gr, sd, rcs, us, g4.o oc0 oq0, Nat.le_refl _, Or.inr ⟨hsr (fun e => c (by rw [e]; rfl)), ⟨1, false, false, false, 0, [], Or.inl ⟨rfl, rfl, rfl, rfl, rfl, rfl, Or.inl rfl⟩, ⟨?_, fun j hj => absurd hj (Nat.not_lt_zero _)⟩, ⟨?_, fun j hj => absurd hj (Nat.not_lt_zero _)⟩, ?_, (c1 9 (by decide) (by decide) (by decide)).trans z3, ?_, (c2 123 (by decide) (by decide) (by decide) (by decide) (by decide) (by decide) (by decide)).trans z6, ?_, ?_, Nat.zero_le _, bys_nil⟩, (c1 7 (by decide) (by decide) (by decide)).trans z1, (c2 122 (by decide) (by decide) (by decide) (by decide) (by decide) (by decide) (by decide)).trans z5⟩⟩⟩
    · rw [a4.2.1 _ _ (by unfold kqC; omega), hs0, wI_e]; rfl
    · rw [ht2, wI_o (by omega), wI_o (by omega), wI_e]; rfl
    · rw [a4.2.1 _ _ (by unfold kqC; omega), hs0, wI_o (by omega), wI_e]; rfl
    · rw [ht2, wI_o (by omega), wI_o (by omega), wI_o (by omega), wI_e]
    · rw [ht2, wI_o (by omega), wI_e]; rfl
    · rw [ht2, wI_e]; rfl
/-- a line too long for its word -/
theorem t_syn {gr : Bool} {sd : Option (List Nat)} {rcs : List (List Nat)} {us : List Nat} {s t : uS} (h : lnS gr sd rcs us s t) : ∃ s1 t1 : uS, ((fn_X5_line 1040 kW_18 s).bind fun s8 => some s8) = some s1 ∧ ((fn_X12_line 4 kW_165 t).bind fun s8 => some s8) = some t1 ∧ lnP rcs.length s t s1 t1 := by
  obtain ⟨s1, t1, a1, a2, a3, a4, a5⟩ := t_an (w := kW_18) (w' := kW_165) h rfl (by decide)
  exact ⟨s1, t1, by rw [a1]; rfl, by rw [a2]; rfl, a3.p (Nat.le_refl _) (kq_cl a4) (kq_rl a5)⟩
/-- the end of a word that stands alone -/
theorem r_done {t t1 : uS} {bs w : List Nat} {p : Nat} (hr : rLn t bs) (h127 : t.I 1079 127 = nI p) (hp : p ≤ 1000) (hl : fn_X12_line 4 (if p = bs.length then w else kW_165) t = some t1) (o : out rNo (qR 4) t t1) : fn_X12_done w t = some (t1, decide (p = bs.length)) := by
  have hn := hr.2.1
  have j127 : t1.I 1079 127 = nI p := (o.2.1 _ _ (fun z => z)).trans h127
  have j126 : t1.I 1079 126 = nI bs.length := (o.2.1 _ _ (fun z => z)).trans hr.1
  unfold fn_X12_done fb_X12_done_20
  rw [h127, hr.1]
  by_cases c : p = bs.length
  · rw [if_pos c] at hl
    rw [if_pos (by rw [c]), hl, Option.bind_some, j127, j126, if_pos (by rw [c]), decide_eq_true c]
  · rw [if_neg c] at hl
    have : ¬ nI p = nI bs.length := by rw [nI_eq (by omega) (by omega)]; exact c
    rw [if_neg this, hl, Option.bind_some, j127, j126, if_neg this, decide_eq_false c]
theorem lnS.q {gr : Bool} {sd : Option (List Nat)} {rcs : List (List Nat)} {us : List Nat} {s t s1 t1 : uS} (h : lnS gr sd rcs us s t) (g : pQ1 4 s1 t1) (o : out (qC 4) (qC 4) s s1) (q : out rNo (qR 4) t t1) : lnS gr sd rcs us s1 t1 := h.o (ln_c o) (ln_r q) g
/-- NOOP -/
theorem t_noop {gr : Bool} {sd : Option (List Nat)} {rcs : List (List Nat)} {us : List Nat} {s t : uS} {bs : List Nat} (h : lnS gr sd rcs us s t) (hr : rLn t bs) (hl : bs.length = 4) (h127 : t.I 1079 127 = nI 4) : ∃ s1 t1 : uS, ((fn_X5_line 1040 kW_29 s).bind fun s10 => some s10) = some s1 ∧ ((fn_X12_done kW_168 t).bind fun r43 => some r43.1) = some t1 ∧ lnP rcs.length s t s1 t1 := by
  obtain ⟨s1, t1, a1, a2, a3, a4, a5⟩ := t_lnR (w := kW_29) (w' := kW_168) rfl (by decide) h.1
  rw [r_done (w := kW_168) hr h127 (by omega) (by rw [if_pos hl.symm]; exact a2) a5]
  exact ⟨s1, t1, by rw [a1]; rfl, rfl, (h.q a3 a4 a5).p (Nat.le_refl _) (kq_cl (ln_c a4)) (kq_rl (ln_r a5))⟩
/-- RSET -/
theorem t_rset {gr : Bool} {sd : Option (List Nat)} {rcs : List (List Nat)} {us : List Nat} {s t : uS} {bs : List Nat} (h : lnS gr sd rcs us s t) (hr : rLn t bs) (hl : bs.length = 4) (h127 : t.I 1079 127 = nI 4) : ∃ s1 t1 : uS, ((fn_X0_forget s).bind fun s12 => (fn_X5_line 1040 kW_29 s12).bind fun s15 => some s15) = some s1 ∧ ((fn_X12_done kW_168 t).bind fun r37 => if r37.2 = true then ((fn_X12_reset r37.1).bind fun s40 => some s40) else (some r37.1)) = some t1 ∧ lnP rcs.length s t s1 t1 := by
  have q0 : pQ1 4 (cFg s) t := pQ_o (QI := rNo) (QF := rNo) h.1 (cFg_o s) out_r (fun k f a => ⟨by unfold fgI; omega, fun z => z⟩) (fun _ _ _ z => z)
  obtain ⟨s1, t1, a1, a2, a3, a4, a5⟩ := t_lnR (w := kW_29) (w' := kW_168) rfl (by decide) q0
  rw [r_done (w := kW_168) hr h127 (by omega) (by rw [if_pos hl.symm]; exact a2) a5, decide_eq_true hl.symm, c_forget, Option.bind_some, a1, Option.bind_some, Option.bind_some, if_pos rfl, r_reset, Option.bind_some]
  refine ⟨s1, rRs t1, rfl, rfl, ?_⟩
  have o1 : out clC clC s s1 := out_t (fg_cl s) (kq_cl (ln_c a4))
  have o2 : out rlI rlG t (rRs t1) := out_t (kq_rl (ln_r a5)) (rs_rl t1)
  have hA : ∀ f : Nat, s1.I 1042 f = s.I 1042 f := fun f => (a4.2.1 _ _ (fun z => by have := qC4 z; omega)).trans ((cFg_o s).2.1 _ _ (by unfold fgI; omega))
  have hB : ∀ f : Nat, f ≠ 115 → f ≠ 117 → (rRs t1).I 1079 f = t.I 1079 f := fun f y1 y2 => ((rRs_o t1).2.1 _ _ (by unfold rsJ; omega)).trans (a5.2.1 _ _ (fun z => z))
  have hT : tS gr none [] [] s1 (rRs t1) := by
    have b := tS_fg (gr := gr) (s := s) (t := t1) h.2.2.2.1.1 ((a5.2.1 _ _ (fun z => z)).trans h.2.2.2.1.2.1)
    exact b.o (kq_kp (ln_c a4)) out_r
  obtain ⟨-, g2, g3, -, z1, z2, z3, z4, z5, z6⟩ := h
  have hS : lnS gr none [] [] s1 (rRs t1) := ⟨pQ_o (PI := rNo) (PF := rNo) a3 out_r (rRs_o t1) (fun _ _ _ => ⟨fun z => z, fun z => z⟩) (fun _ _ _ z => z), (hA 4).trans g2, (hB 113 (by decide) (by decide)).trans g3, hT, (hA 7).trans z1, (hA 8).trans z2, (hA 9).trans z3, (hB 116 (by decide) (by decide)).trans z4, (hB 122 (by decide) (by decide)).trans z5, (hB 123 (by decide) (by decide)).trans z6⟩
  exact hS.p (Nat.zero_le _) o1 o2
/-- QUIT -/
def cCl (s : uS) : uS := cFg (wI (wI (wI (wI (wI s 1042 4 0) 1042 10 0) 1042 9 0) 1042 7 0) 1042 8 0)
theorem c_closeD (s : uS) : fn_X0_close s = some (cCl s) := rfl
theorem cCl_o (s : uS) : out (fun k f => fgI k f ∨ (k = 1042 ∧ (f = 4 ∨ (7 ≤ f ∧ f ≤ 10)))) rNo s (cCl s) := out_t (out_I (out_I (out_I (out_I (out_I out_r (Or.inr ⟨rfl, by omega⟩)) (Or.inr ⟨rfl, by omega⟩)) (Or.inr ⟨rfl, by omega⟩)) (Or.inr ⟨rfl, by omega⟩)) (Or.inr ⟨rfl, by omega⟩)) (out_w (cFg_o _) (fun _ _ z => Or.inl z) (fun _ _ z => z))
theorem cCl_4 (s : uS) : (cCl s).I 1042 4 = 0 := by
  rw [show (cCl s).I 1042 4 = (wI (wI (wI (wI (wI s 1042 4 0) 1042 10 0) 1042 9 0) 1042 7 0) 1042 8 0).I 1042 4 from (cFg_o _).2.1 _ _ (by unfold fgI; omega), wI_o (by omega), wI_o (by omega), wI_o (by omega), wI_o (by omega), wI_e]
theorem t_quit {gr : Bool} {sd : Option (List Nat)} {rcs : List (List Nat)} {us : List Nat} {s t : uS} {bs : List Nat} (h : lnS gr sd rcs us s t) (hr : rLn t bs) (hl : bs.length = 4) (h127 : t.I 1079 127 = nI 4) : ∃ s1 t1 : uS, ((fn_X0_close s).bind fun s4 => (fn_X5_line 1040 kW_30 s4).bind fun s7 => some s7) = some s1 ∧ ((fn_X12_done kW_171 t).bind fun r33 => if r33.2 = true then (some (wI r33.1 1079 113 0)) else (some r33.1)) = some t1 ∧ lnP rcs.length s t s1 t1 := by
  have q0 : pQ1 4 (cCl s) t := pQ_o (QI := rNo) (QF := rNo) h.1 (cCl_o s) out_r (fun k f a => ⟨by unfold fgI; omega, fun z => z⟩) (fun _ _ _ z => z)
  obtain ⟨s1, t1, a1, a2, a3, a4, a5⟩ := t_lnR (w := kW_30) (w' := kW_171) rfl (by decide) q0
  rw [r_done (w := kW_171) hr h127 (by omega) (by rw [if_pos hl.symm]; exact a2) a5, decide_eq_true hl.symm, c_closeD, Option.bind_some, a1, Option.bind_some, Option.bind_some, if_pos rfl]
  refine ⟨s1, _, rfl, rfl, ?_, ?_, ?_, Or.inl ⟨?_, wI_e _ _ _ _⟩⟩
  · exact pQ_o (PI := rNo) (PF := rNo) (QI := fun k f => k = 1079 ∧ f = 113) (QF := rNo) a3 out_r (out_I out_r ⟨rfl, rfl⟩) (fun _ _ _ => ⟨fun z => z, fun z => z⟩) (fun _ _ _ z => z)
  · exact out_t (out_w (cCl_o s) (fun k f z => by unfold fgI at z; unfold clC; omega) (fun _ _ z => z.elim)) (kq_cl (ln_c a4))
  · exact out_t (kq_rl (ln_r a5)) (out_I out_r ⟨rfl, by omega⟩)
  · exact (a4.2.1 _ _ (fun z => by have := qC4 z; omega)).trans (cCl_4 s)
