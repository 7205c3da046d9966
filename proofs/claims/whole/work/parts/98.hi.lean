/-! commands of the delivery: the plain ones, on both sides -/
theorem r_oneCmd {t : uS} {bs : List Nat} {p q : Nat} (h : rLn t bs) (hpq : p ≤ q) (hq : q ≤ bs.length) : ∃ t1 : uS, fn_X12_oneCmd (nI p) (nI q) t = some t1 ∧ r1 t1 (sub bs p q) ∧ out onI onF t t1 := by
  obtain ⟨h1, hn, hb, h2⟩ := h
  have hl := sub_len hq hpq
  have hby : bys (sub bs p q) := sub_by hb
  have hg : ∀ j : Nat, j < (sub bs p q).length → bs.getD (p + j) 0 = (sub bs p q).getD j 0 := fun j hj => (sub_get (by omega)).symm
  generalize sub bs p q = y at *
  unfold fn_X12_oneCmd
  rw [nI_sub hpq, ← hl]
  have e : fn_X12_oneCmd_9 uFu (nI p) 0 (wI t 1079 21 (nI y.length)) = some (cpy (wI t 1079 21 (nI y.length)) 1093 0 0 y.length (fun j => nI (y.getD j 0))) := by
    refine cpy0 (F := fun N x s => fn_X12_oneCmd_9 N (nI p) x s) (fin := fun s => some s) ?_ ?_ (by show _ < 1000000; omega)
    · intro N i hi
      show fb_X12_oneCmd_9 (fn_X12_oneCmd_9 N) (nI p) (nI i) _ = _
      unfold fb_X12_oneCmd_9
      rw [cpy_I, wI_e, if_neg (nI_ge (by omega) (by omega)), nI_add, g_1147 (by omega), Option.bind_some, cpy_Fo (by decide), wI_F, h2 (p + i) (by omega), hg i hi, p_1093 (by omega), Option.bind_some, nI_1 i, Nat.zero_add]
    · intro N
      show fb_X12_oneCmd_9 (fn_X12_oneCmd_9 N) (nI p) (nI y.length) _ = _
      unfold fb_X12_oneCmd_9
      rw [cpy_I, wI_e, if_pos (nI_le (Nat.le_refl _) (by omega))]
  refine ⟨_, e, ⟨by rw [cpy_I, wI_e], by omega, hby, fun j hj => ?_⟩, out_t (out_I out_r ⟨rfl, rfl⟩) (out_cpy (fun _ => rfl))⟩
  have := cpy_Fe (s := wI t 1079 21 (nI y.length)) (K := 1093) (off := 0) (i := 0) (L := y.length) (g := fun i => nI (y.getD i 0)) (Nat.zero_le j) hj
  rw [Nat.zero_add] at this
  exact this
theorem kq_on {t t1 : uS} (o : out onI onF t t1) : out kqI kqF t t1 := out_w o (fun k f z => by unfold onI at z; unfold kqI; omega) (fun k f z => by unfold onF at z; unfold kqF qR; omega)
theorem kq_tw {t t1 : uS} (o : out twI twF t t1) : out kqI kqF t t1 := out_w o (fun k f z => by unfold twI at z; unfold kqI; omega) (fun k f z => by unfold twF at z; unfold kqF qR; omega)
theorem kq_w {t : uS} {f : Nat} {v : Int32} (h : 126 ≤ f) : out kqI kqF t (wI t 1079 f v) := out_I out_r ⟨rfl, by omega⟩
theorem pQ_o {PI PF QI QF : Nat → Nat → Prop} {s t s1 t1 : uS} (h : pQ1 4 s t) (o : out PI PF s s1) (q : out QI QF t t1) (h1 : ∀ k f : Nat, k = 1040 ∨ k = 1041 → ¬ PI k f ∧ ¬ PF k f) (h2 : ∀ k f : Nat, k = 1085 ∨ k = 1086 → ¬ QF k f) : pQ1 4 s1 t1 := by
  obtain ⟨xs, a, b, c⟩ := h
  refine ⟨xs, a.fr (funext fun f => o.2.1 _ _ (h1 _ _ (Or.inl rfl)).1) (funext fun f => o.2.2 _ _ (h1 _ _ (Or.inr rfl)).2), ⟨b.1, (q.2.2 _ _ (h2 _ _ (Or.inr rfl))).trans b.2.1, fun j hj => (q.2.2 _ _ (h2 _ _ (Or.inl rfl))).trans (b.2.2 j hj)⟩, c⟩
/-- a change of the reference alone, of no account -/
theorem lnS.t {gr : Bool} {sd : Option (List Nat)} {rcs : List (List Nat)} {us : List Nat} {s t t1 : uS} {QI QF : Nat → Nat → Prop} (h : lnS gr sd rcs us s t) (q : out QI QF t t1) (q1 : ∀ k f : Nat, QI k f → kqI k f) (q2 : ∀ k f : Nat, QF k f → k = 1093 ∨ k = 1094 ∨ k = 1148) : lnS gr sd rcs us s t1 :=
  h.o out_r (out_w q q1 (fun k f z => Or.inr (q2 k f z))) (pQ_o (PI := rNo) (PF := rNo) h.1 out_r q (fun _ _ _ => ⟨fun z => z, fun z => z⟩) (fun k f a z => by have := q2 k f z; omega))
theorem lnS.w {gr : Bool} {sd : Option (List Nat)} {rcs : List (List Nat)} {us : List Nat} {s t : uS} {f : Nat} {v : Int32} (h : lnS gr sd rcs us s t) (hf : 126 ≤ f) : lnS gr sd rcs us s (wI t 1079 f v) := h.t (QI := fun k f => k = 1079 ∧ 126 ≤ f) (QF := rNo) (out_I out_r ⟨rfl, hf⟩) (fun k f z => ⟨z.1, by have := z.2; omega⟩) (fun _ _ z => z.elim)
/-- sender and recipients forgotten -/
def cFg (s : uS) : uS := wI (wI (wI (wI (wI (wI s 1043 3 0) 1043 4 0) 1043 5 0) 1047 3 0) 1047 4 0) 1047 5 0
theorem c_forget (s : uS) : fn_X0_forget s = some (cFg s) := rfl
def rRs (t : uS) : uS := wI (wI t 1079 115 0) 1079 117 0
theorem r_reset (t : uS) : fn_X12_reset t = some (rRs t) := rfl
def fgI (k _f : Nat) : Prop := k = 1043 ∨ k = 1047
def rsJ (k f : Nat) : Prop := k = 1079 ∧ (f = 115 ∨ f = 117)
theorem cFg_o (s : uS) : out fgI rNo s (cFg s) := out_I (out_I (out_I (out_I (out_I (out_I out_r (Or.inl rfl)) (Or.inl rfl)) (Or.inl rfl)) (Or.inr rfl)) (Or.inr rfl)) (Or.inr rfl)
theorem rRs_o (t : uS) : out rsJ rNo t (rRs t) := out_I (out_I out_r ⟨rfl, by omega⟩) ⟨rfl, by omega⟩
theorem rRc_0 (t : uS) : rRc (rRs t) [] [] := ⟨rfl, Nat.zero_le _, wI_e _ _ _ _, fun i hi => absurd hi (Nat.not_lt_zero _)⟩
theorem cFg_3 (s : uS) : cTz (cFg s) 1043 101 1 [] 0 [] := by
  have h : cTz (wI (wI (wI s 1043 3 0) 1043 4 0) 1043 5 0) 1043 101 1 [] 0 [] := tz_clear
  exact h.fr rfl rfl rfl rfl rfl rfl
theorem cFg_7 (s : uS) : cTz (cFg s) 1047 404 4 [] 0 [] := tz_clear
theorem tS_fg {gr : Bool} {s t : uS} (h1 : s.I 1042 10 = bI gr) (h2 : t.I 1079 114 = bI gr) : tS gr none [] [] (cFg s) (rRs t) :=
  ⟨((cFg_o s).2.1 _ _ (by unfold fgI; omega)).trans h1, ((rRs_o t).2.1 _ _ (by unfold rsJ; omega)).trans h2, cFg_3 s, by show (wI (wI t 1079 115 0) 1079 117 0).I 1079 115 = _; rw [wI_o (by omega), wI_e]; rfl, (fun x hx => by cases hx), ⟨0, Nat.zero_le _, cFg_7 s⟩, rRc_0 t, fun i hi => absurd hi (Nat.not_lt_zero _), fun z => absurd rfl z⟩
theorem fg_cl (s : uS) : out clC clC s (cFg s) := out_w (cFg_o s) (fun k f z => by unfold fgI at z; unfold clC; omega) (fun _ _ z => z.elim)
theorem rs_rl (t : uS) : out rlI rlG t (rRs t) := out_w (rRs_o t) (fun k f z => by unfold rsJ at z; unfold rlI; omega) (fun _ _ z => z.elim)
theorem kq_cl {s s1 : uS} (o : out kqC kqC s s1) : out clC clC s s1 := kp_cl (kq_kp o)
theorem kq_rl {t t1 : uS} (o : out kqI kqF t t1) : out rlI rlG t t1 := kp_rl (kq_kr o)
/-- all forgotten at a line's end -/
theorem lnS_fg {gr : Bool} {sd : Option (List Nat)} {rcs : List (List Nat)} {us : List Nat} {s t : uS} (h : lnS gr sd rcs us s t) {gr1 : Bool} (h1 : s.I 1042 10 = bI gr1) (h2 : t.I 1079 114 = bI gr1) : lnS gr1 none [] [] (cFg s) (rRs t) := by
  obtain ⟨a1, a2, a3, -, z1, z2, z3, z4, z5, z6⟩ := h
  have o := cFg_o s
  have q := rRs_o t
  exact ⟨pQ_o a1 o q (fun k f a => ⟨by unfold fgI; omega, fun z => z⟩) (fun _ _ _ z => z), (o.2.1 _ _ (by unfold fgI; omega)).trans a2, (q.2.1 _ _ (by unfold rsJ; omega)).trans a3, tS_fg h1 h2, (o.2.1 _ _ (by unfold fgI; omega)).trans z1, (o.2.1 _ _ (by unfold fgI; omega)).trans z2, (o.2.1 _ _ (by unfold fgI; omega)).trans z3, (q.2.1 _ _ (by unfold rsJ; omega)).trans z4, (q.2.1 _ _ (by unfold rsJ; omega)).trans z5, (q.2.1 _ _ (by unfold rsJ; omega)).trans z6⟩
/-- a session that has greeted -/
theorem lnS_gr {gr : Bool} {sd : Option (List Nat)} {rcs : List (List Nat)} {us : List Nat} {s t : uS} (h : lnS gr sd rcs us s t) : lnS true none [] [] (cFg (wI s 1042 10 1)) (rRs (wI t 1079 114 1)) := by
  obtain ⟨a1, a2, a3, -, z1, z2, z3, z4, z5, z6⟩ := h
  have o : out (fun k f => fgI k f ∨ (k = 1042 ∧ f = 10)) rNo s (cFg (wI s 1042 10 1)) := out_t (out_I out_r (Or.inr ⟨rfl, rfl⟩)) (out_w (cFg_o _) (fun _ _ z => Or.inl z) (fun _ _ z => z))
  have q : out (fun k f => rsJ k f ∨ (k = 1079 ∧ f = 114)) rNo t (rRs (wI t 1079 114 1)) := out_t (out_I out_r (Or.inr ⟨rfl, rfl⟩)) (out_w (rRs_o _) (fun _ _ z => Or.inl z) (fun _ _ z => z))
  exact ⟨pQ_o a1 o q (fun k f a => ⟨by unfold fgI; omega, fun z => z⟩) (fun _ _ _ z => z), (o.2.1 _ _ (by unfold fgI; omega)).trans a2, (q.2.1 _ _ (by unfold rsJ; omega)).trans a3, tS_fg (wI_e _ _ _ _) (wI_e _ _ _ _), (o.2.1 _ _ (by unfold fgI; omega)).trans z1, (o.2.1 _ _ (by unfold fgI; omega)).trans z2, (o.2.1 _ _ (by unfold fgI; omega)).trans z3, (q.2.1 _ _ (by unfold rsJ; omega)).trans z4, (q.2.1 _ _ (by unfold rsJ; omega)).trans z5, (q.2.1 _ _ (by unfold rsJ; omega)).trans z6⟩
theorem gr_cl (s : uS) : out clC clC s (cFg (wI s 1042 10 1)) := out_t (out_I out_r (by unfold clC; omega)) (fg_cl _)
theorem gr_rl (t : uS) : out rlI rlG t (rRs (wI t 1079 114 1)) := out_t (out_I out_r (by unfold rlI; omega)) (rs_rl _)
/-- LHLO -/
theorem t_lhlo {gr : Bool} {sd : Option (List Nat)} {rcs : List (List Nat)} {us : List Nat} {s t : uS} {bs : List Nat} (h : lnS gr sd rcs us s t) (hc : rdC s 1052 0 bs) (hr : rLn t bs) (h4 : 4 ≤ bs.length) (hsp : bs.length = 4 ∨ bs.getD 4 0 = 32) (h127 : t.I 1079 127 = nI 4) : ∃ s1 t1 : uS, fn_X0_answerLhlo (nI bs.length) s = some s1 ∧ fn_X12_hello t = some t1 ∧ lnP rcs.length s t s1 t1 := by
  have hn := hr.2.1
  have st := r_stands (w := kW_177) hr h127 (by omega) (by unfold lwc; decide) (by decide)
  have bad : ∀ t2 : uS, lnS gr sd rcs us s t2 → out kqI kqF t t2 → ∃ s1 t1 : uS, ((fn_X5_line 1040 kW_18 s).bind fun s16 => some s16) = some s1 ∧ fb_X12_hello_39 t2 = some t1 ∧ lnP rcs.length s t s1 t1 := by
    intro t2 h2 o2
    obtain ⟨s1, t1, a1, a2, a3, a4, a5⟩ := t_an (w := kW_18) (w' := kW_165) h2 rfl (by decide)
    exact ⟨s1, t1, by rw [a1]; rfl, by unfold fb_X12_hello_39; rw [a2]; rfl, a3.p (Nat.le_refl _) (kq_cl a4) (kq_rl (out_t o2 a5))⟩
  unfold fn_X0_answerLhlo fn_X12_hello fn_X9_isDomain
  rcases hsp with e4 | e32
  · have sb0 : stB bs 4 kW_177 = false := by unfold stB; rw [decide_eq_false (show ¬ 4 + kW_177.length ≤ bs.length by rw [e4]; decide)]; rfl
    rw [sb0, if_neg (by decide)] at st
    obtain ⟨t2, b1, b2, b3⟩ := r_oneCmd hr (show 4 ≤ bs.length from h4) (Nat.le_refl _)
    rw [st, Option.bind_some]
    dsimp only
    rw [h127, hr.1, b1, Option.bind_some, if_neg (by decide)]
    unfold fn_X9_isDotted
    rw [if_pos (show nI bs.length ≤ 5 from nI_le (b := 5) (by omega) (by decide)), Option.bind_some, Option.bind_some, if_neg (by decide)]
    exact bad t2 (h.t b3 (fun k f z => by unfold onI at z; unfold kqI; omega) (fun k f z => by unfold onF at z; omega)) (kq_on b3)
  · have h5 : 5 ≤ bs.length := by
      by_cases c : bs.length = 4
      · have := getDn_out (a := bs) (j := 4) (by omega); omega
      · omega
    have sb1 : stB bs 4 kW_177 = true := by
      unfold stB
      rw [Bool.and_eq_true, decide_eq_true_eq, decide_eq_true_eq]
      refine ⟨h5, fun j hj => ?_⟩
      have hj0 : j = 0 := by have : j < 1 := hj; omega
      subst hj0
      rw [Nat.add_zero, e32]; rfl
    rw [sb1, if_pos rfl] at st
    rw [st, Option.bind_some]
    dsimp only
    have i127 : (wI t 1079 127 (nI (4 + kW_177.length))).I 1079 127 = nI 5 := wI_e _ _ _ _
    have i126 : (wI t 1079 127 (nI (4 + kW_177.length))).I 1079 126 = nI bs.length := by rw [wI_o (by omega)]; exact hr.1
    obtain ⟨t2, b1, b2, b3⟩ := r_oneCmd (hr.w (f := 127) (v := nI (4 + kW_177.length)) (by decide)) h5 (Nat.le_refl _)
    have o2 : out kqI kqF t t2 := out_t (kq_w (by decide)) (kq_on b3)
    have h2 : lnS gr sd rcs us s t2 := (h.w (f := 127) (v := nI (4 + kW_177.length)) (by decide)).t b3 (fun k f z => by unfold onI at z; unfold kqI; omega) (fun k f z => by unfold onF at z; omega)
    rw [i127, i126, b1, Option.bind_some, if_pos rfl]
    have hs := hc.sub (a := 5) (b := bs.length) h5 (Nat.le_refl _)
    have hsl := sub_len (x := bs) (a := 5) (Nat.le_refl bs.length) h5
    have cd := c_dot (a := 0) (b := (sub bs 5 bs.length).length) (most := 60) (loc := false) hs (Nat.le_refl _) (Nat.zero_le _) (by omega) (by decide)
    have rd := r_dot (t := t2) (a := 0) (b := (sub bs 5 bs.length).length) (most := 60) (loc := false) b2 (Nat.le_refl _) (Nat.zero_le _) (by decide)
    rw [show 0 + 5 + (sub bs 5 bs.length).length = bs.length by omega] at cd
    rw [show fn_X9_isDotted 1052 5 (nI bs.length) 60 kW_69 s = some (dot (sub bs 5 bs.length) 0 (sub bs 5 bs.length).length 60 false) from cd, Option.bind_some, Option.bind_some]
    rw [show t2.I 1079 21 = nI (sub bs 5 bs.length).length from b2.1, show fn_X12_isDotted 0 (nI (sub bs 5 bs.length).length) 60 false t2 = some (dot (sub bs 5 bs.length) 0 (sub bs 5 bs.length).length 60 false) from rd, Option.bind_some]
    cases dot (sub bs 5 bs.length) 0 (sub bs 5 bs.length).length 60 false with
    | false =>
      rw [if_neg (by decide), if_neg (by decide)]
      exact bad t2 h2 o2
    | true =>
      rw [if_pos rfl, if_pos rfl, c_forget, Option.bind_some, r_reset, Option.bind_some]
      have h3 := lnS_gr h2
      obtain ⟨s4, t4, c1, c2, c3, c4, c5⟩ := t_an (w := kW_19) (w' := kW_178) h3 rfl (by decide)
      obtain ⟨s5, t5, d1, d2, d3, d4, d5⟩ := t_an (w := kW_20) (w' := kW_179) c3 rfl (by decide)
      obtain ⟨s6, t6, e1, e2, e3, e4, e5⟩ := t_an (w := kW_21) (w' := kW_180) d3 rfl (by decide)
      rw [c1, Option.bind_some, d1, Option.bind_some, e1, Option.bind_some, c2, Option.bind_some, d2, Option.bind_some, e2, Option.bind_some]
      exact ⟨s6, t6, rfl, rfl, e3.p (Nat.zero_le _) (out_t (out_t (out_t (gr_cl s) (kq_cl c4)) (kq_cl d4)) (kq_cl e4)) (out_t (out_t (out_t (out_t (kq_rl o2) (gr_rl t2)) (kq_rl c5)) (kq_rl d5)) (kq_rl e5))⟩
