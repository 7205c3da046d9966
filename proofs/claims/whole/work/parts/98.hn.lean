/-! MAIL on both sides -/
def lwF : List Nat := [102, 114, 111, 109, 58]
def pqM (bs : List Nat) : Option Nat := if stB bs 5 lwF = true then pe bs 10 true else none
theorem pe_b {bs : List Nat} {p q : Nat} {b3 : Bool} (h : pe bs p b3 = some q) : p + 1 ≤ q ∧ q < bs.length ∧ adO (sub bs (p + 1) q) := by
  unfold pe at h
  by_cases c : b3 = true ∧ stB bs p kW_185 = true
  · rw [if_pos c] at h
    cases h
    have := stB_2.mp c.2
    exact ⟨Nat.le_refl _, by omega, Or.inl sub_nil⟩
  · rw [if_neg c] at h
    obtain ⟨a, b, d, e, f⟩ := pth_b h
    exact ⟨d, e, Or.inr f⟩
theorem adO_le {x : List Nat} (h : adO x) : x.length ≤ 101 := by
  rcases h with h | h
  · rw [h]; decide
  · exact adr_le h
def snI (k f : Nat) : Prop := k = 1079 ∧ (f = 21 ∨ f = 127 ∨ f = 130)
def snF (k _f : Nat) : Prop := k = 1093 ∨ k = 1148
theorem r_snd {t : uS} {bs : List Nat} (h : rLn t bs) (h127 : t.I 1079 127 = nI 4) (hsp : bs.length = 4 ∨ bs.getD 4 0 = 32) : ∃ tq : uS, fn_X12_sender t = fb_X12_sender_76 (pqM bs).isSome tq ∧ out snI snF t tq ∧ ∀ q : Nat, pqM bs = some q → tq.I 1079 127 = nI (q + 1) ∧ tq.I 1079 130 = nI (sub bs 11 q).length ∧ ∀ j : Nat, j < (sub bs 11 q).length → tq.F 1148 j = nI ((sub bs 11 q).getD j 0) := by
  have hn := h.2.1
  have st := r_stands (w := kW_184) h h127 (by omega) (by unfold lwc; decide) (by decide)
  rw [show stB bs 4 kW_184 = stB bs 5 lwF from stB_sp (W := lwF) hsp] at st
  unfold fn_X12_sender pqM
  rw [st, Option.bind_some]
  cases S : stB bs 5 lwF with
  | false =>
    dsimp only
    rw [if_neg (by decide), if_neg (by decide), if_neg (by decide)]
    exact ⟨_, rfl, out_I out_r ⟨rfl, by omega⟩, fun q hq => by cases hq⟩
  | true =>
    have SS := S
    unfold stB at SS
    rw [Bool.and_eq_true, decide_eq_true_eq, decide_eq_true_eq] at SS
    have hL : 10 ≤ bs.length := SS.1
    rw [if_pos rfl, if_pos rfl, if_pos rfl]
    dsimp only
    obtain ⟨t0, ht0⟩ : ∃ t0, t0 = wI (wI t 1079 127 (nI (4 + kW_184.length))) 1079 130 0 := ⟨_, rfl⟩
    rw [← ht0]
    have k3 : rLn t0 bs := by rw [ht0]; exact (h.w (by decide)).w (by decide)
    have k4 : t0.I 1079 127 = nI 10 := by rw [ht0, wI_o (by omega), wI_e]; rfl
    have k5 : t0.I 1079 130 = nI 0 := by rw [ht0, wI_e]; rfl
    have o0 : out snI snF t t0 := by rw [ht0]; exact out_I (out_I out_r ⟨rfl, by omega⟩) ⟨rfl, by omega⟩
    have s2 := r_stands (w := kW_185) k3 k4 (by omega) (by unfold lwc; decide) (by decide)
    rw [s2, Option.bind_some]
    unfold pe
    cases B : stB bs 10 kW_185 with
    | true =>
      rw [if_pos rfl, if_pos rfl, if_pos ⟨rfl, rfl⟩]
      refine ⟨_, rfl, out_t o0 (out_I out_r ⟨rfl, by omega⟩), fun q hq => ?_⟩
      cases hq
      refine ⟨wI_e _ _ _ _, ?_, fun j hj => ?_⟩
      · rw [wI_o (by omega), k5, show sub bs 11 (10 + 1) = [] from sub_nil]; rfl
      · rw [show sub bs 11 (10 + 1) = [] from sub_nil] at hj; exact absurd hj (Nat.not_lt_zero _)
    | false =>
      dsimp only
      rw [if_neg (by decide), if_neg (by decide), if_neg (fun z => Bool.noConfusion z.2)]
      obtain ⟨t1, a1, a2, a3⟩ := r_path k3 k4 hL
      have o1 : out snI snF t t1 := out_t o0 (out_w a2 (fun k f z => by unfold paI at z; unfold snI; omega) (fun k f z => Or.inl z))
      rw [a1, Option.bind_some]
      cases P : pth bs 10 with
      | none =>
        dsimp only
        rw [if_neg (by decide)]
        refine ⟨wI t1 1079 130 0, ?_, out_t o1 (out_I out_r ⟨rfl, by omega⟩), fun q hq => by cases hq⟩
        show fb_X12_sender_50 _ false 0 (wI t1 1079 130 0) = _
        unfold fb_X12_sender_50
        rw [wI_e, if_pos (by decide)]
        rfl
      | some q =>
        obtain ⟨b1, b2⟩ := a3 q P
        obtain ⟨p1, p2, p3, p4, p5⟩ := pth_b P
        have hx := adr_le p5
        rw [show (10 : Nat) + 1 = 11 from rfl] at b2 hx
        dsimp only
        rw [if_pos (by rfl)]
        rw [b2.1]
        generalize hy : sub bs 11 q = y at *
        have e : fn_X12_sender_50 uFu true 0 (wI t1 1079 130 (nI y.length)) = fb_X12_sender_76 true (cpy (wI t1 1079 130 (nI y.length)) 1148 0 0 y.length (fun j => nI (y.getD j 0))) := by
          refine cpy0 (F := fun N x s => fn_X12_sender_50 N true x s) (fin := fun s => fb_X12_sender_76 true s) ?_ ?_ (by show _ < 1000000; omega)
          · intro N i hi
            show fb_X12_sender_50 (fn_X12_sender_50 N) true (nI i) _ = _
            unfold fb_X12_sender_50
            rw [cpy_I, wI_e, if_neg (nI_ge (by omega) (by omega)), g_1093 (by omega), Option.bind_some, cpy_Fo (by decide), wI_F, b2.2.2.2 i hi, p_1148 (by omega), Option.bind_some, nI_1 i, Nat.zero_add]
          · intro N
            show fb_X12_sender_50 (fn_X12_sender_50 N) true (nI y.length) _ = _
            unfold fb_X12_sender_50
            rw [cpy_I, wI_e, if_pos (nI_le (Nat.le_refl _) (by omega))]
        refine ⟨_, e, out_t o1 (out_t (out_I out_r ⟨rfl, by omega⟩) (out_cpy (fun _ => Or.inr rfl))), fun q' hq => ?_⟩
        cases hq
        refine ⟨?_, ?_, fun j hj => ?_⟩
        · rw [cpy_I, wI_o (by omega)]; exact b1
        · rw [hy, cpy_I, wI_e]
        · rw [hy] at hj ⊢
          have := cpy_Fe (s := wI t1 1079 130 (nI y.length)) (K := 1148) (off := 0) (i := 0) (L := y.length) (g := fun i => nI (y.getD i 0)) (Nat.zero_le j) hj
          rw [Nat.zero_add] at this
          exact this
theorem kq_sn {t t1 : uS} (o : out snI snF t t1) : out kqI kqF t t1 := out_w o (fun k f z => by unfold snI at z; unfold kqI; omega) (fun k f z => by unfold snF at z; unfold kqF qR; omega)
theorem kq_ps {t t1 : uS} (o : out psJ rNo t t1) : out kqI kqF t t1 := out_w o (fun k f z => by unfold psJ at z; unfold kqI; omega) (fun _ _ z => z.elim)
theorem kq_op {s s1 : uS} (o : out opI rNo s s1) : out kqC kqC s s1 := out_w o (fun k f z => by unfold opI at z; unfold kqC; omega) (fun _ _ z => z.elim)
theorem lnS.op {gr : Bool} {sd : Option (List Nat)} {rcs : List (List Nat)} {us : List Nat} {s t s1 : uS} (h : lnS gr sd rcs us s t) (o : out opI rNo s s1) : lnS gr sd rcs us s1 t := h.o (kq_op o) out_r (pQ_o (QI := rNo) (QF := rNo) h.1 o out_r (fun k f a => ⟨by unfold opI; omega, fun z => z⟩) (fun _ _ _ z => z))
/-- a sender is taken -/
theorem t_take {gr : Bool} {rcs : List (List Nat)} {us : List Nat} {s t : uS} {bs : List Nat} {q : Nat} (h : lnS gr none rcs us s t) (hc : rdC s 1052 0 bs) (hl : bs.length ≤ 500) (hq1 : 11 ≤ q) (hq2 : q < bs.length) (ha : adO (sub bs 11 q)) (h130 : t.I 1079 130 = nI (sub bs 11 q).length) (h1148 : ∀ j : Nat, j < (sub bs 11 q).length → t.F 1148 j = nI ((sub bs 11 q).getD j 0)) : ∃ s1 t1 : uS, ((fn_X9_putRange 1043 1052 (nI 11) (nI q) s).bind fun s12 => (fn_X9_close 1043 s12).bind fun s14 => (fn_X5_line 1040 kW_24 s14).bind fun s17 => some s17) = some s1 ∧ fn_X12_sender_152 uFu 0 (wI (wI t 1079 115 1) 1079 93 (nI (sub bs 11 q).length)) = some t1 ∧ lnP rcs.length s t s1 t1 := by
  have hsl := sub_len (x := bs) (a := 11) (b := q) (by omega) hq1
  have hx := adO_le ha
  have hby : bys (sub bs 11 q) := sub_by hc.2.1
  obtain ⟨g1, g2, g3, ⟨v1, v2, v3, v4, v5, v6, v7, v8, v9⟩, z1, z2, z3, z4, z5, z6⟩ := h
  obtain ⟨s2, a1, a2, a3⟩ := tz_range (K := 1043) (a := 11) (b := q) uTx_sn v3 hc (show (uCl s 1052).2 ≤ 10000 by rw [uCl_c (by decide)]; decide) (by decide) (by omega) hq1 (by omega) (show 0 + ([] : List Nat).length + (q - 11) ≤ 101 by show 0 + 0 + (q - 11) ≤ 101; omega)
  rw [Nat.zero_add, Nat.zero_add] at a1
  obtain ⟨s3, b1, b2, b3⟩ := tz_closeO uTx_sn a2 (by decide)
  generalize sub bs 11 q = y at *
  rw [List.nil_append] at b2
  rw [show sdB none + y.length = y.length from Nat.zero_add _] at b2
  have o3 : out (tI 1043) (tF 1043) s s3 := out_t (out_w a3 (fun k f z => z.1) (fun k f z => Or.inl z)) b3
  -- the reference
  obtain ⟨t0, ht0⟩ : ∃ t0, t0 = wI (wI t 1079 115 1) 1079 93 (nI y.length) := ⟨_, rfl⟩
  rw [← ht0]
  have i130 : t0.I 1079 130 = nI y.length := by rw [ht0, wI_o (by omega), wI_o (by omega)]; exact h130
  have f1148 : ∀ j : Nat, j < y.length → t0.F 1148 j = nI (y.getD j 0) := fun j hj => by rw [ht0, wI_Fe, wI_Fe]; exact h1148 j hj
  have e : fn_X12_sender_152 uFu 0 t0 = (fn_X12_line 4 kW_186 (cpy t0 1137 0 0 y.length (fun j => nI (y.getD j 0)))).bind fun s3 => some s3 := by
    refine cpy0 (F := fun N x s => fn_X12_sender_152 N x s) (fin := fun s => (fn_X12_line 4 kW_186 s).bind fun s3 => some s3) ?_ ?_ (by show _ < 1000000; omega)
    · intro N i hi
      show fb_X12_sender_152 (fn_X12_sender_152 N) (nI i) _ = _
      unfold fb_X12_sender_152
      rw [cpy_I, i130, if_neg (nI_ge (by omega) (by omega)), g_1148 (by omega), Option.bind_some, cpy_Fo (by decide), f1148 i hi, p_1137 (by omega), Option.bind_some, nI_1 i, Nat.zero_add]
    · intro N
      show fb_X12_sender_152 (fn_X12_sender_152 N) (nI y.length) _ = _
      unfold fb_X12_sender_152
      rw [cpy_I, i130, if_pos (nI_le (Nat.le_refl _) (by omega))]
  obtain ⟨t2, ht2⟩ : ∃ t2, t2 = cpy t0 1137 0 0 y.length (fun j => nI (y.getD j 0)) := ⟨_, rfl⟩
  rw [← ht2] at e
  have o2 : out (fun k f => k = 1079 ∧ (f = 115 ∨ f = 93)) (fun k _ => k = 1137) t t2 := out_t (s1 := t0) (by rw [ht0]; exact out_I (out_I out_r ⟨rfl, by omega⟩) ⟨rfl, by omega⟩) (by rw [ht2]; exact out_cpy (fun _ => rfl))
  have q3 : pQ1 4 s3 t2 := pQ_o g1 o3 o2 (fun k f a => ⟨by unfold tI; omega, by unfold tF; omega⟩) (fun k f a => by omega)
  have hT : tS gr (some y) rcs us s3 t2 := by
    obtain ⟨b4, w1, w2⟩ := v6
    refine ⟨(o3.2.1 _ _ (by unfold tI; omega)).trans v1, (o2.2.1 _ _ (by omega)).trans v2, b2, ?_, fun x hx' => ?_, ⟨b4, w1, w2.ou o3 (fun f => by unfold tI; omega) (fun j f _ _ => by unfold tF; omega)⟩, v7.ou o2 (by omega) (fun j f _ _ => by omega), v8, fun _ => rfl⟩
    · rw [ht2, cpy_I, ht0, wI_o (by omega), wI_e]; rfl
    · cases hx'
      refine ⟨ha, ?_, hx, hby, fun j hj => ?_⟩
      · rw [ht2, cpy_I, ht0, wI_e]
      · rw [ht2]
        have := cpy_Fe (s := t0) (K := 1137) (off := 0) (i := 0) (L := y.length) (g := fun i => nI (y.getD i 0)) (Nat.zero_le j) hj
        rw [Nat.zero_add] at this
        exact this
  have hS : lnS gr (some y) rcs us s3 t2 := ⟨q3, (o3.2.1 _ _ (by unfold tI; omega)).trans g2, (o2.2.1 _ _ (by omega)).trans g3, hT, (o3.2.1 _ _ (by unfold tI; omega)).trans z1, (o3.2.1 _ _ (by unfold tI; omega)).trans z2, (o3.2.1 _ _ (by unfold tI; omega)).trans z3, (o2.2.1 _ _ (by omega)).trans z4, (o2.2.1 _ _ (by omega)).trans z5, (o2.2.1 _ _ (by omega)).trans z6⟩
  obtain ⟨s4, t4, c1, c2, c3, c4, c5⟩ := t_an (w := kW_24) (w' := kW_186) hS rfl (by decide)
  refine ⟨s4, t4, ?_, ?_, c3.p (Nat.le_refl _) (out_t (out_w o3 (fun k f z => by unfold tI at z; unfold clC; omega) (fun k f z => by unfold tF at z; unfold clC; omega)) (kq_cl c4)) (out_t (out_w o2 (fun k f z => by unfold rlI; omega) (fun k f z => by unfold rlG qR; omega)) (kq_rl c5))⟩
  · rw [a1, Option.bind_some, b1, Option.bind_some, c1, Option.bind_some]
  · rw [e, c2, Option.bind_some]
theorem lnP.m {R : Nat} {s t s0 t0 s1 t1 : uS} (h : lnP R s0 t0 s1 t1) (o : out clC clC s s0) (q : out rlI rlG t t0) : lnP R s t s1 t1 := ⟨h.1, out_t o h.2.1, out_t q h.2.2.1, h.2.2.2⟩
theorem t_mail {gr : Bool} {sd : Option (List Nat)} {rcs : List (List Nat)} {us : List Nat} {s t : uS} {bs : List Nat} (h : lnS gr sd rcs us s t) (hc : rdC s 1052 0 bs) (hr : rLn t bs) (hsp : bs.length = 4 ∨ bs.getD 4 0 = 32) (h127 : t.I 1079 127 = nI 4) : ∃ s1 t1 : uS, fn_X0_answerMail (nI bs.length) s = some s1 ∧ fn_X12_sender t = some t1 ∧ lnP rcs.length s t s1 t1 := by
  have hl := hr.2.1
  obtain ⟨tq, r1', r2', r3'⟩ := r_snd hr h127 hsp
  have hq : lnS gr sd rcs us s tq := h.t r2' (fun k f z => by unfold snI at z; unfold kqI; omega) (fun k f z => by unfold snF at z; omega)
  have bad : ∀ (s0 t0 : uS), lnS gr sd rcs us s0 t0 → out kqC kqC s s0 → out kqI kqF t t0 → ∃ s1 t1 : uS, fb_X0_answerMail_29 s0 = some s1 ∧ fb_X12_sender_87 t0 = some t1 ∧ lnP rcs.length s t s1 t1 := by
    intro s0 t0 h0 o q
    obtain ⟨s1, t1, a1, a2, a3⟩ := t_syn h0
    exact ⟨s1, t1, a1, a2, a3.m (kq_cl o) (kq_rl q)⟩
  unfold fn_X0_answerMail
  rw [c_pstart (w := kW_22) (W := lwF) hc hl (by decide) (by decide) (by decide) (by unfold lwc; decide) (by decide), Option.bind_some, r1']
  unfold pqM at *
  cases S : stB bs 5 lwF with
  | false =>
    rw [S] at r3'
    rw [if_neg (by decide), if_neg (by decide)]
    have e : fn_X0_pathEnd (-1) (nI bs.length) true s = some (-1) := by
      unfold fn_X0_pathEnd fb_X0_pathEnd_19
      rw [if_neg (by decide), if_pos (by decide)]
    rw [e, Option.bind_some, if_pos (by decide)]
    show ∃ s1 t1 : uS, _ ∧ fb_X12_sender_76 false tq = some t1 ∧ _
    unfold fb_X12_sender_76
    rw [if_neg (by decide)]
    exact bad s tq hq out_r (kq_sn r2')
  | true =>
    have SS := S
    unfold stB at SS
    rw [Bool.and_eq_true, decide_eq_true_eq, decide_eq_true_eq] at SS
    have hL : 10 ≤ bs.length := SS.1
    rw [S] at r3'
    rw [if_pos rfl] at r3' ⊢
    rw [if_pos rfl]
    rw [show (5 : Nat) + kW_22.length = 10 from rfl, c_pend hc hl hL, Option.bind_some]
    cases P : pe bs 10 true with
    | none =>
      rw [if_pos (by decide)]
      show ∃ s1 t1 : uS, _ ∧ fb_X12_sender_76 false tq = some t1 ∧ _
      unfold fb_X12_sender_76
      rw [if_neg (by decide)]
      exact bad s tq hq out_r (kq_sn r2')
    | some q =>
      obtain ⟨p1, p2, p3⟩ := pe_b P
      obtain ⟨x1, x2, x3⟩ := r3' q P
      show ∃ s1 t1 : uS, (if nI (q + 1) < 0 then _ else _) = some s1 ∧ fb_X12_sender_76 true tq = some t1 ∧ _
      rw [if_neg (nI_pos (by omega))]
      unfold fb_X12_sender_76 fn_X0_areOptions fn_X12_parameters
      rw [if_pos rfl]
      have hc0 : rdC (wI s 1042 11 0) 1052 0 bs := hc.fr rfl rfl rfl
      have oo : out opI rNo s (wI s 1042 11 0) := out_I out_r ⟨rfl, rfl⟩
      obtain ⟨s2, c1, c2, c3⟩ := c_opts hl uFu (q + 1) false (wI s 1042 11 0) (by show bs.length < q + 1 + 1000000; omega) (by omega) hc0 (wI_e _ _ _ _)
      have hrq : rLn (wI tq 1079 128 0) bs := (hr.o r2' (by unfold snI; omega) (fun f => by unfold snF; omega)).w (by decide)
      have op : out psJ rNo tq (wI tq 1079 128 0) := out_I out_r ⟨rfl, by omega⟩
      obtain ⟨t2, d1, d2, d3⟩ := r_opts hl uFu (q + 1) 0 (wI tq 1079 128 0) (by show bs.length < q + 1 + 1000000; omega) (by omega) hrq (by rw [wI_o (by omega)]; exact x1) (wI_e _ _ _ _) (by decide)
      rw [show decide (4000 < 0) = false from rfl] at d1 d3
      have o2 : out opI rNo s s2 := out_t oo c2
      have q2 : out psJ rNo tq t2 := out_t op d2
      have hS2 : lnS gr sd rcs us s2 t2 := (hq.op o2).t q2 (fun k f z => by unfold psJ at z; unfold kqI; omega) (fun _ _ z => z.elim)
      have oq2 : out kqI kqF t t2 := out_t (kq_sn r2') (kq_ps q2)
      rw [c1, Option.bind_some, d1, Option.bind_some]
      cases O : prm bs uFu (q + 1) false with
      | none =>
        show ∃ s1 t1 : uS, (if false = true then _ else _) = some s1 ∧ (if false = true then _ else _) = some t1 ∧ _
        rw [if_neg (by decide), if_neg (by decide)]
        exact bad s2 t2 hS2 (kq_op o2) oq2
      | some b =>
        obtain ⟨mx, e1, e2, e3⟩ := d3 b O
        have f11 := c3 b O
        show ∃ s1 t1 : uS, (if true = true then _ else _) = some s1 ∧ (if true = true then _ else _) = some t1 ∧ _
        rw [if_pos rfl, if_pos rfl]
        have i3 : s2.I 1043 3 = nI (sdL sd).length := hS2.2.2.2.1.2.2.1.1
        have i115 : t2.I 1079 115 = bI sd.isSome := hS2.2.2.2.1.2.2.2.1
        rw [i3, i115, f11, e2]
        cases sd with
        | some y =>
          rw [if_neg (show ¬ nI (sdL (some y)).length ≤ 0 by show ¬ nI 1 ≤ 0; decide), if_neg (show ¬ bI (some y).isSome = 0 by show ¬ bI true = 0; decide)]
          obtain ⟨s1, t1, a1, a2, a3, a4, a5⟩ := t_an (w := kW_17) (w' := kW_175) hS2 rfl (by decide)
          rw [a1, Option.bind_some, a2, Option.bind_some]
          exact ⟨s1, t1, rfl, rfl, a3.p (Nat.le_refl _) (kq_cl (out_t (kq_op o2) a4)) (kq_rl (out_t oq2 a5))⟩
        | none =>
          rw [if_pos (show nI (sdL none).length ≤ 0 by show nI 0 ≤ 0; decide), if_pos (show bI (none : Option (List Nat)).isSome = 0 by decide)]
          cases b with
          | true =>
            have h4 : 4000 < mx := of_decide_eq_true e3
            rw [if_neg (show ¬ bI true = 0 by decide), if_neg (show ¬ nI mx ≤ 4000 from nI_ge (a := 4000) h4 (by omega))]
            obtain ⟨s1, t1, a1, a2, a3, a4, a5⟩ := t_an (w := kW_23) (w' := kW_159) hS2 rfl (by decide)
            rw [a1, Option.bind_some, a2, Option.bind_some]
            exact ⟨s1, t1, rfl, rfl, a3.p (Nat.le_refl _) (kq_cl (out_t (kq_op o2) a4)) (kq_rl (out_t oq2 a5))⟩
          | false =>
            have h4 : ¬ 4000 < mx := of_decide_eq_false e3
            rw [if_pos (show bI false = 0 by decide), if_pos (show nI mx ≤ 4000 from nI_le (b := 4000) (by omega) (by decide))]
            have y130 : t2.I 1079 130 = nI (sub bs 11 q).length := (q2.2.1 _ _ (by unfold psJ; omega)).trans x2
            have y48 : ∀ j : Nat, j < (sub bs 11 q).length → t2.F 1148 j = nI ((sub bs 11 q).getD j 0) := fun j hj => (q2.2.2 _ _ (fun z => z)).trans (x3 j hj)
            have hc2 : rdC s2 1052 0 bs := hc.fr o2.1.1 o2.1.2.2.2.2.1 (funext fun f => o2.2.2 _ _ (fun z => z))
            obtain ⟨s1, t1, a1, a2, a3⟩ := t_take hS2 hc2 hl p1 p2 p3 y130 y48
            rw [show nI 10 + 1 = nI 11 from rfl, nI_pred]
            rw [show (wI t2 1079 115 1).I 1079 130 = nI (sub bs 11 q).length by rw [wI_o (by omega)]; exact y130]
            exact ⟨s1, t1, a1, a2, a3.m (kq_cl (kq_op o2)) (kq_rl oq2)⟩
