/-! RCPT on both sides -/
def lwT : List Nat := [116, 111, 58]
def W4 : List (List Nat) := [kW_71, kW_72, kW_73, kW_74]
theorem c_W4 (x : List Nat) : plc x kW_11 0 0 true = wix x W4 0 := by
  rw [plc_wix]
  rfl
theorem r_userOf {t : uS} {x : List Nat} (h : r1 t x) : ∃ t1 : uS, fn_X12_userOf t = some (t1, oI (wix x W4 0)) ∧ r1 t1 x ∧ out twI twF t t1 := by
  have key : ∀ N : Nat, ∃ t1 : uS, fn_X12_userOf_2 (N + 5) 0 t = some (t1, oI (wix x W4 0)) ∧ r1 t1 x ∧ out twI twF t t1 := by
    intro N
    obtain ⟨t1, a1, a2, a3⟩ := r_oneIs (W := kW_71) h (by decide) (by decide)
    obtain ⟨t2, b1, b2, b3⟩ := r_oneIs (W := kW_72) a2 (by decide) (by decide)
    obtain ⟨t3, c1, c2, c3⟩ := r_oneIs (W := kW_73) b2 (by decide) (by decide)
    obtain ⟨t4, d1, d2, d3⟩ := r_oneIs (W := kW_74) c2 (by decide) (by decide)
    show ∃ t1 : uS, fb_X12_userOf_2 (fn_X12_userOf_2 (N + 4)) 0 t = _ ∧ _
    unfold fb_X12_userOf_2 fb_X12_userOf_39
    rw [if_neg (show ¬ (4 : Int32) ≤ 0 by decide), if_pos rfl, a1, Option.bind_some]
    unfold W4 wix
    cases e1 : eqW x kW_71 with
    | true => rw [if_pos rfl, if_pos rfl]; exact ⟨t1, rfl, a2, a3⟩
    | false =>
      dsimp only
      rw [if_neg (by decide), if_neg (by decide)]
      show ∃ t1' : uS, fb_X12_userOf_2 (fn_X12_userOf_2 (N + 3)) 1 t1 = _ ∧ _
      unfold fb_X12_userOf_2 fb_X12_userOf_39
      rw [if_neg (show ¬ (4 : Int32) ≤ 1 by decide), if_neg (show ¬ (1 : Int32) = 0 by decide), if_pos rfl, b1, Option.bind_some]
      unfold wix
      cases e2 : eqW x kW_72 with
      | true => rw [if_pos rfl, if_pos rfl]; exact ⟨t2, rfl, b2, out_t a3 b3⟩
      | false =>
        dsimp only
        rw [if_neg (by decide), if_neg (by decide)]
        show ∃ t1' : uS, fb_X12_userOf_2 (fn_X12_userOf_2 (N + 2)) 2 t2 = _ ∧ _
        unfold fb_X12_userOf_2 fb_X12_userOf_39
        rw [if_neg (show ¬ (4 : Int32) ≤ 2 by decide), if_neg (show ¬ (2 : Int32) = 0 by decide), if_neg (show ¬ (2 : Int32) = 1 by decide), if_pos rfl, c1, Option.bind_some]
        unfold wix
        cases e3 : eqW x kW_73 with
        | true => rw [if_pos rfl, if_pos rfl]; exact ⟨t3, rfl, c2, out_t (out_t a3 b3) c3⟩
        | false =>
          dsimp only
          rw [if_neg (by decide), if_neg (by decide)]
          show ∃ t1' : uS, fb_X12_userOf_2 (fn_X12_userOf_2 (N + 1)) 3 t3 = _ ∧ _
          unfold fb_X12_userOf_2 fb_X12_userOf_39
          rw [if_neg (show ¬ (4 : Int32) ≤ 3 by decide), if_neg (show ¬ (3 : Int32) = 0 by decide), if_neg (show ¬ (3 : Int32) = 1 by decide), if_neg (show ¬ (3 : Int32) = 2 by decide), d1, Option.bind_some]
          unfold wix
          cases e4 : eqW x kW_74 with
          | true => rw [if_pos rfl, if_pos rfl]; exact ⟨t4, rfl, d2, out_t (out_t (out_t a3 b3) c3) d3⟩
          | false =>
            dsimp only
            rw [if_neg (by decide), if_neg (by decide)]
            show ∃ t1' : uS, fb_X12_userOf_2 (fn_X12_userOf_2 N) 4 t4 = _ ∧ _
            unfold fb_X12_userOf_2
            rw [if_pos (show (4 : Int32) ≤ 4 by decide)]
            exact ⟨t4, rfl, d2, out_t (out_t (out_t a3 b3) c3) d3⟩
  exact key 999995
theorem W4_len {x : List Nat} {u : Nat} (h : wix x W4 0 = some u) : u < 4 ∧ 8 ≤ x.length := by
  have hu := (wix_lt h).2
  refine ⟨hu, ?_⟩
  have hd : ∀ w ∈ W4, lwc w ∧ 8 ≤ w.length := by unfold W4 lwc; decide +kernel
  have hq := wix_7 (x := x) W4 0 (fun w hw => (hd w hw).1) (by unfold W4; decide +kernel) u (by have : u < 0 + 4 := hu; omega)
  rw [h, Nat.zero_add, decide_eq_true rfl] at hq
  have hm : W4.getD u [] ∈ W4 := by rw [getD_ge _ _ (show u < W4.length by have : u < 0 + 4 := hu; show u < 4; omega)]; exact List.getElem_mem _
  have := (hd _ hm).2
  have := eqW_len hq
  omega
def pqR (bs : List Nat) : Option Nat := if stB bs 5 lwT = true then pth bs 8 else none
theorem pe_f (bs : List Nat) (p : Nat) : pe bs p false = pth bs p := by unfold pe; rw [if_neg (fun z => Bool.noConfusion z.1)]
/-- the reference up to the path -/
theorem r_rcp {t : uS} {bs : List Nat} (h : rLn t bs) (h127 : t.I 1079 127 = nI 4) (hsp : bs.length = 4 ∨ bs.getD 4 0 = 32) : ∃ tq : uS, fn_X12_recipient t = fb_X12_recipient_33 (decide (pqR bs = some (bs.length - 1))) tq ∧ out paI onF t tq ∧ (pqR bs = some (bs.length - 1) → r1 tq (sub bs 9 (bs.length - 1))) := by
  have hn := h.2.1
  have st := r_stands (w := kW_187) h h127 (by omega) (by unfold lwc; decide) (by decide)
  rw [show stB bs 4 kW_187 = stB bs 5 lwT from stB_sp (W := lwT) hsp] at st
  unfold fn_X12_recipient pqR
  rw [st, Option.bind_some]
  cases S : stB bs 5 lwT with
  | false =>
    dsimp only
    rw [if_neg (by decide), if_neg (by decide), if_neg (by decide), decide_eq_false (fun z => by cases z)]
    exact ⟨t, rfl, out_r, fun z => by cases z⟩
  | true =>
    have SS := S
    unfold stB at SS
    rw [Bool.and_eq_true, decide_eq_true_eq, decide_eq_true_eq] at SS
    have hL : 8 ≤ bs.length := SS.1
    rw [if_pos rfl, if_pos rfl, if_pos rfl]
    dsimp only
    obtain ⟨t0, ht0⟩ : ∃ t0, t0 = wI t 1079 127 (nI (4 + kW_187.length)) := ⟨_, rfl⟩
    rw [← ht0]
    have k3 : rLn t0 bs := by rw [ht0]; exact h.w (by decide)
    have k4 : t0.I 1079 127 = nI 8 := by rw [ht0, wI_e]; rfl
    have o0 : out paI onF t t0 := by rw [ht0]; exact out_I out_r ⟨rfl, by omega⟩
    obtain ⟨t1, a1, a2, a3⟩ := r_path k3 k4 hL
    have o1 : out paI onF t t1 := out_t o0 a2
    rw [a1, Option.bind_some]
    cases P : pth bs 8 with
    | none =>
      dsimp only
      rw [if_neg (by decide), decide_eq_false (fun z => by cases z)]
      exact ⟨t1, rfl, o1, fun z => by cases z⟩
    | some q =>
      obtain ⟨b1, b2⟩ := a3 q P
      obtain ⟨p1, p2, p3, p4, p5⟩ := pth_b P
      dsimp only
      rw [if_pos (by rfl)]
      have i126 : t1.I 1079 126 = nI bs.length := (a2.2.1 _ _ (by unfold paI; omega)).trans k3.1
      rw [b1, i126]
      by_cases c : q + 1 = bs.length
      · have cq : q = bs.length - 1 := by omega
        rw [if_pos (by rw [c]), decide_eq_true (by rw [cq])]
        exact ⟨t1, rfl, o1, fun _ => by rw [← cq]; exact b2⟩
      · rw [if_neg (by rw [nI_eq (by omega) (by omega)]; exact c), decide_eq_false (fun z => c (by have := Option.some.inj z; omega))]
        exact ⟨t1, rfl, o1, fun z => absurd (by have := Option.some.inj z; omega) c⟩
theorem kq_pa {t t1 : uS} (o : out paI onF t t1) : out kqI kqF t t1 := out_w o (fun k f z => by unfold paI at z; unfold kqI; omega) (fun k f z => by unfold onF at z; unfold kqF qR; omega)
/-- a recipient is taken -/
theorem t_rtk {gr : Bool} {sd : Option (List Nat)} {rcs : List (List Nat)} {us : List Nat} {s t : uS} {bs : List Nat} {q u : Nat} (h : lnS gr sd rcs us s t) (hsd : sd.isSome = true) (hc : rdC s 1052 0 bs) (hl : bs.length ≤ 500) (hq1 : 9 ≤ q) (hq2 : q < bs.length) (ha : adO (sub bs 9 q)) (h1 : r1 t (sub bs 9 q)) (hu : plc (sub bs 9 q) kW_11 0 0 true = some u) (hu4 : u < 4) (hr4 : rcs.length < 4) : ∃ s1 t1 : uS, ((fn_X9_putRange 1047 1052 (nI 9) (nI q) s).bind fun s13 => (fn_X9_close 1047 s13).bind fun s15 => (fn_X5_line 1040 kW_28 s15).bind fun s18 => some s18) = some s1 ∧ ((iput 20 t 1144 (t.I 1079 117) (nI u)).bind fun s7 => (iput 20 s7 1146 (s7.I 1079 117) (s7.I 1079 21)).bind fun s9 => fn_X12_recipient_129 uFu 0 s9) = some t1 ∧ lnP (rcs.length + 1) s t s1 t1 := by
  have hsl := sub_len (x := bs) (a := 9) (b := q) (by omega) hq1
  have hx := adO_le ha
  have hby : bys (sub bs 9 q) := sub_by hc.2.1
  obtain ⟨g1, g2, g3, ⟨v1, v2, v3, v4, v5, ⟨b4, v6, v7⟩, v8, v9, v10⟩, z1, z2, z3, z4, z5, z6⟩ := h
  obtain ⟨s2, a1, a2, a3⟩ := tz_range (K := 1047) (a := 9) (b := q) uTx_rc v7 hc (show (uCl s 1052).2 ≤ 10000 by rw [uCl_c (by decide)]; decide) (by decide) (by omega) hq1 (by omega) (show b4 + ([] : List Nat).length + (q - 9) ≤ 404 by show b4 + 0 + (q - 9) ≤ 404; omega)
  rw [Nat.zero_add, Nat.zero_add] at a1
  obtain ⟨s3, b1, b2, b3⟩ := tz_closeO uTx_rc a2 hr4
  generalize sub bs 9 q = y at *
  rw [List.nil_append] at b2
  have o3 : out (tI 1047) (tF 1047) s s3 := out_t (out_w a3 (fun k f z => z.1) (fun k f z => Or.inl z)) b3
  -- the reference
  obtain ⟨w1, w2, w3, w4⟩ := v8
  rw [w3, p_1144 hr4, Option.bind_some]
  have i117 : (wF t 1144 rcs.length (nI u)).I 1079 117 = nI rcs.length := w3
  have i21 : (wF t 1144 rcs.length (nI u)).I 1079 21 = nI y.length := h1.1
  rw [i117, i21, p_1146 hr4, Option.bind_some]
  obtain ⟨t0, ht0⟩ : ∃ t0, t0 = wF (wF t 1144 rcs.length (nI u)) 1146 rcs.length (nI y.length) := ⟨_, rfl⟩
  rw [← ht0]
  have j117 : t0.I 1079 117 = nI rcs.length := by rw [ht0]; exact w3
  have j21 : t0.I 1079 21 = nI y.length := by rw [ht0]; exact h1.1
  have f93 : ∀ j : Nat, j < y.length → t0.F 1093 j = nI (y.getD j 0) := fun j hj => by rw [ht0, wF_o (by omega), wF_o (by omega)]; exact h1.2.2.2 j hj
  have e : fn_X12_recipient_129 uFu 0 t0 = (fn_X12_line 4 kW_190 (wI (cpy t0 1145 (101 * rcs.length) 0 y.length (fun j => nI (y.getD j 0))) 1079 117 (nI (rcs.length + 1)))).bind fun s3 => some s3 := by
    refine cpy0 (F := fun N x s => fn_X12_recipient_129 N x s) (fin := fun s => (fn_X12_line 4 kW_190 (wI s 1079 117 (nI (rcs.length + 1)))).bind fun s3 => some s3) ?_ ?_ (by show _ < 1000000; omega)
    · intro N i hi
      show fb_X12_recipient_129 (fn_X12_recipient_129 N) (nI i) _ = _
      unfold fb_X12_recipient_129
      rw [cpy_I, j21, if_neg (nI_ge (by omega) (by omega)), g_1093 (by omega), Option.bind_some, cpy_Fo (by decide), f93 i hi, j117, show (101 : Int32) = nI 101 from rfl, nI_mul, nI_add, p_1145 (by omega), Option.bind_some, nI_1 i]
    · intro N
      show fb_X12_recipient_129 (fn_X12_recipient_129 N) (nI y.length) _ = _
      unfold fb_X12_recipient_129
      rw [cpy_I, j21, if_pos (nI_le (Nat.le_refl _) (by omega)), j117, nI_1]
  obtain ⟨t2, ht2⟩ : ∃ t2, t2 = wI (cpy t0 1145 (101 * rcs.length) 0 y.length (fun j => nI (y.getD j 0))) 1079 117 (nI (rcs.length + 1)) := ⟨_, rfl⟩
  rw [← ht2] at e
  have o2 : out (fun k f => k = 1079 ∧ f = 117) (fun k _ => k = 1144 ∨ k = 1145 ∨ k = 1146) t t2 := by
    refine out_t (s1 := t0) ?_ ?_
    · rw [ht0]; exact out_F (out_F out_r (Or.inl rfl)) (Or.inr (Or.inr rfl))
    · rw [ht2]; exact out_I (out_cpy (fun _ => Or.inr (Or.inl rfl))) ⟨rfl, rfl⟩
  have q3 : pQ1 4 s3 t2 := pQ_o g1 o3 o2 (fun k f a => ⟨by unfold tI; omega, by unfold tF; omega⟩) (fun k f a => by omega)
  have hF : ∀ k f : Nat, t2.F k f = if k = 1145 ∧ 101 * rcs.length ≤ f ∧ f < 101 * rcs.length + y.length then nI (y.getD (f - 101 * rcs.length) 0) else t0.F k f := fun k f => by rw [ht2, wI_Fe, cpy_F, Nat.add_zero]
  have elr : (rcs ++ [y]).length = rcs.length + 1 := by rw [List.length_append]; rfl
  have elu : (us ++ [u]).length = us.length + 1 := by rw [List.length_append]; rfl
  have hRc : rRc t2 (rcs ++ [y]) (us ++ [u]) := by
    refine ⟨by rw [elr, elu, w1], by rw [elr]; omega, by rw [elr, ht2, wI_e], fun i hi => ?_⟩
    rw [elr] at hi
    by_cases c : i < rcs.length
    · obtain ⟨d1, d2, d3, d4, d5, d6⟩ := w4 i c
      rw [getN_app c, getDn_app (by omega)]
      refine ⟨d1, d2, d3, ?_, ?_, fun j hj => ?_⟩
      · rw [hF, if_neg (by omega), ht0, wF_o (by omega), wF_o (by omega)]; exact d4
      · rw [hF, if_neg (by omega), ht0, wF_o (by omega), wF_o (by omega)]; exact d5
      · rw [hF, if_neg (by omega), ht0, wF_o (by omega), wF_o (by omega)]; exact d6 j hj
    · have hi2 : i = rcs.length := by omega
      subst hi2
      rw [getN_end, show (us ++ [u]).getD rcs.length 0 = u by rw [← w1]; exact getDn_end]
      refine ⟨hu4, hx, hby, ?_, ?_, fun j hj => ?_⟩
      · rw [hF, if_neg (by omega), ht0, wF_o (by omega), wF_e]
      · rw [hF, if_neg (by omega), ht0, wF_e]
      · rw [hF, if_pos ⟨rfl, by omega, by omega⟩, Nat.add_sub_cancel_left]
  have hT : tS gr sd (rcs ++ [y]) (us ++ [u]) s3 t2 := by
    refine ⟨(o3.2.1 _ _ (by unfold tI; omega)).trans v1, (o2.2.1 _ _ (by omega)).trans v2, v3.ou o3 (fun f => by unfold tI; omega) (fun j f _ _ => by unfold tF; omega), (o2.2.1 _ _ (by omega)).trans v4, fun x hx' => ⟨(v5 x hx').1, (v5 x hx').2.ou o2 (by omega) (fun f => by omega)⟩, ⟨b4 + y.length, by rw [elr]; omega, b2⟩, hRc, fun i hi => ?_, fun _ => hsd⟩
    rw [elr] at hi
    by_cases c : i < rcs.length
    · rw [getN_app c, getDn_app (by omega)]; exact v9 i c
    · have hi2 : i = rcs.length := by omega
      subst hi2
      rw [getN_end, show (us ++ [u]).getD rcs.length 0 = u by rw [← w1]; exact getDn_end]
      exact ⟨hu, ha⟩
  have hS : lnS gr sd (rcs ++ [y]) (us ++ [u]) s3 t2 := ⟨q3, (o3.2.1 _ _ (by unfold tI; omega)).trans g2, (o2.2.1 _ _ (by omega)).trans g3, hT, (o3.2.1 _ _ (by unfold tI; omega)).trans z1, (o3.2.1 _ _ (by unfold tI; omega)).trans z2, (o3.2.1 _ _ (by unfold tI; omega)).trans z3, (o2.2.1 _ _ (by omega)).trans z4, (o2.2.1 _ _ (by omega)).trans z5, (o2.2.1 _ _ (by omega)).trans z6⟩
  obtain ⟨s4, t4, c1, c2, c3, c4, c5⟩ := t_an (w := kW_28) (w' := kW_190) hS rfl (by decide)
  refine ⟨s4, t4, ?_, ?_, c3.p (by rw [elr]; exact Nat.le_refl _) (out_t (out_w o3 (fun k f z => by unfold tI at z; unfold clC; omega) (fun k f z => by unfold tF at z; unfold clC; omega)) (kq_cl c4)) (out_t (out_w o2 (fun k f z => by unfold rlI; omega) (fun k f z => by unfold rlG qR; omega)) (kq_rl c5))⟩
  · rw [a1, Option.bind_some, b1, Option.bind_some, c1, Option.bind_some]
  · rw [e, c2, Option.bind_some]
theorem lnP.r {R R1 : Nat} {s t s1 t1 : uS} (h : lnP R s t s1 t1) (hR : R ≤ R1) : lnP R1 s t s1 t1 := by
  obtain ⟨a, b, c, d⟩ := h
  refine ⟨a, b, c, ?_⟩
  rcases d with d | ⟨d1, d2, gr, sd, rcs, us, d3, d4, d5⟩
  · exact Or.inl d
  · exact Or.inr ⟨d1, d2, gr, sd, rcs, us, d3, Nat.le_trans d4 hR, d5⟩
theorem t_rcpt {gr : Bool} {sd : Option (List Nat)} {rcs : List (List Nat)} {us : List Nat} {s t : uS} {bs : List Nat} (h : lnS gr sd rcs us s t) (hc : rdC s 1052 0 bs) (hr : rLn t bs) (hsp : bs.length = 4 ∨ bs.getD 4 0 = 32) (h127 : t.I 1079 127 = nI 4) : ∃ (s1 t1 : uS) (R : Nat), fn_X0_answerRcpt (nI bs.length) s = some s1 ∧ fn_X12_recipient t = some t1 ∧ lnP R s t s1 t1 ∧ (R = rcs.length ∨ R = rcs.length + 1 ∧ 18 ≤ bs.length) := by
  have hl := hr.2.1
  obtain ⟨tq, r1', r2', r3'⟩ := r_rcp hr h127 hsp
  have hq : lnS gr sd rcs us s tq := h.t r2' (fun k f z => by unfold paI at z; unfold kqI; omega) (fun k f z => by unfold onF at z; omega)
  have oq : out kqI kqF t tq := kq_pa r2'
  have bad : ∃ (s1 t1 : uS) (R : Nat), ((fn_X5_line 1040 kW_18 s).bind fun s30 => some s30) = some s1 ∧ fb_X12_recipient_33 false tq = some t1 ∧ lnP R s t s1 t1 ∧ (R = rcs.length ∨ R = rcs.length + 1 ∧ 18 ≤ bs.length) := by
    obtain ⟨s1, t1, a1, a2, a3⟩ := t_syn hq
    refine ⟨s1, t1, _, a1, ?_, a3.m out_r (kq_rl oq), Or.inl rfl⟩
    unfold fb_X12_recipient_33
    rw [if_neg (by decide)]
    exact a2
  unfold fn_X0_answerRcpt
  rw [c_pstart (w := kW_25) (W := lwT) hc hl (by decide) (by decide) (by decide) (by unfold lwc; decide) (by decide), Option.bind_some, r1']
  unfold pqR at *
  cases S : stB bs 5 lwT with
  | false =>
    rw [S] at r3'
    rw [if_neg (by decide), if_neg (by decide), decide_eq_false (fun z => by cases z)]
    have e : fn_X0_pathEnd (-1) (nI bs.length) false s = some (-1) := by
      unfold fn_X0_pathEnd fb_X0_pathEnd_19
      rw [if_neg (by decide), if_pos (by decide)]
    rw [e, Option.bind_some, if_neg (fun z => nI_nm (by omega) z.symm)]
    exact bad
  | true =>
    have SS := S
    unfold stB at SS
    rw [Bool.and_eq_true, decide_eq_true_eq, decide_eq_true_eq] at SS
    have hL : 8 ≤ bs.length := SS.1
    rw [S] at r3'
    rw [if_pos rfl] at r3' ⊢
    rw [if_pos rfl]
    rw [show (5 : Nat) + kW_25.length = 8 from rfl, c_pend hc hl hL, Option.bind_some, pe_f]
    cases P : pth bs 8 with
    | none =>
      rw [decide_eq_false (fun z => by cases z)]
      show ∃ (s1 t1 : uS) (R : Nat), (if (-1 : Int32) = nI bs.length then _ else _) = some s1 ∧ _
      rw [if_neg (fun z => nI_nm (by omega) z.symm)]
      exact bad
    | some q =>
      obtain ⟨p1, p2, p3, p4, p5⟩ := pth_b P
      show ∃ (s1 t1 : uS) (R : Nat), (if nI (q + 1) = nI bs.length then _ else _) = some s1 ∧ _
      by_cases c : q + 1 = bs.length
      · have cq : bs.length - 1 = q := by omega
        rw [cq] at r3' ⊢
        have x1 := r3' P
        rw [if_pos (by rw [c]), decide_eq_true rfl]
        obtain ⟨t2, y1, y2, y3⟩ := r_userOf x1
        have hS2 : lnS gr sd rcs us s t2 := hq.t y3 (fun k f z => by unfold twI at z; unfold kqI; omega) (fun k f z => by unfold twF at z; omega)
        have o2 : out kqI kqF t t2 := out_t oq (kq_tw y3)
        have i3 : s.I 1043 3 = nI (sdL sd).length := h.2.2.2.1.2.2.1.1
        have i115 : t2.I 1079 115 = bI sd.isSome := hS2.2.2.2.1.2.2.2.1
        unfold fb_X12_recipient_33
        rw [if_pos rfl, y1, Option.bind_some]
        dsimp only
        rw [i3, i115]
        have hsl := sub_len (x := bs) (a := 9) (b := q) (by omega) (by omega)
        cases sd with
        | none =>
          rw [if_pos (show nI (sdL none).length = 0 by show nI 0 = 0; decide), if_pos (show bI (none : Option (List Nat)).isSome = 0 by decide)]
          obtain ⟨s1, t1, a1, a2, a3, a4, a5⟩ := t_an (w := kW_17) (w' := kW_175) hS2 rfl (by decide)
          rw [a1, Option.bind_some, a2, Option.bind_some]
          exact ⟨s1, t1, _, rfl, rfl, a3.p (Nat.le_refl _) (kq_cl a4) (kq_rl (out_t o2 a5)), Or.inl rfl⟩
        | some snd =>
          rw [if_neg (show ¬ nI (sdL (some snd)).length = 0 by show ¬ nI 1 = 0; decide), if_neg (show ¬ bI (some snd).isSome = 0 by show ¬ bI true = 0; decide)]
          have cp := c_place (W := kW_11) (hc.sub (a := 9) (b := q) (by omega) (by omega)) (by decide) (by decide)
          rw [Nat.zero_add, show 9 + (sub bs 9 q).length = q by omega, c_W4] at cp
          rw [show nI 8 + 1 = nI 9 from rfl, nI_pred, cp, Option.bind_some]
          cases U : wix (sub bs 9 q) W4 0 with
          | none =>
            rw [if_neg (show ¬ (0 : Int32) ≤ oI none by decide), if_neg (show ¬ (0 : Int32) ≤ oI none by decide)]
            obtain ⟨s1, t1, a1, a2, a3, a4, a5⟩ := t_an (w := kW_26) (w' := kW_188) hS2 rfl (by decide)
            rw [a1, Option.bind_some, a2, Option.bind_some]
            exact ⟨s1, t1, _, rfl, rfl, a3.p (Nat.le_refl _) (kq_cl a4) (kq_rl (out_t o2 a5)), Or.inl rfl⟩
          | some u =>
            obtain ⟨u1, u2⟩ := W4_len U
            have hge : (0 : Int32) ≤ oI (some u) := nI_pos' (by omega)
            rw [if_pos hge, if_pos hge]
            obtain ⟨b4, hb4, h47⟩ := hS2.2.2.2.1.2.2.2.2.2.1
            have h117 : t2.I 1079 117 = nI rcs.length := hS2.2.2.2.1.2.2.2.2.2.2.1.2.2.1
            have hr4 := hS2.2.2.2.1.2.2.2.2.2.2.1.2.1
            by_cases c4 : rcs.length = 4
            · rw [h47.1, h117, c4, if_pos (show nI 4 = 4 from rfl), if_pos (show nI 4 = 4 from rfl)]
              obtain ⟨s1, t1, a1, a2, a3, a4, a5⟩ := t_an (w := kW_27) (w' := kW_189) hS2 rfl (by decide)
              rw [a1, Option.bind_some, a2, Option.bind_some]
              exact ⟨s1, t1, _, rfl, rfl, a3.p (Nat.le_refl _) (kq_cl a4) (kq_rl (out_t o2 a5)), Or.inl c4⟩
            · have n4 : ¬ nI rcs.length = 4 := fun z => c4 ((nI_eq (b := 4) (by omega) (by decide)).mp z)
              rw [h47.1, if_neg n4, if_neg (by rw [h117]; exact n4)]
              obtain ⟨s1, t1, a1, a2, a3⟩ := t_rtk hS2 rfl hc hl (by omega) (by omega) (Or.inr p5) y2 (by rw [c_W4]; exact U) u1 (by omega)
              exact ⟨s1, t1, _, a1, a2, a3.m out_r (kq_rl o2), Or.inr ⟨rfl, by omega⟩⟩
      · rw [if_neg (by rw [nI_eq (by omega) (by omega)]; exact c), decide_eq_false (fun z => c (by have := Option.some.inj z; omega))]
        exact bad
