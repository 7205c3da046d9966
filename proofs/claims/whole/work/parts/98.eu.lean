/-! the reference: how a leaf test comes out; the same on both sides -/
theorem r_tst27 {n f L r : Nat} {ts : List (List Nat)} {a : List Nat} (hn : n < 520) (hf : f + L ≤ ts.length) (hr : r < 6) : ∀ (d N q : Nat) (b : Bool) (t : uS), q + d = L → d + 1 ≤ N → rSt t ts → r1 t a → t.F 1104 n = nI f → t.F 1105 n = nI L → t.F 1110 n = nI r → ∃ t1 : uS, fn_X12_tested_27 N (nI n) b (nI q) t = some (t1, b || anyB (fun k => stN r (nmC a (ts.getD (f + k) []))) d q) ∧ out twI twF t t1 := by
  intro d
  induction d with
  | zero =>
    intro N q b t hq hN hs h1 h4 h5 hr0
    obtain ⟨n1, rfl⟩ : ∃ n1, N = n1 + 1 := ⟨N - 1, by omega⟩
    have hl := hs
    obtain ⟨bg, -, -, l3, -⟩ := hl
    refine ⟨t, ?_, out_r⟩
    show fb_X12_tested_27 _ _ _ _ _ = _
    unfold fb_X12_tested_27 anyB
    rw [g_1105 hn, Option.bind_some, h5, if_pos (nI_le (by omega) (by omega)), Bool.or_false]
  | succ d ih =>
    intro N q b t hq hN hs h1 h4 h5 hr0
    obtain ⟨n1, rfl⟩ : ∃ n1, N = n1 + 1 := ⟨N - 1, by omega⟩
    have hs0 := hs
    obtain ⟨bg, s1, s2, l3, s4⟩ := hs
    obtain ⟨p, p1, p2, p3, pl, p4⟩ := s1 (f + q) (by omega)
    have h8 := s4 (f + q)
    rw [anyB_s, ← Bool.or_assoc]
    generalize hy : ts.getD (f + q) [] = y at *
    show ∃ t1 : uS, fb_X12_tested_27 (fn_X12_tested_27 n1) _ _ _ _ = _ ∧ _
    unfold fb_X12_tested_27
    rw [g_1105 hn, Option.bind_some, h5, if_neg (nI_ge (by omega) (by omega)), g_1104 hn, Option.bind_some, h4, nI_add, g_1117 (by omega), Option.bind_some, p3]
    have e : fn_X12_tested_61 (fn_X12_tested_27 n1) uFu (nI n) b (nI q) (nI (f + q)) 0 (wI t 1079 23 (nI y.length)) = ((fun s => if b = true then (fn_X12_tested_27 n1 (nI n) true (nI q + 1) s) else ((fn_X12_numeric s).bind fun v3 => (iget 20 s 1110 (nI n)).bind fun v5 => (fn_X12_related v3 v5 s).bind fun v7 => if v7 = true then (fn_X12_tested_27 n1 (nI n) true (nI q + 1) s) else (fn_X12_tested_27 n1 (nI n) false (nI q + 1) s))) : uS → Option (uS × Bool)) (cpy (wI t 1079 23 (nI y.length)) 1094 0 0 y.length (fun i => nI (y.getD i 0))) := by
      refine cpy0 (F := fun N x s => fn_X12_tested_61 (fn_X12_tested_27 n1) N (nI n) b (nI q) (nI (f + q)) x s) (fin := fun s => if b = true then (fn_X12_tested_27 n1 (nI n) true (nI q + 1) s) else ((fn_X12_numeric s).bind fun v3 => (iget 20 s 1110 (nI n)).bind fun v5 => (fn_X12_related v3 v5 s).bind fun v7 => if v7 = true then (fn_X12_tested_27 n1 (nI n) true (nI q + 1) s) else (fn_X12_tested_27 n1 (nI n) false (nI q + 1) s))) ?_ ?_ (by show _ < 1000000; omega)
      · intro N i hi
        show fb_X12_tested_61 (fn_X12_tested_27 n1) (fn_X12_tested_61 (fn_X12_tested_27 n1) N) _ _ _ _ (nI i) _ = _
        unfold fb_X12_tested_61
        rw [cpy_I, wI_e, if_neg (nI_ge (by omega) (by omega)), g_1116 (by omega), Option.bind_some, cpy_Fo (by decide), wI_F, p2, nI_add, g_1097 (by omega), Option.bind_some, cpy_Fo (by decide), wI_F, p4 i hi, p_1094 (by omega), Option.bind_some, nI_1 i, Nat.zero_add]
      · intro N
        show fb_X12_tested_61 (fn_X12_tested_27 n1) (fn_X12_tested_61 (fn_X12_tested_27 n1) N) _ _ _ _ (nI y.length) _ = _
        unfold fb_X12_tested_61
        rw [cpy_I, wI_e, if_pos (nI_le (Nat.le_refl _) (by omega))]
    rw [e]
    dsimp only
    have oT : out twI twF t (cpy (wI t 1079 23 (nI y.length)) 1094 0 0 y.length (fun i => nI (y.getD i 0))) := out_t (out_I out_r ⟨rfl, rfl⟩) (out_cpy (fun _ => rfl))
    generalize hT : cpy (wI t 1079 23 (nI y.length)) 1094 0 0 y.length (fun i => nI (y.getD i 0)) = T at *
    have hT2 : r2 T y := by
      rw [← hT]
      refine ⟨by rw [cpy_I, wI_e], pl, h8, fun i hi => ?_⟩
      have := cpy_Fe (s := wI t 1079 23 (nI y.length)) (K := 1094) (off := 0) (i := 0) (L := y.length) (g := fun i => nI (y.getD i 0)) (Nat.zero_le i) hi
      rw [Nat.zero_add] at this
      exact this
    have hT1 : r1 T a := h1.mk (oT.2.1 _ _ (by unfold twI; omega)) (fun j => oT.2.2 _ _ (by unfold twF; omega))
    have go : ∀ B : Bool, ∃ t1 : uS, fn_X12_tested_27 n1 (nI n) B (nI q + 1) T = some (t1, B || anyB (fun k => stN r (nmC a (ts.getD (f + k) []))) d (q + 1)) ∧ out twI twF t t1 := by
      intro B
      have F : ∀ k j : Nat, ¬ twF k j → T.F k j = t.F k j := fun k j hk => oT.2.2 k j hk
      obtain ⟨t1, q1, q2⟩ := ih n1 (q + 1) B T (by omega) (by omega) (hs0.fr (fun k j _ => F _ _ (by unfold twF; omega))) hT1 ((F _ _ (by unfold twF; omega)).trans h4) ((F _ _ (by unfold twF; omega)).trans h5) ((F _ _ (by unfold twF; omega)).trans hr0)
      exact ⟨t1, by rw [nI_1]; exact q1, out_t oT q2⟩
    cases b with
    | true => exact go true
    | false =>
      obtain ⟨v, v1, v2⟩ := r_ordN hT1 hT2
      rw [if_neg (by decide), v1, Option.bind_some, g_1110 hn, Option.bind_some, oT.2.2 _ _ (by unfold twF; omega), hr0, r_related hr v2, Option.bind_some, Bool.false_or]
      have := go (stN r (nmC a y))
      revert this
      cases stN r (nmC a y) <;> exact id
theorem r_tstd {n m r c p f L x : Nat} {ts : List (List Nat)} {t : uS} {b : Bool} (h : rCx t n m r c p f L ts) (ha : rAc t x b) (hx : x < 100000) : ∃ t1 : uS, fn_X12_tested (nI n) t = some (t1, if m = 3 then ctB r x ts f L else b) ∧ out leI leF t t1 := by
  have hm5 := h.1.2.2.1
  unfold fn_X12_tested
  rw [g_1109 h.1.1, Option.bind_some, h.1.2.1]
  by_cases z : m = 3
  · rw [if_pos (show nI m = 3 by rw [z]; rfl), if_pos z, ha.1]
    obtain ⟨t1, a1, a2, a3, a4⟩ := r_oneNumber hx t
    rw [a1, Option.bind_some]
    have hc := h.o (leO2 a4)
    obtain ⟨g1, g2⟩ := hc.1.2.2.2.1 (by omega)
    have dll := dl_len x (hp x)
    have hp4 := hp_le x
    obtain ⟨t2, b1, b2⟩ := r_tst27 (a := dl x (hp x)) h.1.1 h.2.2.2.2.1 g2 L 1000000 0 false t1 (by omega) (by have := h.2.2.2.2.2.1; omega) hc.2.1 ⟨a2, by omega, fun j => by have := dl_lt x (hp x) j; omega, a3⟩ hc.2.2.1 hc.2.2.2.1 g1
    rw [show fn_X12_tested_27 uFu (nI n) false 0 t1 = _ from b1, Bool.false_or]
    exact ⟨t2, rfl, out_t (leO2 a4) (leO4 b2)⟩
  · rw [if_neg (show ¬ nI m = 3 from nI_ne (b := 3) (by omega) (by decide) z), if_neg z, ha.2]
    refine ⟨t, ?_, out_r⟩
    cases b <;> rfl
theorem any_B {P : List Nat → Bool} : ∀ (l : List (List Nat)) (i : Nat) (w : List (List Nat)), (∀ j : Nat, l.getD j [] = w.getD (i + j) []) → l.any P = anyB (fun j => P (w.getD j [])) l.length i
  | [], _, _, _ => rfl
  | x :: l, i, w, h => by
    have h0 := h 0
    show (P x || l.any P) = (P (w.getD i []) || anyB (fun j => P (w.getD j [])) l.length (i + 1))
    rw [any_B l (i + 1) w (fun j => by have := h (j + 1); rw [show i + (j + 1) = i + 1 + j by omega] at this; exact this)]
    rw [Nat.add_zero] at h0
    rw [← h0]; rfl
theorem vA_hd {m r c p f L : Nat} {ts vs : List (List Nat)} (hm : m ≠ 3) : vA m r c p ts f L vs = hdF m r (decide (c = 2)) (decide (c = 1)) (vs.map (ptV p)) ts f L := by
  unfold vA hdF
  have e : vs.any (fun v => vM m r (decide (c = 2)) (decide (c = 1)) ts f L (ptV p v)) = (vs.map (ptV p)).any (fun v => anyB (fun k => mB m r (decide (c = 2)) (fl (decide (c = 1)) v) (fl (decide (c = 1)) (ts.getD (f + k) []))) L 0) := by
    rw [List.any_map]
    congr 1
    funext v
    show vM m r _ _ ts f L (ptV p v) = _
    unfold vM
    rw [decide_eq_true hm, Bool.true_and]; rfl
  rw [e]
  exact any_B _ 0 _ (fun j => by rw [Nat.zero_add])
/-- a test as the reference holds it -/
def rNd (t : uS) (n κ m r c p fN aN f a d : Nat) (ov : Bool) (ts : List (List Nat)) : Prop := n < 520 ∧ t.F 1098 n = nI (κ + 9) ∧ rSt t ts ∧ (κ ≤ 14 → rCx t n m r (cmpM c) p f a ts ∧ (κ ≠ 12 → κ ≠ 13 → p = 0)) ∧ (κ ≤ 13 ∨ κ = 15 → t.F 1102 n = nI fN ∧ t.F 1103 n = nI aN ∧ fN + aN ≤ ts.length) ∧ (κ = 16 → d < 2 ^ 31 ∧ t.F 1113 n = nI d ∧ t.F 1109 n = bI ov)
/-- the message as the reference holds it -/
def rMs (t : uS) (fs : List (List Nat × List Nat)) (snd rcp : List Nat) (sz : Nat) : Prop := rFl t fs ∧ rTe t 93 1137 snd ∧ rTe t 91 1136 rcp ∧ t.I 1079 13 = nI sz ∧ sz ≤ 4000
def adO (v : List Nat) : Prop := v = [] ∨ (adr v).isSome = true
theorem r_leaf {R : Int32 → uS → Option (uS × Bool)} {t : uS} {n κ m r c p fN aN f a d g sz : Nat} {ov : Bool} {ts : List (List Nat)} {fs : List (List Nat × List Nat)} {snd rcp : List Nat} (hκ : 11 ≤ κ ∧ κ ≤ 21 ∧ κ ≠ 17 ∧ κ ≠ 18 ∧ κ ≠ 19) (hc3 : c < 3) (hN : rNd t n κ m r c p fN aN f a d ov ts) (hM : rMs t fs snd rcp sz) (ho : fsO fs) (as_ : adO snd) (ar : adO rcp) (hI : t.I 1079 94 = nI g) (hg : g < 32) : ∃ t1 : uS, fn_X12_holds R (nI n) t = some (t1, lfV κ m r c p fN aN f a d ov ts fs snd rcp g sz) ∧ out leI leF t t1 := by
  obtain ⟨hn, n1, n0, n2, n3, n4⟩ := hN
  obtain ⟨M1, M2, M3, M4, M5⟩ := hM
  unfold fn_X12_holds
  have o0 : out leI leF t (wI (wI t 1079 109 0) 1079 110 0) := out_I (out_I out_r ⟨rfl, by omega⟩) ⟨rfl, by omega⟩
  have ha0 : rAc (wI (wI t 1079 109 0) 1079 110 0) 0 false := ⟨by rw [wI_o (by omega), wI_e]; rfl, wI_e _ _ _ _⟩
  generalize hT : wI (wI t 1079 109 0) 1079 110 0 = T at *
  have F : ∀ k j : Nat, ¬ leF k j → T.F k j = t.F k j := fun k j hk => o0.2.2 k j hk
  have k0 : T.F 1098 n = nI (κ + 9) := (F _ _ (by unfold leF; omega)).trans n1
  rw [g_1098 hn, Option.bind_some, k0]
  have M1' := M1.o o0 (by unfold leI; omega) (fun _ _ _ _ => by unfold leF; omega)
  have llen := lvs_len (κ := κ) (f := fN) (a := aN) (g := g) (ts := ts) (snd := snd) (rcp := rcp) ho
  have hmc : cmpM c < 3 ∧ decide (cmpM c = 2) = decide (c = 2) ∧ decide (cmpM c = 1) = decide (c = 0) := by
    have : ∀ c : Fin 3, cmpM c.1 < 3 ∧ decide (cmpM c.1 = 2) = decide (c.1 = 2) ∧ decide (cmpM c.1 = 1) = decide (c.1 = 0) := by decide
    exact this ⟨c, hc3⟩
  -- tests of values
  have val : κ ≤ 14 → ∀ t2 : uS, out leI leF T t2 → rAc t2 (0 + (lvs κ fN aN ts fs snd rcp g).length) (false || vA m r (cmpM c) p ts f a (lvs κ fN aN ts fs snd rcp g)) → ∃ t3 : uS, ((fn_X12_tested (nI n) t2).bind fun r5 => some (r5.1, r5.2)) = some (t3, lfV κ m r c p fN aN f a d ov ts fs snd rcp g sz) ∧ out leI leF t t3 := by
    intro k14 t2 o2 g2
    have hx := (n2 k14).1
    obtain ⟨t3, q1, q2⟩ := r_tstd ((hx.o o0).o o2) g2 (by omega)
    rw [q1, Option.bind_some]
    refine ⟨t3, ?_, out_t o0 (out_t o2 q2)⟩
    congr 2
    unfold lfV
    dsimp only
    rw [if_neg (show ¬ κ = 15 by omega), if_neg (show ¬ κ = 16 by omega), if_neg (show ¬ κ = 20 by omega), if_neg (show ¬ κ = 21 by omega)]
    by_cases z : m = 3
    · rw [if_pos z, if_pos z, Nat.zero_add]
    · rw [if_neg z, if_neg z, Bool.false_or, vA_hd z, hmc.2.1, hmc.2.2]
  have nN : κ ≤ 13 ∨ κ = 15 → T.F 1102 n = nI fN ∧ T.F 1103 n = nI aN ∧ fN + aN ≤ ts.length := fun z => ⟨(F _ _ (by unfold leF; omega)).trans (n3 z).1, (F _ _ (by unfold leF; omega)).trans (n3 z).2.1, (n3 z).2.2⟩
  have hdr : κ = 11 ∨ κ = 12 → ∃ t1 : uS, ((fn_X12_headers (nI n) T).bind fun s3 => (fn_X12_tested (nI n) s3).bind fun r5 => some (r5.1, r5.2)) = some (t1, lfV κ m r c p fN aN f a d ov ts fs snd rcp g sz) ∧ out leI leF t t1 := by
    intro z
    obtain ⟨x1, x2, x3⟩ := nN (Or.inl (by omega))
    have b3 := tot_len fs
    have b4 := ho.1
    obtain ⟨t2, w1, w2, w3⟩ := r_hdrs (n := n) (m := m) (r := r) (c := cmpM c) (p := p) (f := f) (L := a) (ts := ts) ho z (fun y => (n2 (by omega)).2 (by omega) (by omega)) x3 fs 1000000 0 T 0 false rfl (Nat.zero_le _) (by omega) ((n2 (by omega)).1.o o0) M1' k0 x1 x2 ha0
    unfold fn_X12_headers
    rw [show fn_X12_headers_2 uFu (nI n) 0 T = some t2 from w1, Option.bind_some]
    refine val (by omega) t2 w3 ?_
    unfold lvs
    rw [if_pos z]; exact w2
  by_cases k11 : κ = 11
  · rw [if_pos (show nI (κ + 9) = 20 by rw [k11]; rfl)]; exact hdr (Or.inl k11)
  rw [if_neg (show ¬ nI (κ + 9) = 20 from nI_ne (b := 20) (by omega) (by decide) (by omega))]
  by_cases k12 : κ = 12
  · rw [if_pos (show nI (κ + 9) = 21 by rw [k12]; rfl)]; exact hdr (Or.inr k12)
  rw [if_neg (show ¬ nI (κ + 9) = 21 from nI_ne (b := 21) (by omega) (by decide) (by omega))]
  by_cases k13 : κ = 13
  · rw [if_pos (show nI (κ + 9) = 22 by rw [k13]; rfl)]
    obtain ⟨x1, x2, x3⟩ := nN (Or.inl (by omega))
    obtain ⟨t2, w1, w2, w3⟩ := r_env ((n2 (by omega)).1.o o0) x1 x2 x3 (M2.o o0 (by unfold leI; omega) (fun _ => by unfold leF; omega)) (M3.o o0 (by unfold leI; omega) (fun _ => by unfold leF; omega)) as_ ar ha0
    rw [w1, Option.bind_some]
    refine val (by omega) t2 w3 ?_
    unfold lvs
    rw [if_neg (by omega), if_pos k13]; exact w2
  rw [if_neg (show ¬ nI (κ + 9) = 22 from nI_ne (b := 22) (by omega) (by decide) (by omega))]
  by_cases k14 : κ = 14
  · rw [if_pos (show nI (κ + 9) = 23 by rw [k14]; rfl)]
    obtain ⟨t2, w1, w2, w3⟩ := r_flags ((n2 (by omega)).2 (by omega) (by omega)) hg ((n2 (by omega)).1.o o0) ((o0.2.1 _ _ (by unfold leI; omega)).trans hI) ha0
    rw [w1, Option.bind_some]
    refine val (by omega) t2 w3 ?_
    unfold lvs
    rw [if_neg (by omega), if_neg k13, if_pos k14]; exact w2
  rw [if_neg (show ¬ nI (κ + 9) = 23 from nI_ne (b := 23) (by omega) (by decide) (by omega))]
  unfold lfV
  by_cases k15 : κ = 15
  · obtain ⟨x1, x2, x3⟩ := nN (Or.inr k15)
    rw [if_pos (show nI (κ + 9) = 24 by rw [k15]; rfl), if_pos k15, r_exists M1' ho (n0.fr (fun k j _ => F _ _ (by unfold leF; omega))) hn x1 x2 x3, Option.bind_some]
    exact ⟨T, rfl, o0⟩
  rw [if_neg (show ¬ nI (κ + 9) = 24 from nI_ne (b := 24) (by omega) (by decide) (by omega)), if_neg k15]
  by_cases k16 : κ = 16
  · obtain ⟨x1, x2, x3⟩ := n4 k16
    rw [if_pos (show nI (κ + 9) = 25 by rw [k16]; rfl), if_pos k16, g_1109 hn, Option.bind_some, F _ _ (by unfold leF; omega), x3, g_1113 hn, F 1113 _ (by unfold leF; omega), x2, o0.2.1 _ _ (by unfold leI; omega), M4, Option.bind_some, Option.bind_some]
    cases ov with
    | true =>
      rw [if_pos (show bI true = 1 from rfl), if_pos rfl]
      by_cases y : d < sz
      · rw [if_neg (nI_ge y (by omega)), decide_eq_true y]; exact ⟨T, rfl, o0⟩
      · rw [if_pos (nI_le (by omega) (by omega)), decide_eq_false y]; exact ⟨T, rfl, o0⟩
    | false =>
      rw [if_neg (show ¬ bI false = 1 by decide), if_neg (show ¬ (false = true) by decide)]
      by_cases y : sz < d
      · rw [if_neg (nI_ge y (by omega)), decide_eq_true y]; exact ⟨T, rfl, o0⟩
      · rw [if_pos (nI_le (by omega) (by omega)), decide_eq_false y]; exact ⟨T, rfl, o0⟩
  rw [if_neg (show ¬ nI (κ + 9) = 25 from nI_ne (b := 25) (by omega) (by decide) (by omega)), if_neg k16, if_neg (show ¬ nI (κ + 9) = 26 from nI_ne (b := 26) (by omega) (by decide) (by omega)), if_neg (show ¬ nI (κ + 9) = 27 from nI_ne (b := 27) (by omega) (by decide) (by omega)), if_neg (show ¬ nI (κ + 9) = 28 from nI_ne (b := 28) (by omega) (by decide) (by omega)), Option.bind_some]
  by_cases k20 : κ = 20
  · rw [if_pos (show nI (κ + 9) = 29 by rw [k20]; rfl), if_pos k20]; exact ⟨T, rfl, o0⟩
  · rw [if_neg (show ¬ nI (κ + 9) = 29 from nI_ne (b := 29) (by omega) (by decide) (by omega)), if_neg k20, if_pos (show κ = 21 by omega)]; exact ⟨T, rfl, o0⟩
