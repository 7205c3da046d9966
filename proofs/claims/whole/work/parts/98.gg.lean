/-! the reference: a note more, all of it -/
theorem getT_app {ns : List nT} {x : nT} {i : Nat} (h : i < ns.length) : (ns ++ [x]).getD i nt0 = ns.getD i nt0 := by
  rw [List.getD_eq_getElem?_getD, List.getD_eq_getElem?_getD, List.getElem?_append_left h]
theorem getT_end {ns : List nT} {x : nT} : (ns ++ [x]).getD ns.length nt0 = x := by
  rw [List.getD_eq_getElem?_getD, List.getElem?_append_right (Nat.le_refl _), Nat.sub_self]
  rfl
/-- sizes of notes -/
def ntZ (ns : List nT) : Prop := ∀ i : Nat, i < ns.length → (ns.getD i nt0).2.1.length ≤ 101 ∧ bys (ns.getD i nt0).2.1 ∧ (ns.getD i nt0).2.2.length ≤ 1000 ∧ bys (ns.getD i nt0).2.2
theorem r_add63 {t : uS} {u nv h today : Nat} {ns : List nT} {snd : List Nat} {ts : List (List Nat)} (hu : u < 4) (h89 : t.I 1079 89 = nI u) (hN : rNt t u ns) (hz : ntZ ns) (hl : ns.length < 40) (hd : t.I 1079 1 = nI today) (hs : rTe t 93 1137 snd) (hst : rSt t ts) (hh : rHd t nv h) (hht : h < ts.length) : ∃ t1 : uS, fb_X12_addNote_63 t = some t1 ∧ rNt t1 u (ns ++ [(today, snd, ts.getD h [])]) ∧ nKp (fun z => 40 * u ≤ z ∧ z < 40 * u + 40) t t1 ∧ ol rNo ngF hdL4 t t1 ∧ ∀ v : Nat, v ≠ u → t1.F 1129 v = t.F 1129 v := by
  obtain ⟨n1, n2⟩ := hN
  obtain ⟨s1, s2, s3, s4⟩ := hs
  obtain ⟨bg, w1, w2, w3, w4⟩ := hst
  obtain ⟨a, c1, c2, c3, c4, c5⟩ := w1 h hht
  have hbl := w4 h
  obtain ⟨L, hL⟩ : ∃ L, L = ns.length := ⟨_, rfl⟩
  obtain ⟨hd_, hhd⟩ : ∃ x, x = ts.getD h [] := ⟨_, rfl⟩
  rw [← hhd] at c1 c3 c4 c5 hbl ⊢
  rw [← hL] at n1 n2 hl
  unfold fb_X12_addNote_63
  have e40 : (40 : Int32) * nI u + nI L = nI (40 * u + L) := by rw [show (40 : Int32) = nI 40 from rfl, nI_mul, nI_add]
  have f1 : (wF t 1129 u (nI (L + 1))).I 1079 1 = nI today := hd
  have f93 : (wF (wF t 1129 u (nI (L + 1))) 1130 (40 * u + L) (nI today)).I 1079 93 = nI snd.length := s1
  rw [h89, g_1129 hu, Option.bind_some, Option.bind_some, n1, nI_1, p_1129 hu, Option.bind_some, e40, f1, p_1130 (by omega), Option.bind_some, f93, p_1132 (by omega), Option.bind_some]
  obtain ⟨q, hq⟩ : ∃ q, q = 40 * u + L := ⟨_, rfl⟩
  rw [← hq]
  have hq4 : q < 160 := by omega
  obtain ⟨t3, ht3⟩ : ∃ t3, t3 = wF (wF (wF t 1129 u (nI (L + 1))) 1130 q (nI today)) 1132 q (nI snd.length) := ⟨_, rfl⟩
  have z29 : t3.F 1129 u = nI (L + 1) := by rw [ht3, wF_o (by omega), wF_o (by omega), wF_e]
  have z30 : t3.F 1130 q = nI today := by rw [ht3, wF_o (by omega), wF_e]
  have z32 : t3.F 1132 q = nI snd.length := by rw [ht3, wF_e]
  have zo : ∀ k f : Nat, ((k ≠ 1129 ∧ k ≠ 1130 ∧ k ≠ 1132) ∨ (k = 1129 ∧ f ≠ u) ∨ (k ≠ 1129 ∧ f ≠ q)) → t3.F k f = t.F k f := fun k f h => by rw [ht3, wF_o (by omega), wF_o (by omega), wF_o (by omega)]
  have zI : t3.I = t.I := by rw [ht3]; rfl
  have zL : t3.L = t.L := by rw [ht3]; rfl
  have zol : ol rNo ngF hdL4 t t3 := by
    rw [ht3]
    exact ol_F (ol_F (ol_F ol_r (by unfold ngF; omega)) (by unfold ngF; omega)) (by unfold ngF; omega)
  rw [← ht3]
  obtain ⟨t4, ht4⟩ : ∃ t4, t4 = wF (cpy t3 1131 (101 * q) 0 snd.length (fun j => nI (snd.getD j 0))) 1135 q (nI hd_.length) := ⟨_, rfl⟩
  have y35 : t4.F 1135 q = nI hd_.length := by rw [ht4, wF_e]
  have y31 : ∀ j : Nat, j < snd.length → t4.F 1131 (101 * q + j) = nI (snd.getD j 0) := fun j hj => by rw [ht4, wF_o (by omega)]; exact cpy_Fe (Nat.zero_le _) hj
  have yo : ∀ k f : Nat, ((k ≠ 1131 ∧ k ≠ 1135) ∨ (k = 1131 ∧ (f < 101 * q ∨ 101 * q + 101 ≤ f)) ∨ (k = 1135 ∧ f ≠ q)) → t4.F k f = t3.F k f := fun k f h => by rw [ht4, wF_o (by omega), cpy_F, if_neg (by omega)]
  have yL : t4.L = t.L := by rw [ht4]; exact zL
  have yol : ol rNo ngF hdL4 t3 t4 := by
    rw [ht4]
    refine ol_F ⟨⟨rfl, rfl, rfl, rfl, rfl⟩, fun _ _ _ => rfl, fun k f z => ?_, fun _ _ _ => rfl⟩ (by unfold ngF; omega)
    rw [cpy_F, if_neg (fun y => z (by unfold ngF; omega))]
  obtain ⟨t5, b1, b2, b3⟩ := hd_loop (q := q) hq4 hbl c4 (F := fun N y s => fn_X12_addNote_173 N (nI q) (nI h) y s) (fin := fun s => some s) (Pr := fun s => s.F 1117 h = nI hd_.length ∧ s.F 1116 h = nI a ∧ ∀ i : Nat, i < hd_.length → s.F 1097 (a + i) = nI (hd_.getD i 0)) (fun s s1 z w => ⟨(w.1.2.2.1 _ _ (fun y => y)).trans z.1, (w.1.2.2.1 _ _ (fun y => y)).trans z.2.1, fun i hi => (w.1.2.2.1 _ _ (fun y => y)).trans (z.2.2 i hi)⟩) (fun n i s z hi => by
    show fb_X12_addNote_173 (fn_X12_addNote_173 n) (nI q) (nI h) (nI i) s = _
    unfold fb_X12_addNote_173
    rw [g_1117 (by omega), Option.bind_some, z.1, if_neg (nI_ge hi (by omega)), g_1116 (by omega), Option.bind_some, z.2.1, nI_add, g_1097 (by omega), Option.bind_some, z.2.2 i hi]) (fun n s z => by
    show fb_X12_addNote_173 (fn_X12_addNote_173 n) (nI q) (nI h) (nI hd_.length) s = _
    unfold fb_X12_addNote_173
    rw [g_1117 (by omega), Option.bind_some, z.1, if_pos (nI_le (Nat.le_refl _) (by omega))]) hd_.length uFu 0 t4 (by omega) (by show _ ≤ 1000000; omega) ⟨by rw [yo _ _ (by omega), zo _ _ (by omega)]; exact c3, by rw [yo _ _ (by omega), zo _ _ (by omega)]; exact c2, fun i hi => by rw [yo _ _ (by omega), zo _ _ (by omega)]; exact c5 i hi⟩ (fun j hj => absurd hj (Nat.not_lt_zero _))
  have kF : ∀ k f : Nat, t5.F k f = t4.F k f := fun k f => b3.1.2.2.1 k f (fun z => z)
  have keep : ∀ (q' : Nat) (x' : nT), q' < 160 → q' ≠ q → x'.2.1.length ≤ 101 → x'.2.2.length ≤ 1000 → rNe t q' x' → rNe t5 q' x' := by
    intro q' x' e1 e2 e3 e4 ⟨d1, d2, d3, d4, d5⟩
    refine ⟨?_, ?_, fun j hj => ?_, ?_, fun j hj => ?_⟩
    · rw [kF, yo _ _ (by omega), zo _ _ (by omega)]; exact d1
    · rw [kF, yo _ _ (by omega), zo _ _ (by omega)]; exact d2
    · rw [kF, yo _ _ (by omega), zo _ _ (by omega)]; exact d3 j hj
    · rw [kF, yo _ _ (by omega), zo _ _ (by omega)]; exact d4
    · rw [b3.2 q' j e1 (by omega) e2, hdb_S, yL, ← hdb_S]; exact d5 j hj
  have e := cpy0 (F := fun N y s => fn_X12_addNote_123 N (nI q) y s) (fin := fun s => fn_X12_addNote_173 uFu (nI q) (nI h) 0 (wF s 1135 q (nI hd_.length))) (K := 1131) (off := 101 * q) (L := snd.length) (g := fun j => nI (snd.getD j 0)) (s := t3) ?_ ?_ (by show _ < 1000000; omega)
  · rw [← ht4] at e
    refine ⟨t5, e.trans b1, ⟨?_, fun i hi => ?_⟩, fun q' x' e1 e2 e3 e4 e5 => keep q' x' e1 (by omega) e3 e4 e5, ol_t (ol_t zol yol) (ol_w b3.1 (fun _ _ z => z) (fun _ _ z => z.elim) (fun _ _ z => z)), fun v hv => ?_⟩
    · rw [kF, yo _ _ (by omega), z29, List.length_append, ← hL]; rfl
    · rw [List.length_append, ← hL] at hi
      have hi' : i < L + 1 := hi
      by_cases d : i = L
      · rw [d, hL, getT_end, ← hL, ← hq]
        refine ⟨?_, ?_, fun j hj => ?_, ?_, b2⟩
        · rw [kF, yo _ _ (by omega)]; exact z30
        · rw [kF, yo _ _ (by omega)]; exact z32
        · rw [kF]; exact y31 j hj
        · rw [kF]; exact y35
      · rw [getT_app (by omega)]
        have zz := hz i (by omega)
        exact keep _ _ (by omega) (by omega) zz.1 zz.2.2.1 (n2 i (by omega))
    · rw [kF, yo _ _ (by omega), zo _ _ (by omega)]
  · intro n i hi
    show fb_X12_addNote_123 (fn_X12_addNote_123 n) (nI q) (nI i) _ = _
    unfold fb_X12_addNote_123
    have f93 : (cpy t3 1131 (101 * q) 0 i (fun j => nI (snd.getD j 0))).I 1079 93 = nI snd.length := by rw [cpy_I, zI]; exact s1
    have f37 : (cpy t3 1131 (101 * q) 0 i (fun j => nI (snd.getD j 0))).F 1137 i = nI (snd.getD i 0) := by rw [cpy_Fo (by decide), zo _ _ (by omega)]; exact s4 i hi
    rw [f93, if_neg (nI_ge hi (by omega)), g_1137 (by omega), Option.bind_some, f37, show (101 : Int32) = nI 101 from rfl, nI_mul, nI_add, p_1131 (by omega), Option.bind_some, nI_1]
  · intro n
    show fb_X12_addNote_123 (fn_X12_addNote_123 n) (nI q) (nI snd.length) _ = _
    unfold fb_X12_addNote_123
    have f93 : (cpy t3 1131 (101 * q) 0 snd.length (fun j => nI (snd.getD j 0))).I 1079 93 = nI snd.length := by rw [cpy_I, zI]; exact s1
    have fh : rHd (cpy t3 1131 (101 * q) 0 snd.length (fun j => nI (snd.getD j 0))) nv h := by
      obtain ⟨g1, g2, g3⟩ := hh
      refine ⟨by rw [cpy_I, zI]; exact g1, g2, ?_⟩
      rw [cpy_Fo (by decide), cpy_Fo (by decide), zo _ _ (by omega), zo _ _ (by omega)]
      exact g3
    have f17 : (cpy t3 1131 (101 * q) 0 snd.length (fun j => nI (snd.getD j 0))).F 1117 h = nI hd_.length := by rw [cpy_Fo (by decide), zo _ _ (by omega)]; exact c3
    rw [f93, if_pos (nI_le (Nat.le_refl _) (by omega)), r_hdS fh (by omega), Option.bind_some, g_1117 (by omega), Option.bind_some, f17, p_1135 (by omega), Option.bind_some]
/-- the notes with one more; the oldest goes if there are 40 -/
def ntA (ns : List nT) (x : nT) : List nT := (if ns.length = 40 then ns.drop 1 else ns) ++ [x]
theorem getT_d1 {ns : List nT} (i : Nat) : (ns.drop 1).getD i nt0 = ns.getD (i + 1) nt0 := by
  rw [List.getD_eq_getElem?_getD, List.getD_eq_getElem?_getD, List.getElem?_drop, Nat.add_comm 1 i]
theorem r_add16 {u : Nat} {ns : List nT} (hu : u < 4) (hz : ntZ ns) (hl : ns.length = 40) : ∀ (d N i : Nat) (t : uS), i + d = 40 → 1 ≤ i → d + 1 ≤ N → t.I 1079 89 = nI u → (∀ j : Nat, j + 1 < i → rNe t (40 * u + j) (ns.getD (j + 1) nt0)) → (∀ j : Nat, i ≤ j → j < 40 → rNe t (40 * u + j) (ns.getD j nt0)) → ∃ t1 : uS, fn_X12_addNote_16 N (nI i) t = fb_X12_addNote_63 (wF t1 1129 u (nI 39)) ∧ (∀ j : Nat, j + 1 < 40 → rNe t1 (40 * u + j) (ns.getD (j + 1) nt0)) ∧ nKp (fun z => 40 * u ≤ z ∧ z < 40 * u + 40) t t1 ∧ ol rNo ngF hdL4 t t1 ∧ t1.F 1129 = t.F 1129 := by
  intro d
  induction d with
  | zero =>
    intro N i t h1 h2 h3 h89 hA hB
    obtain ⟨M, rfl⟩ : ∃ M, N = M + 1 := ⟨N - 1, by omega⟩
    refine ⟨t, ?_, fun j hj => hA j (by omega), fun _ _ _ _ _ _ z => z, ol_r, rfl⟩
    show fb_X12_addNote_16 (fn_X12_addNote_16 M) (nI i) t = _
    unfold fb_X12_addNote_16
    rw [if_pos (show (40 : Int32) ≤ nI i from nI_le (a := 40) (by omega) (by omega)), h89, p_1129 hu, Option.bind_some]
    rfl
  | succ d ih =>
    intro N i t h1 h2 h3 h89 hA hB
    obtain ⟨M, rfl⟩ : ∃ M, N = M + 1 := ⟨N - 1, by omega⟩
    obtain ⟨i', rfl⟩ : ∃ i', i = i' + 1 := ⟨i - 1, by omega⟩
    have zz := hz (i' + 1) (by omega)
    have e40 : (40 : Int32) * nI u + nI (i' + 1) = nI (40 * u + i' + 1) := by rw [show (40 : Int32) = nI 40 from rfl, nI_mul, nI_add, ← Nat.add_assoc]
    obtain ⟨t1, a1, a2, a3, a4, a5⟩ := r_moveN (q := 40 * u + i') (by omega) (hB (i' + 1) (by omega) (by omega)) zz.1 zz.2.2.1 zz.2.2.2
    have sz : ∀ j : Nat, j < 40 → (ns.getD j nt0).2.1.length ≤ 101 ∧ (ns.getD j nt0).2.2.length ≤ 1000 := fun j hj => ⟨(hz j (by omega)).1, (hz j (by omega)).2.2.1⟩
    obtain ⟨t2, b1, b2, b3, b4, b5⟩ := ih M (i' + 1 + 1) t1 (by omega) (by omega) (by omega) ((a4.2.1 _ _ (fun z => z)).trans h89) (fun j hj => by
      by_cases c : j = i'
      · rw [c]; exact a2
      · exact a3 _ _ (by omega) (by omega) (sz (j + 1) (by omega)).1 (sz (j + 1) (by omega)).2 (hA j (by omega))) (fun j hj hj2 => a3 _ _ (by omega) (by omega) (sz j hj2).1 (sz j hj2).2 (hB j (by omega) hj2))
    refine ⟨t2, ?_, b2, nKp_t (nKp_w a3 (fun z hz => by omega)) b3, ol_t a4 b4, b5.trans a5⟩
    show fb_X12_addNote_16 (fn_X12_addNote_16 M) (nI (i' + 1)) t = _
    unfold fb_X12_addNote_16
    rw [if_neg (show ¬ (40 : Int32) ≤ nI (i' + 1) from nI_ge (b := 40) (by omega) (by omega)), h89, e40, a1, Option.bind_some, nI_1]
    exact b1
theorem r_addN {t : uS} {u nv h today : Nat} {ns : List nT} {snd : List Nat} {ts : List (List Nat)} (hu : u < 4) (h89 : t.I 1079 89 = nI u) (hN : rNt t u ns) (hz : ntZ ns) (hl : ns.length ≤ 40) (hd : t.I 1079 1 = nI today) (hs : rTe t 93 1137 snd) (hst : rSt t ts) (hh : rHd t nv h) (hht : h < ts.length) : ∃ t1 : uS, fn_X12_addNote t = some t1 ∧ rNt t1 u (ntA ns (today, snd, ts.getD h [])) ∧ nKp (fun z => 40 * u ≤ z ∧ z < 40 * u + 40) t t1 ∧ ol rNo ngF hdL4 t t1 ∧ ∀ v : Nat, v ≠ u → t1.F 1129 v = t.F 1129 v := by
  unfold fn_X12_addNote ntA
  rw [h89, g_1129 hu, Option.bind_some, hN.1]
  by_cases c : ns.length = 40
  · rw [if_pos (show nI ns.length = 40 by rw [c]; rfl), if_pos c]
    obtain ⟨t1, a1, a2, a3, a4, a5⟩ := r_add16 hu hz c 39 uFu 1 t (by omega) (by omega) (by decide) h89 (fun j hj => by omega) (fun j h1 h2 => hN.2 j (by omega))
    have o2 : ol rNo ngF hdL4 t1 (wF t1 1129 u (nI 39)) := ol_F ol_r (by unfold ngF; omega)
    have o12 := ol_t a4 o2
    have dl : (ns.drop 1).length = 39 := by rw [List.length_drop]; omega
    have k2 : ∀ (q : Nat) (x : nT), rNe t1 q x → rNe (wF t1 1129 u (nI 39)) q x := by
      intro q x ⟨d1, d2, d3, d4, d5⟩
      exact ⟨by rw [wF_o (by omega)]; exact d1, by rw [wF_o (by omega)]; exact d2, fun j hj => by rw [wF_o (by omega)]; exact d3 j hj, by rw [wF_o (by omega)]; exact d4, d5⟩
    obtain ⟨t3, b1, b2, b3, b4, b5⟩ := r_add63 (t := wF t1 1129 u (nI 39)) (ns := ns.drop 1) hu ((o12.2.1 _ _ (fun z => z)).trans h89) ⟨by rw [dl]; exact wF_e _ _ _ _, fun i hi => by rw [getT_d1]; exact k2 _ _ (a2 i (by omega))⟩ (fun i hi => by rw [getT_d1]; exact hz (i + 1) (by omega)) (by omega) ((o12.2.1 _ _ (fun z => z)).trans hd) ⟨(o12.2.1 _ _ (fun z => z)).trans hs.1, hs.2.1, hs.2.2.1, fun j hj => (o12.2.2.1 _ _ (by unfold ngF; omega)).trans (hs.2.2.2 j hj)⟩ (hst.fr (fun k j z => o12.2.2.1 _ _ (by unfold ngF; omega))) ⟨(o12.2.1 _ _ (fun z => z)).trans hh.1, hh.2.1, by rw [o12.2.2.1 _ _ (by unfold ngF; omega), o12.2.2.1 _ _ (by unfold ngF; omega)]; exact hh.2.2⟩ hht
    refine ⟨t3, a1.trans b1, b2, nKp_t a3 (fun q x e1 e2 e3 e4 e5 => b3 q x e1 e2 e3 e4 (k2 q x e5)), ol_t o12 b4, fun v hv => ?_⟩
    rw [b5 v hv, wF_o (by omega), a5]
  · rw [if_neg (show ¬ nI ns.length = 40 from nI_ne (b := 40) (by omega) (by decide) c), if_neg c]
    exact r_add63 hu h89 hN hz (by omega) hd hs hst hh hht
