/-! running a script: choices, commands, the whole -/
/-- the end of a block, and over the elses -/
theorem rnO.blk {s0 t0 : uS} {N : Nat} {fs : List (List Nat × List Nat)} {snd : List Nat} {rcs : List (List Nat)} {sz ri : Nat} {ts bx : List (List Nat)} {bg uu : Nat} {live : Bool} {u v w i k j : Nat} {ts1 : List (List Nat)} {s : uS} {p1 : pl} {st1 : Bool} (h : rnO s0 t0 N fs snd rcs sz ri ts bx bg uu live u v i k ts1 s p1 st1) (hik : i ≤ k) (hkj : k + 1 ≤ j) (hvw : v ≤ w) (hs : ∀ (s1 : uS) (ts2 : List (List Nat)) (ir iv : Nat), lvR s0 t0 N fs snd rcs sz ri ts bx bg uu v ts2 p1 ir iv s1 → ∀ M tu : Nat, tu + 1 ≤ 320 → fn_X7_run_4 (M + 1) (nI k) (nI tu) s1 = fn_X7_run_4 M (nI j) (nI (tu + 1)) s1) : rnO s0 t0 N fs snd rcs sz ri ts bx bg uu live u w i j ts1 s p1 st1 := by
  refine ⟨h.1, fun hl => ?_⟩
  rcases h.2 hl with ⟨z, s2, ts3, tn, ir, iv, a1, a2, a3, a4⟩ | ⟨z, s2, ts3, tn, ir, iv, a1, a2, a3, a4⟩ | ⟨z, s2, tn, a1, a2, a3⟩
  · refine Or.inl ⟨z, s2, ts3, tn + 1, ir, iv, by omega, a2.up hvw, a3, fun M tu hM => ?_⟩
    rw [show M + (tn + 1) = (M + 1) + tn by omega, a4 _ _ (by omega), hs s2 ts3 ir iv a2 _ _ (by omega), Nat.add_assoc]
  · exact Or.inr (Or.inl ⟨z, s2, ts3, tn, ir, iv, by omega, a2.up hvw, a3, a4⟩)
  · exact Or.inr (Or.inr ⟨z, s2, tn, by omega, a2, a3⟩)
/-- one branch: it is taken, or not -/
theorem t_br1 {s0 t0 : uS} {N : Nat} {fs : List (List Nat × List Nat)} {snd : List Nat} {rcs : List (List Nat)} {sz ri : Nat} {ts bx : List (List Nat)} {bg uu : Nat} {B : Nat} {R : Int32 → uS → Option uS} (hN : N ≤ 310) (hu : uu < 4) (ho : fsO fs) (as_ : adO snd) (ar : adO (rcs.getD ri [])) (hri : ri < rcs.length) (hl1 : ∀ j : Nat, j < ts.length → (ts.getD j []).length ≤ 1000) (ih : ∀ (i j n m u w : Nat) (s t : uS) (ts1 : List (List Nat)) (p : pl) (ir iv : Nat) (live : Bool), 1 ≤ i → cnR B ts s0 t0 i j n m u w → j ≤ N → m ≤ 520 → w ≤ ts.length → nEl s0 N j → rCt t0 t ts fs snd (rcs.getD ri []) sz (pg p) → rPn t ts p false → bdP s0 i p → (live = true → lvR s0 t0 N fs snd rcs sz ri ts bx bg uu u ts1 p ir iv s) → (live = false → fcP bx ts p = true) → ∃ (t1 : uS) (p1 : pl) (st1 : Bool), rnX t0 fs snd (rcs.getD ri []) sz ts s0 j (R (nI n) t) t1 p1 st1 ∧ rnO s0 t0 N fs snd rcs sz ri ts bx bg uu live u w i j ts1 s p1 st1) {κ i j n m u w : Nat} {s t : uS} {ts1 : List (List Nat)} {p : pl} {ir iv : Nat} {live : Bool} (h1 : 1 ≤ i) (hκ : κ = 0 ∨ κ = 22 ∨ κ = 23) (hb : bnR (cnR B ts s0 t0) s0 t0 κ i j n m u w) (hj : j ≤ N) (hm : m ≤ 520) (hw : w ≤ ts.length) (hr : rCt t0 t ts fs snd (rcs.getD ri []) sz (pg p)) (hp : rPn t ts p false) (hbd : bdP s0 i p) (hlv : live = true → lvR s0 t0 N fs snd rcs sz ri ts bx bg uu u ts1 p ir iv s) (hdd : live = false → fcP bx ts p = true) : (∃ (t1 : uS) (p1 : pl) (st1 : Bool), (∀ FU : Nat, fn_X12_choose_9 (fn_X12_run R) (FU + 2) false (nI (m - 1)) t = some t1) ∧ rCt t0 t1 ts fs snd (rcs.getD ri []) sz (pg p1) ∧ rPn t1 ts p1 st1 ∧ bdP s0 (j - 1) p1 ∧ rnO s0 t0 N fs snd rcs sz ri ts bx bg uu live u w i (j - 1) ts1 s p1 st1) ∨ (κ ≠ 23 ∧ ∃ t1 : uS, (∀ FU : Nat, fn_X12_choose_9 (fn_X12_run R) (FU + 1) false (nI (m - 1)) t = fn_X12_choose_9 (fn_X12_run R) FU false (t1.F 1101 (m - 1)) t1) ∧ out leI leF t t1 ∧ ∃ (s1 : uS) (ts2 : List (List Nat)) (d : Nat), i + d ≤ j ∧ (live = true → lvR s0 t0 N fs snd rcs sz ri ts bx bg uu w ts2 p ir iv s1) ∧ (∀ q : Nat, q < u → ts2.getD q [] = ts1.getD q []) ∧ (live = true → ∀ M tu : Nat, tu + d ≤ 320 → fn_X7_run_4 (M + d) (nI i) (nI tu) s = fn_X7_run_4 M (nI j) (nI (tu + d)) s1)) := by
  obtain ⟨h0, h4, it, nt, ut, e1, e2, e3, e4, e5, e6, e7, e8, e9, e10⟩ := hb
  have hm1 : m - 1 < 520 := by omega
  have hpass : live = true → ∀ M tu : Nat, tu + 1 ≤ 320 → fn_X7_run_4 (M + 1) (nI i) (nI tu) s = fn_X7_run_4 M (nI (i + 1)) (nI (tu + 1)) s := by
    intro hl M tu hM
    obtain ⟨hc, -⟩ := hlv hl
    exact run_pass hc.2.1 (by omega) hN (by omega) hc.2.2.2.2.2 (((hc.1 i (by omega)).1 _).trans h0) (by omega)
  have blk : ∀ (t' s' : uS) (ts' : List (List Nat)), rCt t0 t' ts fs snd (rcs.getD ri []) sz (pg p) → rPn t' ts p false → (live = true → lvR s0 t0 N fs snd rcs sz ri ts bx bg uu ut ts' p ir iv s') → ∃ (t1 : uS) (p1 : pl) (st1 : Bool), (∀ FU : Nat, fb_X12_choose_45 (fn_X12_run R) (fn_X12_choose_9 (fn_X12_run R) (FU + 1)) (nI (m - 1)) true t' = some t1) ∧ rCt t0 t1 ts fs snd (rcs.getD ri []) sz (pg p1) ∧ rPn t1 ts p1 st1 ∧ bdP s0 (j - 1) p1 ∧ rnO s0 t0 N fs snd rcs sz ri ts bx bg uu live ut w it (j - 1) ts' s' p1 st1 := by
    intro t' s' ts' hr' hp' hl'
    have hel : nEl s0 N (j - 1) := Or.inr ⟨by omega, 24, e7, by decide, by decide, by decide⟩
    obtain ⟨t1, p1, st1, ⟨x1, x2, x3, x4⟩, y⟩ := t_block hN (show nt < 520 by omega) ih (show 1 ≤ it by omega) e10 (by omega) (by omega) hw hel hr' hp' (hbd.up h1 (by omega)) hl' hdd
    refine ⟨t1, p1, st1, fun FU => ?_, x2, x3, x4, y⟩
    unfold fb_X12_choose_45
    rw [if_pos rfl, g_1104 hm1, Option.bind_some, hr'.1 _ _ (by omega) (by omega), e8, x1, Option.bind_some, g_1101 hm1, Option.bind_some]
    show fb_X12_choose_9 (fn_X12_run R) (fn_X12_choose_9 (fn_X12_run R) FU) true (t1.F 1101 (m - 1)) t1 = _
    unfold fb_X12_choose_9
    by_cases c : t1.F 1101 (m - 1) < 0
    · rw [if_pos c]
    · rw [if_neg c, if_pos rfl]
  rcases e9 with ⟨z1, z2, z3⟩ | ⟨z1, z2, z3, z4⟩
  · left
    obtain ⟨t1, p1, st1, x1, x2, x3, x4, y⟩ := blk t s ts1 hr hp (fun hl => (hlv hl).up e5)
    refine ⟨t1, p1, st1, fun FU => ?_, x2, x3, x4, ?_⟩
    · show fb_X12_choose_9 (fn_X12_run R) (fn_X12_choose_9 (fn_X12_run R) (FU + 1)) false (nI (m - 1)) t = _
      unfold fb_X12_choose_9
      rw [if_neg (nI_pos (by omega)), if_neg (by decide), g_1102 hm1, Option.bind_some, hr.1 _ _ (by omega) (by omega), z3, if_pos rfl]
      exact x1 FU
    · rw [z2] at y
      exact y.pre (d := 1) (by omega) (by omega) e5 (fun _ _ => rfl) hpass
  · have hlt := tsR.lt z4
    have hpe := tsR.pe z4
    obtain ⟨t', Bo, a1, a2, a3⟩ := t_test (live := live) hN ho as_ ar hri hp.2.2.2.1 hl1 9 31 i (i + 1) it n nt u ut s t ts1 (by decide) z4 (by omega) (by omega) (by omega) hr (fun hl => ⟨(hlv hl).1, (hlv hl).2.1⟩)
    have hr' := hr.o a2
    have hp' := hp.le a2
    have hx : ∃ (s1 : uS) (ts2 : List (List Nat)) (d : Nat), i + d ≤ it ∧ (live = true → lvR s0 t0 N fs snd rcs sz ri ts bx bg uu ut ts2 p ir iv s1) ∧ (∀ q : Nat, q < u → ts2.getD q [] = ts1.getD q []) ∧ (live = true → ∀ M tu : Nat, tu + d ≤ 320 → fn_X7_run_4 (M + d) (nI i) (nI tu) s = fn_X7_run_4 M (nI (if Bo = true then it else j)) (nI (tu + d)) s1) := by
      cases hl : live with
      | false => exact ⟨s, ts1, 0, by omega, fun z => (by cases z), fun _ _ => rfl, fun z => by cases z⟩
      | true =>
        obtain ⟨s1, ts2, tn, l, b1, b2, b3, b4, b5, b6, b7⟩ := a3 hl
        have hL := (hlv hl).t hu b6 b4 e5 b5
        refine ⟨s1, ts2, 1 + tn, by omega, fun _ => hL, b5, fun _ M tu hM => ?_⟩
        rw [show M + (1 + tn) = (M + tn) + 1 by omega, hpass hl _ _ (by omega), b7 M (tu + 1) (by omega)]
        unfold btR
        have hcc := hL.1
        have n1 := hcc.1 (i + 1) (by omega)
        have n2 := hcc.1 i (by omega)
        rw [bt_up (κ := κ) (e := it) (E := 0) (by omega) (by omega) (by omega) ((n1.1 _).trans hpe.1) ((n2.1 _).trans h0) (by omega) ((n1.1 _).trans hpe.2) (by omega) (fun y => by omega), if_pos (by omega)]
        cases Bo with
        | true => rw [if_pos rfl, if_pos rfl, Option.bind_some, Nat.add_assoc]
        | false => rw [if_neg (by decide), if_neg (by decide), Option.bind_some, n2.1, h4, Nat.add_assoc]
    have hst : ∀ FU : Nat, fn_X12_choose_9 (fn_X12_run R) (FU + 1) false (nI (m - 1)) t = fb_X12_choose_45 (fn_X12_run R) (fn_X12_choose_9 (fn_X12_run R) FU) (nI (m - 1)) Bo t' := by
      intro FU
      show fb_X12_choose_9 (fn_X12_run R) (fn_X12_choose_9 (fn_X12_run R) FU) false (nI (m - 1)) t = _
      unfold fb_X12_choose_9
      rw [if_neg (nI_pos (by omega)), if_neg (by decide), g_1102 hm1, Option.bind_some, hr.1 _ _ (by omega) (by omega), z3, if_neg (show ¬ nI n = -1 by intro y; exact nI_pos (show n < 2 ^ 31 by omega) (by rw [y]; decide)), Option.bind_some, show (40 : Nat) = 9 + 31 from rfl, a1, Option.bind_some]
      dsimp only
      cases Bo with
      | true => rw [if_pos rfl]
      | false => rw [if_neg (by decide)]
    obtain ⟨s1, ts2, d, c1, c2, c3, c4⟩ := hx
    cases Bo with
    | true =>
      left
      obtain ⟨t1, p1, st1, x1, x2, x3, x4, y⟩ := blk t' s1 ts2 hr' hp' c2
      exact ⟨t1, p1, st1, fun FU => (hst (FU + 1)).trans (x1 FU), x2, x3, x4, y.pre (d := d) c1 (by omega) e5 c3 c4⟩
    | false =>
      right
      refine ⟨z1, t', fun FU => ?_, a2, s1, ts2, d, by omega, fun hl => (c2 hl).up e6, c3, c4⟩
      rw [hst FU]
      unfold fb_X12_choose_45
      rw [if_neg (by decide), g_1101 hm1, Option.bind_some]
/-- a choice -/
theorem t_brs {s0 t0 : uS} {N : Nat} {fs : List (List Nat × List Nat)} {snd : List Nat} {rcs : List (List Nat)} {sz ri : Nat} {ts bx : List (List Nat)} {bg uu : Nat} {B : Nat} {R : Int32 → uS → Option uS} (hN : N ≤ 310) (hu : uu < 4) (ho : fsO fs) (as_ : adO snd) (ar : adO (rcs.getD ri [])) (hri : ri < rcs.length) (hl1 : ∀ j : Nat, j < ts.length → (ts.getD j []).length ≤ 1000) (ih : ∀ (i j n m u w : Nat) (s t : uS) (ts1 : List (List Nat)) (p : pl) (ir iv : Nat) (live : Bool), 1 ≤ i → cnR B ts s0 t0 i j n m u w → j ≤ N → m ≤ 520 → w ≤ ts.length → nEl s0 N j → rCt t0 t ts fs snd (rcs.getD ri []) sz (pg p) → rPn t ts p false → bdP s0 i p → (live = true → lvR s0 t0 N fs snd rcs sz ri ts bx bg uu u ts1 p ir iv s) → (live = false → fcP bx ts p = true) → ∃ (t1 : uS) (p1 : pl) (st1 : Bool), rnX t0 fs snd (rcs.getD ri []) sz ts s0 j (R (nI n) t) t1 p1 st1 ∧ rnO s0 t0 N fs snd rcs sz ri ts bx bg uu live u w i j ts1 s p1 st1) : ∀ (L : List (Nat × Nat × Nat)) (κ FU i j n m u w : Nat) (s t : uS) (ts1 : List (List Nat)) (p : pl) (ir iv : Nat) (live : Bool), 1 ≤ i → (κ = 0 ∨ κ = 22 ∨ κ = 23) → brsR (cnR B ts s0 t0) s0 t0 true L κ i j n m u w → j ≤ N → m ≤ 520 → w ≤ ts.length → nEl s0 N j → L.length + 2 ≤ FU → rCt t0 t ts fs snd (rcs.getD ri []) sz (pg p) → rPn t ts p false → bdP s0 i p → (live = true → lvR s0 t0 N fs snd rcs sz ri ts bx bg uu u ts1 p ir iv s) → (live = false → fcP bx ts p = true) → ∃ (t1 : uS) (p1 : pl) (st1 : Bool), rnX t0 fs snd (rcs.getD ri []) sz ts s0 j (fn_X12_choose_9 (fn_X12_run R) FU false (nI (brH L m - 1)) t) t1 p1 st1 ∧ rnO s0 t0 N fs snd rcs sz ri ts bx bg uu live u w i j ts1 s p1 st1 := by
  have over : ∀ (i j k w v : Nat) (p1 : pl) (s1 : uS) (ts2 : List (List Nat)) (ir iv : Nat), k + 1 ≤ j → j ≤ N → s0.I (16 + 3 * k) 0 = nI 24 → lvR s0 t0 N fs snd rcs sz ri ts bx bg uu v ts2 p1 ir iv s1 → (∀ s : uS, s.I 6 2 = nI N → (∀ i : Nat, i < 320 → ndS i s0 s) → fn_X7_behindElses_2 uFu (nI (k + 1)) s = some (nI j)) → ∀ M tu : Nat, tu + 1 ≤ 320 → fn_X7_run_4 (M + 1) (nI k) (nI tu) s1 = fn_X7_run_4 M (nI j) (nI (tu + 1)) s1 := by
    intro i j k w v p1 s1 ts2 ir iv hkj hj h24 hL hE M tu hM
    obtain ⟨hc, -⟩ := hL
    rw [run_nod (κ := 24) hc.2.1 (by omega) hN (by omega) hc.2.2.2.2.2 (((hc.1 k (by omega)).1 _).trans h24) (by decide), if_neg (by omega), if_pos rfl]
    show ((fn_X7_behindElses_2 uFu (nI (k + 1)) s1).bind fun v13 => fn_X7_run_4 M v13 (nI (tu + 1)) s1) = _
    rw [hE s1 hc.2.1 hc.1, Option.bind_some]
  intro L
  induction L with
  | nil =>
    intro κ FU i j n m u w s t ts1 p ir iv live h1 hκ hb hj hm hw hel hF hr hp hbd hlv hdd
    obtain ⟨-, hb, hnx⟩ := hb
    have hlt := hb.lt
    have h24 : s0.I (16 + 3 * (j - 1)) 0 = nI 24 := by obtain ⟨-, -, it, nt, ut, -, -, -, -, -, -, z, -⟩ := hb; exact z
    obtain ⟨f2, rfl⟩ : ∃ f2, FU = f2 + 2 := ⟨FU - 2, by simp at hF; omega⟩
    rcases t_br1 hN hu ho as_ ar hri hl1 ih h1 hκ hb hj hm hw hr hp hbd hlv hdd with ⟨t1, p1, st1, x1, x2, x3, x4, y⟩ | ⟨hk, t1, x1, x2, s1, ts2, d, c1, c2, c3, c4⟩
    · refine ⟨t1, p1, st1, ⟨x1 f2, x2, x3, x4.up (by omega) (by omega)⟩, y.blk (by omega) (by omega) (Nat.le_refl _) (fun s1 ts2 ir2 iv2 hL => over i j (j - 1) w w p1 s1 ts2 ir2 iv2 (by omega) hj h24 hL (fun s hs hn => ?_))⟩
      rw [show j - 1 + 1 = j by omega]
      exact c_elE (F := 999999) hN hs hn hj hel
    · refine ⟨t1, p, false, ⟨?_, hr.o x2, hp.le x2, hbd.up h1 (by omega)⟩, hdd, fun hl => Or.inl ⟨rfl, s1, ts2, d, ir, iv, by omega, c2 hl, c3, c4 hl⟩⟩
      show fn_X12_choose_9 (fn_X12_run R) (f2 + 2) false (nI (m - 1)) t = _
      rw [x1 (f2 + 1), (hr.o x2).1 _ _ (by omega) (by omega), hnx]
      show fb_X12_choose_9 (fn_X12_run R) (fn_X12_choose_9 (fn_X12_run R) f2) false (-1) t1 = _
      unfold fb_X12_choose_9
      rw [if_pos (by decide)]
  | cons q L ihL =>
    intro κ FU i j n m u w s t ts1 p ir iv live h1 hκ hb hj hm hw hel hF hr hp hbd hlv hdd
    obtain ⟨hk23, hb, hnx, hrest⟩ := hb
    have hlt := hb.lt
    have hlr : q.1 + 1 < j ∧ q.2.1 + 1 < m ∧ q.2.2 ≤ w := by
      rcases hrest with y | y
      · have := brsR.lt y; omega
      · have := brsR.lt y; omega
    have h24 : s0.I (16 + 3 * (q.1 - 1)) 0 = nI 24 := by obtain ⟨-, -, it, nt, ut, -, -, -, -, -, -, z, -⟩ := hb; exact z
    simp only [List.length_cons] at hF
    obtain ⟨f2, rfl⟩ : ∃ f2, FU = f2 + 2 := ⟨FU - 2, by omega⟩
    show ∃ (t1 : uS) (p1 : pl) (st1 : Bool), rnX t0 fs snd (rcs.getD ri []) sz ts s0 j (fn_X12_choose_9 (fn_X12_run R) (f2 + 2) false (nI (q.2.1 - 1)) t) t1 p1 st1 ∧ _
    rcases t_br1 hN hu ho as_ ar hri hl1 ih h1 hκ hb (by omega) (by omega) (by omega) hr hp hbd hlv hdd with ⟨t1, p1, st1, x1, x2, x3, x4, y⟩ | ⟨hk, t1, x1, x2, s1, ts2, d, c1, c2, c3, c4⟩
    · refine ⟨t1, p1, st1, ⟨x1 f2, x2, x3, x4.up (by omega) (by omega)⟩, y.blk (by omega) (by omega) hlr.2.2 (fun s1 ts2 ir2 iv2 hL => over i j (q.1 - 1) w q.2.2 p1 s1 ts2 ir2 iv2 (by omega) hj h24 hL (fun s hs hn => ?_))⟩
      rw [show q.1 - 1 + 1 = q.1 by omega]
      have hLl : L.length + 2 ≤ 1000000 := by
        have : ∀ (L : List (Nat × Nat × Nat)) (κ i j n m u w : Nat), brsR (cnR B ts s0 t0) s0 t0 true L κ i j n m u w → L.length ≤ m - n := by
          intro L
          induction L with
          | nil => intro κ i j n m u w _; simp
          | cons q L ihq =>
            intro κ i j n m u w h
            have hl := h.2.1.lt
            rcases h.2.2.2 with y | y
            · have a := ihq _ _ _ _ _ _ _ y
              have b := brsR.lt y
              simp only [List.length_cons]; omega
            · have a := ihq _ _ _ _ _ _ _ y
              have b := brsR.lt y
              simp only [List.length_cons]; omega
        rcases hrest with y | y
        · have := this _ _ _ _ _ _ _ _ y; omega
        · have := this _ _ _ _ _ _ _ _ y; omega
      rcases hrest with y | y
      · exact c_elsx hN hs hn L 22 q.1 j q.2.1 m q.2.2 w 1000000 y (Or.inl rfl) hj hel hLl
      · exact c_elsx hN hs hn L 23 q.1 j q.2.1 m q.2.2 w 1000000 y (Or.inr rfl) hj hel hLl
    · have hr1 := hr.o x2
      have e0 : fn_X12_choose_9 (fn_X12_run R) (f2 + 2) false (nI (q.2.1 - 1)) t = fn_X12_choose_9 (fn_X12_run R) (f2 + 1) false (nI (brH L m - 1)) t1 := by
        rw [x1 (f2 + 1), hr1.1 _ _ (by omega) (by omega), hnx]
      have go : ∀ κ' : Nat, κ' = 0 ∨ κ' = 22 ∨ κ' = 23 → brsR (cnR B ts s0 t0) s0 t0 true L κ' q.1 j q.2.1 m q.2.2 w → ∃ (t1 : uS) (p1 : pl) (st1 : Bool), rnX t0 fs snd (rcs.getD ri []) sz ts s0 j (fn_X12_choose_9 (fn_X12_run R) (f2 + 2) false (nI (q.2.1 - 1)) t) t1 p1 st1 ∧ rnO s0 t0 N fs snd rcs sz ri ts bx bg uu live u w i j ts1 s p1 st1 := by
        intro κ' hκ' y
        obtain ⟨t2, p2, st2, w1, w2⟩ := ihL κ' (f2 + 1) q.1 j q.2.1 m q.2.2 w s1 t1 ts2 p ir iv live (by omega) hκ' y hj hm hw hel (by omega) hr1 (hp.le x2) (hbd.up h1 (by omega)) c2 hdd
        refine ⟨t2, p2, st2, ⟨?_, w1.2⟩, w2.pre (d := d) c1 (by omega) hlt.2.2 c3 c4⟩
        rw [e0]
        exact w1.1
      rcases hrest with y | y
      · exact go 22 (Or.inr (Or.inl rfl)) y
      · exact go 23 (Or.inr (Or.inr rfl)) y
/-- a command -/
theorem t_cmd {s0 t0 : uS} {N : Nat} {fs : List (List Nat × List Nat)} {snd : List Nat} {rcs : List (List Nat)} {sz ri : Nat} {ts bx : List (List Nat)} {bg uu : Nat} (hN : N ≤ 310) (hu : uu < 4) (ho : fsO fs) (as_ : adO snd) (ar : adO (rcs.getD ri [])) (hri : ri < rcs.length) (hl1 : ∀ j : Nat, j < ts.length → (ts.getD j []).length ≤ 1000) (hbx : bxO bx) (hac : acN s0 1 N ≤ 100) : ∀ (B f : Nat), 3 * B ≤ f → ∀ (i j n m u w : Nat) (s t : uS) (ts1 : List (List Nat)) (p : pl) (ir iv : Nat) (live : Bool), 1 ≤ i → cnR B ts s0 t0 i j n m u w → j ≤ N → m ≤ 520 → w ≤ ts.length → nEl s0 N j → rCt t0 t ts fs snd (rcs.getD ri []) sz (pg p) → rPn t ts p false → bdP s0 i p → (live = true → lvR s0 t0 N fs snd rcs sz ri ts bx bg uu u ts1 p ir iv s) → (live = false → fcP bx ts p = true) → ∃ (t1 : uS) (p1 : pl) (st1 : Bool), rnX t0 fs snd (rcs.getD ri []) sz ts s0 j ((fg_2 f).2.1 (nI n) t) t1 p1 st1 ∧ rnO s0 t0 N fs snd rcs sz ri ts bx bg uu live u w i j ts1 s p1 st1 := by
  intro B
  induction B with
  | zero => intro f hf i j n m u w s t ts1 p ir iv live h1 hc; exact hc.elim
  | succ B ihB =>
    intro f hf i j n m u w s t ts1 p ir iv live h1 hc hj hm hw hel hr hp hbd hlv hdd
    obtain ⟨f3, rfl⟩ : ∃ f3, f = f3 + 3 := ⟨f - 3, by omega⟩
    obtain ⟨e1, e2, e3, κ, hk, h0, hc⟩ := hc
    show ∃ (t1 : uS) (p1 : pl) (st1 : Bool), rnX t0 fs snd (rcs.getD ri []) sz ts s0 j (fn_X12_command1 (fn_X12_choose (fn_X12_run (fg_2 f3).2.1)) (nI n) t) t1 p1 st1 ∧ _
    rcases hc with ⟨k1, ej, em, h98, ha⟩ | ⟨k0, h98, L, h99, hbr⟩
    · subst ej
      subst em
      have ha' := ha.fr (more := []) (s1 := s0) (t1 := t) ⟨fun _ => rfl, fun _ => rfl, fun _ => rfl⟩ (fun r a b => hr.1 _ _ (by omega) (by omega))
      rw [List.append_nil] at ha'
      have hsp := acN_sp (s := s0) (a := 1) (b := i) h1 (c := N) (by omega)
      obtain ⟨t1, ff, fl, cp, b, x1, x2, x3, x4⟩ := r_act (R := fn_X12_choose (fn_X12_run (fg_2 f3).2.1)) (show n < 520 by omega) ⟨k1, hk⟩ ((hr.1 _ _ (by omega) (by omega)).trans h98) ha' hr.2.1 hp (by have := hbd.1; omega) (by have := hbd.2.1; omega)
      refine ⟨t1, _, _, ⟨x1, hr.a x3 x2.2.2.1, x2, hbd.st h1 h0 hk⟩, fun z => fcP_st (hdd z), fun hl => ?_⟩
      have hL := hlv hl
      have hc := hL.1
      have hnode : ∀ M tu : Nat, tu + 1 ≤ 320 → fn_X7_run_4 (M + 1) (nI i) (nI tu) s = ((fn_X7_perform (16 + 3 * i) s).bind fun s11 => fn_X7_run_4 M (nI (i + 1)) (nI (tu + 1)) s11) := by
        intro M tu hM
        rw [run_nod (κ := κ) hc.2.1 (by omega) hN (by omega) hc.2.2.2.2.2 (((hc.1 i (by omega)).1 _).trans h0) (by omega), if_neg (by omega), if_neg (by omega)]
      by_cases c1 : κ = 1
      · subst c1
        refine Or.inr (Or.inl ⟨rfl, s, ts1, 1, ir, iv, by omega, hL.up e3, fun _ _ => rfl, fun M tu hM => ?_⟩)
        have hP : fn_X7_perform (16 + 3 * i) s = some (wI s 1070 17 1) := by
          unfold fn_X7_perform
          rw [(hc.1 i (by omega)).1, h0, if_pos (show nI 1 = 1 from rfl)]
        rw [hnode (M + 1) tu (by omega), hP, Option.bind_some]
        exact run_stop (by rw [wI_e]; decide)
      · rcases c_actn hu (show i < 320 by omega) hbx e3 hw (show n < 520 by omega) ⟨by omega, hk⟩ h0 hp.2.2.2.1 hL x4 ha with ⟨s1, ir1, iv1, a1, a2⟩ | ⟨a0, s1, a1, a2, a3⟩
        · refine Or.inl ⟨decide_eq_false c1, s1, ts1, 1, ir1, iv1, by omega, a2, fun _ _ => rfl, fun M tu hM => ?_⟩
          rw [hnode M tu hM, a1, Option.bind_some]
        · refine Or.inr (Or.inr ⟨a0, s1, 1, by omega, a2, fun M tu hM => ?_⟩)
          rw [hnode (M + 1) tu (by omega), a1, Option.bind_some]
          exact run_stop (by rw [a3]; decide)
    · subst k0
      have hlb := brsR.lt hbr
      have hLl : ∀ (L : List (Nat × Nat × Nat)) (κ i j n m u w : Nat), brsR (cnR B ts s0 t0) s0 t0 true L κ i j n m u w → L.length ≤ m - n := by
        intro L
        induction L with
        | nil => intro κ i j n m u w _; simp
        | cons q L ihq =>
          intro κ i j n m u w h
          have hl := h.2.1.lt
          rcases h.2.2.2 with y | y
          · have a := ihq _ _ _ _ _ _ _ y
            have b := brsR.lt y
            simp only [List.length_cons]; omega
          · have a := ihq _ _ _ _ _ _ _ y
            have b := brsR.lt y
            simp only [List.length_cons]; omega
      have hl2 := hLl _ _ _ _ _ _ _ _ hbr
      obtain ⟨t1, p1, st1, w1, w2⟩ := t_brs hN hu ho as_ ar hri hl1 (ihB f3 (by omega)) L 0 1000000 i j (n + 1) m u w s t ts1 p ir iv live h1 (Or.inl rfl) hbr hj hm hw hel (by omega) hr hp hbd hlv hdd
      refine ⟨t1, p1, st1, ⟨?_, w1.2⟩, w2⟩
      unfold fn_X12_command1
      rw [g_1098 (show n < 520 by omega), Option.bind_some, hr.1 _ _ (by omega) (by omega), h98, if_pos (show nI 0 = 0 from rfl)]
      unfold fn_X12_choose
      rw [g_1099 (show n < 520 by omega), Option.bind_some, hr.1 _ _ (by omega) (by omega), h99]
      have w1' : fn_X12_choose_9 (fn_X12_run (fg_2 f3).2.1) uFu false (nI (brH L m - 1)) t = some t1 := w1.1
      rw [w1', Option.bind_some]
