/-! PUTSCRIPT; all commands -/
theorem m_put (PW : parseW) {u : Nat} (hu : u < 4) {s t : uS} {ps : List (Nat × List Nat)} {bg v : Nat} (h : cCx u s t ps bg v) (hls : lsO t) (hp : ps.length = 2) (hnm : isNm (ps.getD 0 pk0).2 = true) : ∃ s1 t1 : uS, ∃ b : Bool, fn_X11_execute (nI u) 0 s = some s1 ∧ fn_X12_putScript (nI u) t = some (t1, b) ∧ cmdR u s t s1 t1 b := by
  have hu5 : u < 5 := by omega
  obtain ⟨fr, s1, t0, t1, ln, r, a1, a2, a3, a4, a5, a6, a7, a8, a9, a10, aL, a11, a12, a13⟩ := m_parse PW hu (show 1 < 2 by decide) h hls (by omega)
  have hc : s.I (978 + 16 * u + 1) 3 = nI 2 := by have := h.2.2.1.1; rw [List.length_map, hp] at this; exact this
  have hpt := h.2.2.2.1 1 (by decide) (by omega)
  have hpt0 := (h.2.2.2.1 0 (by decide) (by omega)).ol hu a10
  have hx20 : 0 < (ps.getD 0 pk0).2.length ∧ (ps.getD 0 pk0).2.length ≤ 20 := by
    unfold isNm at hnm
    rw [Bool.and_eq_true, decide_eq_true_eq] at hnm
    exact hnm.1
  obtain ⟨scs, ac, ⟨es, h4⟩, sl, h5⟩ := a6.2.2.1
  have htz := h.tz hu a9
  have hlt : (ps.map Prod.snd).length = 2 := by rw [List.length_map]; exact hp
  have hnmd := c_named hu (kOk_u hu).1 htz (show 0 < (ps.map Prod.snd).length by omega) h4
  have hnm' : fn_X10_scriptNamed (985 + 16 * u) (978 + 16 * u + 1) 0 s1 = _ := hnmd
  rw [getD_map_snd] at hnm'
  have hrn := r_named hu (show 0 < 2 by decide) hpt0 h5
  have hrn' : fn_X12_scriptOf (nI u) 0 t1 = _ := hrn
  have hl := h4.2.1
  unfold fn_X11_execute fn_X11_takeScript fn_X12_putScript fn_X10_isFull
  have e1 : (nI 2 - 1 : Int32) = nI 1 := rfl
  simp only [↓reduceIte, pgt_ses hu, Option.bind_some, if_pos (so_ses hu), hc, e1, a1, a2, a3, pgt_usr hu, if_pos (so_usr hu), hnm', pgt_que hu5, if_pos (so_que hu5), show ¬ ((0 : Int32) = 1) by decide]
  have a4' : fn_X12_source (nI u) 1 t = some t0 := a4
  rw [a4', Option.bind_some]
  rcases a13 with ⟨l0, r0, hgd⟩ | ⟨q, q1, q2, q3⟩
  · subst l0
    have hsc : fn_X12_isScript (nI u) t0 = some (t1, true) := by
      unfold fn_X12_isScript
      rw [a5, Option.bind_some]
      show (if (0 : Int32) ≤ r then _ else _) = _
      rw [if_neg (Int32.not_le.mpr r0)]
    rw [hsc, Option.bind_some, if_pos (show nI 0 ≤ 0 by decide)]
    simp only [↓reduceIte, hrn', Option.bind_some, g_1149 hu, h5.2.2.1, h4.2.2.1, if_pos (show nI 0 ≤ 0 by decide)]
    have hscr : ∀ k : Nat, (∃ i : Nat, i < scs.length ∧ k = es.getD i 0) → isScr s u k := by
      rintro k ⟨i, hi, rfl⟩
      have hs := h.1.1
      refine ⟨i, by omega, ?_, ?_⟩
      · have := a9.2.2.2.1 (985 + 16 * u) 3 (by omega) (by unfold psI; omega)
        rw [← this, h4.2.2.1]
        exact nI_lt hi (by omega)
      · have := a9.2.2.2.2.2.2 (985 + 16 * u + 1) i (by omega) (by unfold psI; omega)
        rw [← this]
        exact (h4.2.2.2.1 i hi).1
    have hx := hpt.1
    cases hsn : snx (ps.getD 0 pk0).2 scs 0 with
    | some i =>
      have hi : i < scs.length := by have := snx_lt hsn; omega
      rw [oI_s, if_pos (nI_pos' (show i < 2 ^ 31 by omega))]
      obtain ⟨s2, t2, b, m1, m2, m3⟩ := m_over hu h.1 a6 a7 a8 htz (by omega) (by rw [getD_map_snd]; exact hx) (by rw [getD_map_snd]; exact hgd) hscr h4 h5 hi (by rw [getD_map_snd]; exact a11) (by rw [getD_map_snd]; exact a12)
      refine ⟨s2, t2, b, ?_, m2, m3⟩
      show ((fb_X11_takeScript_94 (nI u) (978 + 16 * u + 1) (some (es.getD i 0)) s1).bind _) = _
      rw [m1, Option.bind_some]
    | none =>
      rw [oI_n, if_neg (show ¬ (0 : Int32) ≤ -1 by decide)]
      by_cases c : scs.length = 4
      · have c4 : nI scs.length = 4 := by rw [c]; rfl
        obtain ⟨s2, t2, l1, l2, l3⟩ := cmd_no hu (w := kW_4) (by decide) a6 h.1.1 (by omega) (by omega)
        refine ⟨s2, t2, true, ?_, by rw [if_pos c4, show kW_205 = kW_4 from rfl, l2, Option.bind_some], l3⟩
        show (((if nI scs.length = 4 then some true else some false).bind fun v15 => if v15 = true then _ else _).bind _) = _
        rw [if_pos c4, Option.bind_some, if_pos rfl, l1, Option.bind_some, Option.bind_some]
      · have c4 : ¬ nI scs.length = 4 := by show ¬ nI scs.length = nI 4; rw [nI_eq (by omega) (by omega)]; exact c
        obtain ⟨s2, t2, b, m1, m2, m3⟩ := m_new hu h.1 a6 a7 a8 htz (by omega) (by rw [getD_map_snd]; exact hx20) (by rw [getD_map_snd]; exact hx) (by rw [getD_map_snd]; exact hgd) h4 h5 (by omega) (by rw [getD_map_snd]; exact hpt0) (by rw [getD_map_snd]; exact a11) (by rw [getD_map_snd]; exact a12)
        refine ⟨s2, t2, b, ?_, by rw [if_neg c4]; exact m2, m3⟩
        show (((if nI scs.length = 4 then some true else some false).bind fun v15 => if v15 = true then _ else _).bind _) = _
        rw [if_neg c4, Option.bind_some, if_neg (by decide), m1, Option.bind_some]
  · subst q3
    rw [q2] at a5
    obtain ⟨s2, t2, m1, m2, m3⟩ := m_fault hu h.1.1 hpt.1 hpt.2.1 q1 a5 a6 a7 a8 a12
    rw [m2, Option.bind_some, m1]
    have hln := lnc_le (ps.getD 1 pk0).2 q
    have hx := hpt.1
    refine ⟨s2, t2, true, ?_, rfl, m3⟩
    simp only [if_neg (nI_nle (show 0 < 1 + lnc (ps.getD 1 pk0).2 q by omega) (by omega))]
    cases (snx (ps.getD 0 pk0).2 scs 0).map (fun i => es.getD i 0) <;> rfl
theorem wix_6 {w : List Nat} : ∀ {ws : List (List Nat)} {i c : Nat}, (∀ x ∈ ws, 6 ≤ x.length) → wix w ws i = some c → 6 ≤ w.length := by
  intro ws
  induction ws with
  | nil => intro i c _ h; cases h
  | cons x ws ih =>
    intro i c hx h
    unfold wix at h
    split at h
    · rename_i e
      rw [eqW_len e]; exact hx x (by simp)
    · exact ih (fun y hy => hx y (by simp [hy])) h
theorem ls_83 {x1 x2 : Int32} {b : Bool} {s : uS} {r : uS × Bool} (h0 : b = true → x2 ≠ 0 ∧ x2 ≠ 1) (h : fb_X12_ordered_83 x1 x2 b s = some r) (g : lsO s) (hn : 1171 ≤ s.n) : lsO r.1 := by
  have e209 : ∀ r, fb_X12_ordered_209 x1 s = some r → lsO r.1 := by
    intro r h
    unfold fb_X12_ordered_209 at h
    obtain ⟨s2, e2, h⟩ := uu_ob h
    obtain ⟨g, hn⟩ := g.ag hn (zc_X12_no e2) (by decide) (by decide)
    cases Option.some.inj h
    exact g
  have e220 : ∀ r, fb_X12_ordered_220 x1 s = some r → lsO r.1 := by
    intro r h
    unfold fb_X12_ordered_220 at h
    obtain ⟨s2, e2, h⟩ := uu_ob h
    obtain ⟨g, hn⟩ := g.ag hn (zc_X12_line e2) (by decide) (by decide)
    cases Option.some.inj h
    exact g
  unfold fb_X12_ordered_83 at h
  cases b with
  | false =>
    replace h := uu_neg (by decide) h
    obtain ⟨s2, e2, h⟩ := uu_ob h
    obtain ⟨g, hn⟩ := g.ag hn (zc_X12_no e2) (by decide) (by decide)
    cases Option.some.inj h
    exact g
  | true =>
    obtain ⟨c0, c1⟩ := h0 rfl
    replace h := uu_pos rfl h
    replace h := uu_neg c0 h
    replace h := uu_neg c1 h
    by_cases c2 : x2 = 2
    · replace h := uu_pos c2 h
      obtain ⟨v12, e12, h⟩ := uu_ob h
      by_cases d1 : (2000 : Int32) < v12
      · exact e209 _ (uu_pos d1 h)
      · replace h := uu_neg d1 h
        obtain ⟨v15, e15, h⟩ := uu_ob h
        by_cases d2 : 0 ≤ v15
        · exact e220 _ (uu_pos d2 h)
        · replace h := uu_neg d2 h
          obtain ⟨v18, e18, h⟩ := uu_ob h
          by_cases d3 : v18 = 4
          · exact e209 _ (uu_pos d3 h)
          · exact e220 _ (uu_neg d3 h)
    replace h := uu_neg c2 h
    by_cases c3 : x2 = 3
    · replace h := uu_pos c3 h
      obtain ⟨q, e, h⟩ := uu_ob h
      obtain ⟨g, hn⟩ := g.ag hn (zc_X12_setActive e) (by decide) (by decide)
      cases Option.some.inj h
      exact g
    replace h := uu_neg c3 h
    by_cases c4 : x2 = 4
    · replace h := uu_pos c4 h
      obtain ⟨q, e, h⟩ := uu_ob h
      obtain ⟨g, hn⟩ := g.ag hn (zc_X12_getScript e) (by decide) (by decide)
      cases Option.some.inj h
      exact g
    replace h := uu_neg c4 h
    by_cases c5 : x2 = 5
    · replace h := uu_pos c5 h
      obtain ⟨q, e, h⟩ := uu_ob h
      obtain ⟨g, hn⟩ := g.ag hn (zc_X12_listScripts e) (by decide) (by decide)
      cases Option.some.inj h
      exact g
    replace h := uu_neg c5 h
    by_cases c6 : x2 = 6
    · replace h := uu_pos c6 h
      obtain ⟨q, e, h⟩ := uu_ob h
      obtain ⟨g, hn⟩ := g.ag hn (zc_X12_deleteScript e) (by decide) (by decide)
      cases Option.some.inj h
      exact g
    replace h := uu_neg c6 h
    by_cases c7 : x2 = 7
    · replace h := uu_pos c7 h
      obtain ⟨q, e, h⟩ := uu_ob h
      obtain ⟨g, hn⟩ := g.ag hn (zc_X12_renameScript e) (by decide) (by decide)
      cases Option.some.inj h
      exact g
    replace h := uu_neg c7 h
    obtain ⟨q, e, h⟩ := uu_ob h
    obtain ⟨g, hn⟩ := g.ag hn (zc_X12_line e) (by decide) (by decide)
    cases Option.some.inj h
    exact g
theorem m_cmd0 (PW : parseW) {u : Nat} (hu : u < 4) {s t : uS} {w : List Nat} {ps : List (Nat × List Nat)} {bg v : Nat} (hw : pW (978 + 16 * u) u s t w) (hd : pD (978 + 16 * u) u s t ps bg []) (ho : t.F 1159 u = oI (wix w ordW 0)) (h : cCx u s (r_frs t u) ps bg v) (hls : lsO (r_frs t u)) : ∃ (c : Int32) (s1 t1 : uS) (b : Bool), fn_X8_command (978 + 16 * u) s = some c ∧ fn_X11_execute (nI u) c s = some s1 ∧ fn_X12_ordered (nI u) t = some (t1, b) ∧ cmdR u s (r_frs t u) s1 t1 b ∧ ((s1.n = s.n ∧ s1.m = s.m) ∨ 6 ≤ w.length) := by
  have hu5 : u < 5 := by omega
  rw [c_command hu hw hd, r_ordered hu hd ho]
  have hl3 := hd.1.2.1
  rw [List.length_map] at hl3
  have hk : ∀ i : Nat, i < ps.length → (ps.getD i pk0).1 = 2 ∨ (ps.getD i pk0).1 = 3 := fun j hj => ((hd.2.2.1 j hj).2.1).elim Or.inl (fun e => Or.inr e.1)
  refine ⟨(if okW w ps = true then oI (wix w ordW 0) else -1), ?_⟩
  have bad : ∀ x : Int32, okW w ps = false → ∃ (s1 t1 : uS) (b : Bool), fn_X11_execute (nI u) (-1) s = some s1 ∧ fb_X12_ordered_83 (nI u) x false (r_frs t u) = some (t1, b) ∧ cmdR u s (r_frs t u) s1 t1 b ∧ (s1.n = s.n ∧ s1.m = s.m) := by
    intro x _
    obtain ⟨s2, t2, l1, l2, l3⟩ := q_no (w := kW_0) hu5 (by decide) h.2.1.2.1
    obtain ⟨y1, y2, y3⟩ := h.2.1.q hu h.1.1 l3
    refine ⟨s2, t2, true, ?_, ?_, ⟨Or.inl ⟨rfl, y1⟩, by omega, by omega⟩, y2, y3⟩
    · unfold fn_X11_execute
      simp only [show ¬ ((-1 : Int32) = 0) by decide, show ¬ ((-1 : Int32) = 1) by decide, show ¬ ((-1 : Int32) = 2) by decide, show ¬ ((-1 : Int32) = 3) by decide, show ¬ ((-1 : Int32) = 4) by decide, show ¬ ((-1 : Int32) = 5) by decide, show ¬ ((-1 : Int32) = 6) by decide, show ¬ ((-1 : Int32) = 7) by decide, show ¬ ((-1 : Int32) = 8) by decide, ↓reduceIte, pgt_que hu5, Option.bind_some, if_pos (so_que hu5), l1]
    · unfold fb_X12_ordered_83
      rw [if_neg (by decide), show kW_201 = kW_0 from rfl, l2, Option.bind_some]
  cases hok : okW w ps with
  | false =>
    obtain ⟨s1, t1, b, r1, r2, r3, r4⟩ := bad (oI (wix w ordW 0)) hok
    exact ⟨s1, t1, b, rfl, r1, r2, r3, Or.inl r4⟩
  | true =>
    unfold okW at hok
    cases hx : wix w ordW 0 with
    | none => rw [hx] at hok; cases hok
    | some c =>
      rw [hx] at hok
      have hok : okc c ps = true := hok
      have hc := wix_9 hx
      rw [ok_eq hc hl3 hk, Bool.and_eq_true] at hok
      obtain ⟨hf, hn⟩ := hok
      have hpl : ps.length = pOf c := by
        unfold okf at hf
        rw [Bool.and_eq_true, decide_eq_true_eq] at hf
        exact hf.1
      rw [oI_s]
      suffices hS : ∃ (s1 t1 : uS) (b : Bool), fn_X11_execute (nI u) (nI c) s = some s1 ∧ fb_X12_ordered_83 (nI u) (nI c) true (r_frs t u) = some (t1, b) ∧ cmdR u s (r_frs t u) s1 t1 b by
        obtain ⟨s1, t1, b, r1, r2, r3⟩ := hS
        exact ⟨s1, t1, b, rfl, r1, r2, r3, Or.inr (wix_6 (by unfold ordW; decide) hx)⟩
      have hcs : c = 0 ∨ c = 1 ∨ c = 2 ∨ c = 3 ∨ c = 4 ∨ c = 5 ∨ c = 6 ∨ c = 7 ∨ c = 8 := by omega
      rcases hcs with e | e | e | e | e | e | e | e | e <;> subst e
      · have hnm : isNm (ps.getD 0 pk0).2 = true := by
          unfold okn at hn
          simp at hn
          exact hn
        obtain ⟨s1, t1, b, r1, r2, r3⟩ := m_put PW hu h hls hpl hnm
        exact ⟨s1, t1, b, r1, by unfold fb_X12_ordered_83; rw [if_pos rfl, if_pos (show nI 0 = 0 from rfl), bind_id]; exact r2, r3⟩
      · obtain ⟨s1, t1, r1, r2, r3⟩ := m_check PW hu h hls hpl
        exact ⟨s1, t1, true, r1, r2, r3⟩
      · obtain ⟨s1, t1, r1, r2, r3⟩ := m_space hu h (by rw [hpl]; decide)
        refine ⟨s1, t1, true, ?_, r2, r3⟩
        unfold fn_X11_execute
        rw [if_neg (show ¬ nI 2 = 0 by decide), if_neg (show ¬ nI 2 = 1 by decide), if_pos (show nI 2 = 2 from rfl), r1, Option.bind_some]
      · obtain ⟨s1, t1, b, r1, r2, r3⟩ := m_setActive hu h (by rw [hpl]; decide)
        refine ⟨s1, t1, b, ?_, ?_, r3⟩
        · unfold fn_X11_execute
          rw [if_neg (show ¬ nI 3 = 0 by decide), if_neg (show ¬ nI 3 = 1 by decide), if_neg (show ¬ nI 3 = 2 by decide), if_pos (show nI 3 = 3 from rfl), r1, Option.bind_some]
        · unfold fb_X12_ordered_83
          rw [if_pos rfl, if_neg (show ¬ nI 3 = 0 by decide), if_neg (show ¬ nI 3 = 1 by decide), if_neg (show ¬ nI 3 = 2 by decide), if_pos (show nI 3 = 3 from rfl), bind_id]; exact r2
      · obtain ⟨s1, t1, r1, r2, r3⟩ := m_get hu h (by rw [hpl]; decide)
        refine ⟨s1, t1, true, ?_, ?_, r3⟩
        · unfold fn_X11_execute
          rw [if_neg (show ¬ nI 4 = 0 by decide), if_neg (show ¬ nI 4 = 1 by decide), if_neg (show ¬ nI 4 = 2 by decide), if_neg (show ¬ nI 4 = 3 by decide), if_pos (show nI 4 = 4 from rfl), r1, Option.bind_some]
        · unfold fb_X12_ordered_83
          rw [if_pos rfl, if_neg (show ¬ nI 4 = 0 by decide), if_neg (show ¬ nI 4 = 1 by decide), if_neg (show ¬ nI 4 = 2 by decide), if_neg (show ¬ nI 4 = 3 by decide), if_pos (show nI 4 = 4 from rfl), bind_id]; exact r2
      · obtain ⟨s1, t1, r1, r2, r3⟩ := m_list hu h
        refine ⟨s1, t1, true, ?_, ?_, r3⟩
        · unfold fn_X11_execute
          rw [if_neg (show ¬ nI 5 = 0 by decide), if_neg (show ¬ nI 5 = 1 by decide), if_neg (show ¬ nI 5 = 2 by decide), if_neg (show ¬ nI 5 = 3 by decide), if_neg (show ¬ nI 5 = 4 by decide), if_pos (show nI 5 = 5 from rfl), r1, Option.bind_some]
        · unfold fb_X12_ordered_83
          rw [if_pos rfl, if_neg (show ¬ nI 5 = 0 by decide), if_neg (show ¬ nI 5 = 1 by decide), if_neg (show ¬ nI 5 = 2 by decide), if_neg (show ¬ nI 5 = 3 by decide), if_neg (show ¬ nI 5 = 4 by decide), if_pos (show nI 5 = 5 from rfl), bind_id]; exact r2
      · obtain ⟨s1, t1, b, r1, r2, r3⟩ := m_delete hu h (by rw [hpl]; decide)
        refine ⟨s1, t1, b, ?_, ?_, r3⟩
        · unfold fn_X11_execute
          rw [if_neg (show ¬ nI 6 = 0 by decide), if_neg (show ¬ nI 6 = 1 by decide), if_neg (show ¬ nI 6 = 2 by decide), if_neg (show ¬ nI 6 = 3 by decide), if_neg (show ¬ nI 6 = 4 by decide), if_neg (show ¬ nI 6 = 5 by decide), if_pos (show nI 6 = 6 from rfl), r1, Option.bind_some]
        · unfold fb_X12_ordered_83
          rw [if_pos rfl, if_neg (show ¬ nI 6 = 0 by decide), if_neg (show ¬ nI 6 = 1 by decide), if_neg (show ¬ nI 6 = 2 by decide), if_neg (show ¬ nI 6 = 3 by decide), if_neg (show ¬ nI 6 = 4 by decide), if_neg (show ¬ nI 6 = 5 by decide), if_pos (show nI 6 = 6 from rfl), bind_id]; exact r2
      · have hnm : isNm (ps.getD 1 pk0).2 = true := by
          unfold okn at hn
          simp at hn
          exact hn.2
        obtain ⟨s1, t1, b, r1, r2, r3⟩ := m_rename hu h (by rw [hpl]; decide) hnm
        refine ⟨s1, t1, b, ?_, ?_, r3⟩
        · unfold fn_X11_execute
          rw [if_neg (show ¬ nI 7 = 0 by decide), if_neg (show ¬ nI 7 = 1 by decide), if_neg (show ¬ nI 7 = 2 by decide), if_neg (show ¬ nI 7 = 3 by decide), if_neg (show ¬ nI 7 = 4 by decide), if_neg (show ¬ nI 7 = 5 by decide), if_neg (show ¬ nI 7 = 6 by decide), if_pos (show nI 7 = 7 from rfl), r1, Option.bind_some]
        · unfold fb_X12_ordered_83
          rw [if_pos rfl, if_neg (show ¬ nI 7 = 0 by decide), if_neg (show ¬ nI 7 = 1 by decide), if_neg (show ¬ nI 7 = 2 by decide), if_neg (show ¬ nI 7 = 3 by decide), if_neg (show ¬ nI 7 = 4 by decide), if_neg (show ¬ nI 7 = 5 by decide), if_neg (show ¬ nI 7 = 6 by decide), if_pos (show nI 7 = 7 from rfl), bind_id]; exact r2
      · obtain ⟨s2, t2, l1, l2, l3⟩ := cmd_line hu (w := kW_3) (by decide) h.2.1 h.1.1 (by omega) (by omega)
        refine ⟨s2, t2, true, ?_, ?_, l3⟩
        · unfold fn_X11_execute
          rw [if_neg (show ¬ nI 8 = 0 by decide), if_neg (show ¬ nI 8 = 1 by decide), if_neg (show ¬ nI 8 = 2 by decide), if_neg (show ¬ nI 8 = 3 by decide), if_neg (show ¬ nI 8 = 4 by decide), if_neg (show ¬ nI 8 = 5 by decide), if_neg (show ¬ nI 8 = 6 by decide), if_neg (show ¬ nI 8 = 7 by decide), if_pos (show nI 8 = 8 from rfl), pgt_que hu5, Option.bind_some, if_pos (so_que hu5), l1, Option.bind_some]
        · unfold fb_X12_ordered_83
          rw [if_pos rfl, if_neg (show ¬ nI 8 = 0 by decide), if_neg (show ¬ nI 8 = 1 by decide), if_neg (show ¬ nI 8 = 2 by decide), if_neg (show ¬ nI 8 = 3 by decide), if_neg (show ¬ nI 8 = 4 by decide), if_neg (show ¬ nI 8 = 5 by decide), if_neg (show ¬ nI 8 = 6 by decide), if_neg (show ¬ nI 8 = 7 by decide), show kW_204 = kW_3 from rfl, l2, Option.bind_some]
theorem nI_nz {c : Nat} (h : c < 100) (y : c ≠ 0) : nI c ≠ 0 := fun z => y ((nI_eq (b := 0) (by omega) (by decide)).mp z)
theorem nI_n1 {c : Nat} (h : c < 100) (y : c ≠ 1) : nI c ≠ 1 := fun z => y ((nI_eq (b := 1) (by omega) (by decide)).mp z)
theorem m_cmd (PW : parseW) {u : Nat} (hu : u < 4) {s t : uS} {w : List Nat} {ps : List (Nat × List Nat)} {bg v : Nat} (hw : pW (978 + 16 * u) u s t w) (hd : pD (978 + 16 * u) u s t ps bg []) (ho : t.F 1159 u = oI (wix w ordW 0)) (h : cCx u s (r_frs t u) ps bg v) (hls : lsO t) (htn : 1171 ≤ t.n) : ∃ (c : Int32) (s1 t1 : uS) (b : Bool), fn_X8_command (978 + 16 * u) s = some c ∧ fn_X11_execute (nI u) c s = some s1 ∧ fn_X12_ordered (nI u) t = some (t1, b) ∧ cmdR u s (r_frs t u) s1 t1 b ∧ ((s1.n = s.n ∧ s1.m = s.m) ∨ 6 ≤ w.length) ∧ lsO t1 := by
  have hls' : lsO (r_frs t u) := fun n hn => by rw [frs_F (by decide) (by decide) (by decide) (by decide), frs_F (by decide) (by decide) (by decide) (by decide)]; exact hls n hn
  have htn' : 1171 ≤ (r_frs t u).n := htn
  obtain ⟨c, s1, t1, b, r1, r2, r3, r4, r5⟩ := m_cmd0 PW hu hw hd ho h hls'
  refine ⟨c, s1, t1, b, r1, r2, r3, r4, r5, ?_⟩
  rw [r_ordered hu hd ho] at r3
  have hl3 := hd.1.2.1
  rw [List.length_map] at hl3
  have hk : ∀ i : Nat, i < ps.length → (ps.getD i pk0).1 = 2 ∨ (ps.getD i pk0).1 = 3 := fun j hj => ((hd.2.2.1 j hj).2.1).elim Or.inl (fun e => Or.inr e.1)
  by_cases hs : okW w ps = true ∧ (oI (wix w ordW 0) = 0 ∨ oI (wix w ordW 0) = 1)
  · obtain ⟨hok, hc⟩ := hs
    rw [hok] at r3
    unfold okW at hok
    cases hx : wix w ordW 0 with
    | none => rw [hx] at hok; cases hok
    | some c =>
      rw [hx] at hok
      have hok : okc c ps = true := hok
      have hc9 := wix_9 hx
      rw [ok_eq hc9 hl3 hk, Bool.and_eq_true] at hok
      obtain ⟨hf, hn⟩ := hok
      have hpl : ps.length = pOf c := by
        unfold okf at hf
        rw [Bool.and_eq_true, decide_eq_true_eq] at hf
        exact hf.1
      rw [hx, oI_s] at hc r3
      rcases hc with z | z
      · have c0 : c = 0 := Decidable.of_not_not fun y => nI_nz (by omega) y z
        subst c0
        have hp2 : ps.length = 2 := hpl
        obtain ⟨fr, s1', t0, t1', ln, r, a1, a2, a3, a4, a5, a6, a7, a8, a9, a10, aL, -⟩ := m_parse PW hu (show 1 < 2 by decide) h hls' (by omega)
        unfold fb_X12_ordered_83 at r3
        replace r3 := uu_pos rfl r3
        replace r3 := uu_pos rfl r3
        rw [bind_id] at r3
        exact ls_put a4 a5 aL (by rw [a10.1.2.2.2.1]; exact htn') r3
      · have c1 : c = 1 := Decidable.of_not_not fun y => nI_n1 (by omega) y z
        subst c1
        have hp1 : ps.length = 1 := hpl
        obtain ⟨fr, s1', t0, t1', ln, r, a1, a2, a3, a4, a5, a6, a7, a8, a9, a10, aL, -⟩ := m_parse PW hu (show 0 < 2 by decide) h hls' (by omega)
        exact ls_chk a4 a5 aL (by rw [a10.1.2.2.2.1]; exact htn') r3
  · exact ls_83 (fun y => ⟨fun z => hs ⟨y, Or.inl z⟩, fun z => hs ⟨y, Or.inr z⟩⟩) r3 hls' htn'
