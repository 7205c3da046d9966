/-! commands: HAVESPACE, SETACTIVE -/
def cCx (u : Nat) (s t : uS) (ps : List (Nat × List Nat)) (bg v : Nat) : Prop := (1171 ≤ s.n ∧ s.n + 3 ≤ 600000 ∧ s.m + 2030 ≤ 7302250) ∧ pMid u s t s t ∧ cTz s (978 + 16 * u + 1) 6000 3 (ps.map Prod.snd) bg [] ∧ (∀ p : Nat, p < 2 → p < ps.length → rPt u p t (ps.getD p pk0).2) ∧ s.I (978 + 16 * u) 1 = nI v ∧ t.F 1161 u = nI v ∧ v < 1000000000
theorem so_que {u : Nat} (h : u < 5) : uSo (qk u) 5 := (qk_so h).1
theorem cCx.nm {u p : Nat} (hu : u < 4) {s t : uS} {ps : List (Nat × List Nat)} {bg v : Nat} (h : cCx u s t ps bg v) (hp : p < ps.length) (hp2 : p < 2) {scs : List (List Nat × List Nat)} {ac : Option Nat} {es sl : List Nat} (h4 : cSc s u es scs ac) (h5 : rSc t u sl scs ac) : fn_X10_scriptNamed (985 + 16 * u) (978 + 16 * u + 1) (nI p) s = some ((snx (ps.getD p pk0).2 scs 0).map (fun i => es.getD i 0)) ∧ fn_X12_scriptOf (nI u) (nI p) t = some (oI (snx (ps.getD p pk0).2 scs 0)) := by
  refine ⟨?_, r_named hu hp2 (h.2.2.2.1 p hp2 hp) h5⟩
  have := c_named hu (kOk_u hu).1 h.2.2.1 (show p < (ps.map Prod.snd).length by rw [List.length_map]; exact hp) h4
  rw [getD_map_snd] at this
  exact this
theorem m_space {u : Nat} (hu : u < 4) {s t : uS} {ps : List (Nat × List Nat)} {bg v : Nat} (h : cCx u s t ps bg v) (hp : 0 < ps.length) : ∃ s1 t1 : uS, fn_X11_haveSpace (nI u) s = some s1 ∧ fb_X12_ordered_83 (nI u) 2 true t = some (t1, true) ∧ cmdR u s t s1 t1 true := by
  obtain ⟨scs, ac, ⟨es, h4⟩, sl, h5⟩ := h.2.1.2.2.1
  obtain ⟨n1, n2⟩ := h.nm hu hp (by decide) h4 h5
  have hl := h4.2.1
  have hcnt := h4.2.2.1
  have hcr := h5.2.2.1
  have hv := h.2.2.2.2.2.2
  have l1 := cmd_line hu (w := kW_3) (by decide) h.2.1 h.1.1 (by omega) (by omega)
  have l2 := cmd_no hu (w := kW_4) (by decide) h.2.1 h.1.1 (by omega) (by omega)
  unfold fn_X11_haveSpace fb_X11_haveSpace_29 fb_X11_haveSpace_46 fb_X11_haveSpace_56 fb_X12_ordered_83 fb_X12_ordered_209 fb_X12_ordered_220 fn_X10_isFull
  have n1' : fn_X10_scriptNamed (985 + 16 * u) (978 + 16 * u + 1) 0 s = _ := n1
  have n2' : fn_X12_scriptOf (nI u) 0 t = _ := n2
  rw [pgt_ses hu, Option.bind_some, if_pos (so_ses hu), pgt_usr hu, Option.bind_some, if_pos (so_usr hu), n1', Option.bind_some, pgt_que (show u < 5 by omega)]
  simp only [Option.bind_some, if_pos (so_usr hu), if_pos (so_que (show u < 5 by omega)), ↓reduceIte, g_1161 hu, h.2.2.2.2.1, h.2.2.2.2.2.1, hcnt, n2', g_1149 hu, hcr, show ¬ ((2 : Int32) = 0) by decide, show ¬ ((2 : Int32) = 1) by decide]
  by_cases c : v ≤ 2000
  · rw [if_pos (show nI v ≤ 2000 from nI_le c (by decide)), if_neg (show ¬ (2000 : Int32) < nI v from nI_nlt c (by decide))]
    cases hs : snx (ps.getD 0 pk0).2 scs 0 with
    | none =>
      rw [oI_n, if_neg (show ¬ (0 : Int32) ≤ -1 by decide)]
      show ∃ s1 t1 : uS, ((if nI scs.length = 4 then some true else some false).bind fun v5 => if v5 = true then _ else _) = some s1 ∧ _ ∧ _
      by_cases d : nI scs.length = 4
      · simp only [if_pos d, Option.bind_some, ↓reduceIte]
        obtain ⟨s2, t2, a1, a2, a3⟩ := l2
        exact ⟨s2, t2, by rw [a1, Option.bind_some], by rw [show kW_205 = kW_4 from rfl, a2, Option.bind_some], a3⟩
      · simp only [if_neg d, Option.bind_some, Bool.false_eq_true, ↓reduceIte]
        obtain ⟨s2, t2, a1, a2, a3⟩ := l1
        exact ⟨s2, t2, by rw [a1, Option.bind_some], by rw [show kW_204 = kW_3 from rfl, a2, Option.bind_some], a3⟩
    | some i =>
      have := snx_lt hs
      rw [oI_s, if_pos (show (0 : Int32) ≤ nI i from nI_pos' (by omega))]
      obtain ⟨s2, t2, a1, a2, a3⟩ := l1
      refine ⟨s2, t2, ?_, by rw [show kW_204 = kW_3 from rfl, a2, Option.bind_some], a3⟩
      show ((fn_X5_line (qk u) kW_3 s).bind _) = _
      rw [a1, Option.bind_some]
  · rw [if_neg (show ¬ nI v ≤ 2000 from nI_ge (show 2000 < v by omega) (by omega)), if_pos (show (2000 : Int32) < nI v from nI_lt (show 2000 < v by omega) (by omega))]
    obtain ⟨s2, t2, a1, a2, a3⟩ := l2
    refine ⟨s2, t2, ?_, by rw [show kW_205 = kW_4 from rfl, a2, Option.bind_some], a3⟩
    cases hs : snx (ps.getD 0 pk0).2 scs 0 with
    | none =>
      show ((if nI scs.length = 4 then some true else some false).bind fun v5 => if v5 = true then _ else _) = some s2
      by_cases d : nI scs.length = 4
      · simp only [if_pos d, Option.bind_some, ↓reduceIte, a1]
      · simp only [if_neg d, Option.bind_some, Bool.false_eq_true, ↓reduceIte, a1]
    | some i =>
      show ((fn_X5_refusal (qk u) kW_4 s).bind _) = _
      rw [a1, Option.bind_some]
theorem snx_nil : ∀ {l : List (List Nat × List Nat)} {i : Nat}, (∀ j : Nat, j < l.length → 0 < (l.getD j sc0).1.length) → snx [] l i = none := by
  intro l
  induction l with
  | nil => intro i h; rfl
  | cons y l ih =>
    intro i h
    unfold snx
    rw [if_neg (fun e => by have := h 0 (by simp); rw [show (y :: l).getD 0 sc0 = y from rfl, ← e] at this; exact absurd this (by decide))]
    exact ih (fun j hj => h (j + 1) (by simpa using hj))
/-- SETACTIVE behind its checks -/
theorem m_act {u : Nat} (hu : u < 4) {s t : uS} {scs : List (List Nat × List Nat)} {ac : Option Nat} {es sl : List Nat} (hm : pMid u s t s t) (hs : 1171 ≤ s.n) (h4 : cSc s u es scs ac) (h5 : rSc t u sl scs ac) (o : Option Nat) (ho : ∀ i : Nat, o = some i → i < scs.length) : ∃ s1 t1 : uS, ∃ b : Bool, fb_X11_setActive_49 (nI u) (o.map (fun i => es.getD i 0)) s = some s1 ∧ fb_X12_setActive_47 (nI u) (oI o) t = some (t1, b) ∧ cmdR u s t s1 t1 b := by
  have e0 : fb_X11_setActive_49 (nI u) (o.map (fun i => es.getD i 0)) s = (fn_X11_commit s).bind fun r1 => if r1.2 = true then ((pgt 26 r1.1 4 (nI u)).bind fun j4 => if uSo j4 10 then ((pgt 24 (wR r1.1 j4 5 (o.map (fun i => es.getD i 0))) 2 (nI u)).bind fun j7 => if uSo j7 5 then ((fn_X5_line j7 kW_3 (wR r1.1 j4 5 (o.map (fun i => es.getD i 0)))).bind fun s11 => some s11) else none) else none) else (some r1.1) := by
    cases o <;> rfl
  rw [e0]
  unfold fb_X12_setActive_47 fb_X12_setActive_79
  rcases mid_commit hu hm with ⟨a, b, c1, c2, c3⟩ | ⟨s2, t2, c1, c2, c3⟩
  · rw [c1, c2, Option.bind_some, Option.bind_some]
    simp only [↓reduceIte, pgt_usr hu, Option.bind_some, if_pos (so_usr hu), pgt_que (show u < 5 by omega), if_pos (so_que (show u < 5 by omega))]
    have hl := h4.2.1
    -- the reference's slot
    have key : ∀ x : Int32, (x = (match o with | none => -1 | some i => nI (sl.getD i 0))) → ∃ s1 t1 : uS, ∃ bb : Bool, ((fn_X5_line (qk u) kW_3 (wR (wI (wI s 0 15 a) 0 14 b) (985 + 16 * u) 5 (o.map (fun i => es.getD i 0)))).bind fun s11 => some s11) = some s1 ∧ ((iput 20 (wI (wI t 1079 3 a) 1079 2 b) 1150 (nI u) x).bind fun s1 => (fn_X12_line (nI u) kW_204 s1).bind fun s4 => some (s4, true)) = some (t1, bb) ∧ cmdR u s t s1 t1 bb := by
      intro x hx
      have hmid : pMid u s t (wR (wI (wI s 0 15 a) 0 14 b) (985 + 16 * u) 5 (o.map (fun i => es.getD i 0))) (wF (wI (wI t 1079 3 a) 1079 2 b) 1150 u x) := by
        obtain ⟨d1, ⟨xs, q1, q2, q3⟩, -, d4, d5, d6⟩ := c3
        refine ⟨d1, ⟨xs, q1, q2.fr (wF_r (by decide)) (wF_r (by omega)), q3⟩, ⟨scs, o, ⟨es, ?_⟩, sl, ?_⟩, oc_R d4 (Or.inl (Or.inr (Or.inl ⟨rfl, rfl⟩))), ol_F d5 (by unfold rmF; exact Or.inr (Or.inr (Or.inl ⟨Or.inr rfl, rfl⟩))), fun k hk z => d6 k hk (z.fr rfl rfl)⟩
        · obtain ⟨a1, a2, a3, a4, a5, a6⟩ := h4
          refine ⟨a1, a2, by rw [show (wR (wI (wI s 0 15 a) 0 14 b) (985 + 16 * u) 5 (o.map (fun i => es.getD i 0))).I = (wI (wI s 0 15 a) 0 14 b).I from rfl, wI_o (by omega), wI_o (by omega)]; exact a3, ?_, a5, ?_⟩
          · intro i hi
            obtain ⟨b1, b2, b3, b4, ⟨nb, e1, e2, e3⟩, tb, f1, f2⟩ := a4 i hi
            exact ⟨b1, b2, b3, b4, ⟨nb, by rw [wR_R, if_neg (by omega)]; exact e1, e2, e3⟩, tb, by rw [wR_R, if_neg (by omega)]; exact f1, f2⟩
          · cases o with
            | none => exact Or.inl ⟨rfl, by rw [wR_R, if_pos ⟨rfl, rfl⟩]; rfl⟩
            | some i => exact Or.inr ⟨i, rfl, ho i rfl, by rw [wR_R, if_pos ⟨rfl, rfl⟩]; rfl⟩
        · obtain ⟨a1, a2, a3, a4, a5, a6⟩ := h5
          refine ⟨a1, a2, (wF_o (by omega)).trans a3, ?_, a5, ?_⟩
          · intro i hi
            obtain ⟨b1, b2, b3, b4⟩ := a4 i hi
            exact ⟨(wF_o (by omega)).trans b1, b2, b3, b4.fr (wF_o (by omega)) (fun _ _ => wF_o (by omega)) (wF_o (by omega)) (fun _ _ => rfl)⟩
          · cases o with
            | none => exact Or.inl ⟨rfl, by rw [wF_e]; exact hx⟩
            | some i => exact Or.inr ⟨i, rfl, ho i rfl, by rw [wF_e]; exact hx⟩
      obtain ⟨s2, t2, l1, l2, l3⟩ := cmd_line hu (w := kW_3) (by decide) hmid hs (Nat.le_add_right _ _) (Nat.le_add_right _ _)
      exact ⟨s2, t2, true, by rw [l1, Option.bind_some], by rw [p_1150 hu, Option.bind_some, show kW_204 = kW_3 from rfl, l2, Option.bind_some], l3⟩
    cases o with
    | none =>
      rw [oI_n, if_neg (show ¬ (0 : Int32) ≤ -1 by decide)]
      exact key _ rfl
    | some i =>
      have hi := ho i rfl
      rw [oI_s, if_pos (show (0 : Int32) ≤ nI i from nI_pos' (by omega))]
      simp (disch := omega) only [lit, nI_mul, nI_add, g_1151, Option.bind_some]
      exact key _ ((show (wI (wI t 1079 3 a) 1079 2 b).F 1151 (4 * u + i) = t.F 1151 (4 * u + i) from rfl).trans (h5.2.2.2.1 i hi).1)
  · rw [c1, c2, Option.bind_some, Option.bind_some]
    exact ⟨s2, t2, false, rfl, rfl, cmdR.lost hm c3 (Nat.le_add_right _ _) (Nat.le_add_right _ _)⟩
theorem m_setActive {u : Nat} (hu : u < 4) {s t : uS} {ps : List (Nat × List Nat)} {bg v : Nat} (h : cCx u s t ps bg v) (hp : 0 < ps.length) : ∃ s1 t1 : uS, ∃ b : Bool, fn_X11_setActive (nI u) s = some s1 ∧ fn_X12_setActive (nI u) t = some (t1, b) ∧ cmdR u s t s1 t1 b := by
  obtain ⟨scs, ac, ⟨es, h4⟩, sl, h5⟩ := h.2.1.2.2.1
  obtain ⟨n1, n2⟩ := h.nm hu hp (by decide) h4 h5
  have n1' : fn_X10_scriptNamed (985 + 16 * u) (978 + 16 * u + 1) 0 s = _ := n1
  have n2' : fn_X12_scriptOf (nI u) 0 t = _ := n2
  obtain ⟨x1, x2, x3, x4⟩ := h.2.2.2.1 0 (by decide) hp
  have hlen := tz_len (kOk_u hu).1 h.2.2.1 (show 0 < (ps.map Prod.snd).length by rw [List.length_map]; exact hp)
  rw [getD_map_snd] at hlen
  have hlen' : fn_X9_lengthOf (978 + 16 * u + 1) 0 s = _ := hlen
  have l2 := cmd_no hu (w := kW_5) (by decide) h.2.1 h.1.1 (by omega) (by omega)
  have hmo := m_act hu h.2.1 h.1.1 h4 h5
  unfold fn_X11_setActive fn_X12_setActive fb_X12_setActive_21
  rw [pgt_ses hu, Option.bind_some, if_pos (so_ses hu), pgt_usr hu, Option.bind_some, if_pos (so_usr hu), n1', Option.bind_some, hlen']
  simp (disch := omega) only [nI_mul, show (2 : Int32) = nI 2 from rfl, g_1164, Option.bind_some, show t.F 1164 (2 * u) = nI (ps.getD 0 pk0).2.length from x3, n2', pgt_que (show u < 5 by omega), if_pos (so_que (show u < 5 by omega))]
  by_cases c : (ps.getD 0 pk0).2.length = 0
  · rw [if_pos (show nI (ps.getD 0 pk0).2.length = 0 by rw [c]; rfl), if_neg (show ¬ (0 : Int32) ≤ -1 by decide)]
    have hnil : (ps.getD 0 pk0).2 = [] := List.eq_nil_of_length_eq_zero c
    rw [hnil, snx_nil (fun j hj => (h5.2.2.2.1 j hj).2.2.2.1.1.1)]
    obtain ⟨s1, t1, b, r1, r2, r3⟩ := hmo none (fun i e => by cases e)
    exact ⟨s1, t1, b, r1, r2, r3⟩
  · rw [if_neg (nI_ne0 (by omega) (by omega))]
    cases hsn : snx (ps.getD 0 pk0).2 scs 0 with
    | none =>
      rw [oI_n, if_neg (show ¬ (0 : Int32) ≤ -1 by decide)]
      obtain ⟨s2, t2, a1, a2, a3⟩ := l2
      refine ⟨s2, t2, true, ?_, by rw [if_neg (nI_nle (by omega) (by omega)), show kW_207 = kW_5 from rfl, a2, Option.bind_some], a3⟩
      show (if nI (ps.getD 0 pk0).2.length ≤ 0 then _ else _) = _
      rw [if_neg (nI_nle (by omega) (by omega)), a1, Option.bind_some]
    | some i =>
      have := snx_lt hsn
      rw [oI_s, if_pos (show (0 : Int32) ≤ nI i from nI_pos' (by have := h4.2.1; omega))]
      obtain ⟨s1, t1, b, r1, r2, r3⟩ := hmo (some i) (fun j e => by cases e; omega)
      exact ⟨s1, t1, b, r1, r2, r3⟩
