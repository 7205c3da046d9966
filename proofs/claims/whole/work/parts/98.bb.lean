/-! commands: RENAMESCRIPT -/
theorem getD_set {l : List (List Nat × List Nat)} {i j : Nat} {x : List Nat × List Nat} (hi : i < l.length) : (l.set i x).getD j sc0 = if j = i then x else l.getD j sc0 := by
  rw [List.getD_eq_getElem?_getD, List.getElem?_set]
  by_cases c : i = j
  · subst c
    rw [if_pos rfl, if_pos hi, if_pos rfl]
    rfl
  · rw [if_neg c, if_neg (Ne.symm c), List.getD_eq_getElem?_getD]
theorem cSc_set {s s1 : uS} {u i : Nat} {es : List Nat} {scs : List (List Nat × List Nat)} {ac : Option Nat} {x : List Nat × List Nat} (h : cSc s u es scs ac) (hi : i < scs.length) (hn : s.n ≤ s1.n) (hc : ∀ k : Nat, k < s.n → s1.c k = s.c k) (hI : s1.I (985 + 16 * u) 3 = s.I (985 + 16 * u) 3) (hP : s1.P (985 + 16 * u + 1) = s.P (985 + 16 * u + 1)) (hR : s1.R (985 + 16 * u) 5 = s.R (985 + 16 * u) 5) (hE : ∀ k : Nat, k < s.n → k ≠ es.getD i 0 → s1.R k = s.R k) (hB : ∀ k : Nat, 1171 ≤ k → k < s.n → s1.F k = s.F k) (hx : cSe s1 (es.getD i 0) x) : cSc s1 u es (scs.set i x) ac := by
  obtain ⟨a1, a2, a3, a4, a5, a6⟩ := h
  refine ⟨by rw [List.length_set]; exact a1, by rw [List.length_set]; exact a2, by rw [List.length_set]; exact hI.trans a3, ?_, by rw [List.length_set]; exact a5, by rw [hR, List.length_set]; exact a6⟩
  intro j hj
  rw [List.length_set] at hj
  rw [getD_set hi, hP]
  by_cases c : j = i
  · rw [if_pos c, c]; exact ⟨(a4 i hi).1, hx⟩
  · rw [if_neg c]
    obtain ⟨b1, b2, b3, b4, ⟨nb, c1, c2, c3⟩, tb, d1, d2⟩ := a4 j hj
    have hne : es.getD j 0 ≠ es.getD i 0 := fun e => c (a5 j i hj hi e)
    exact ⟨b1, by omega, b3, by rw [hc _ b2]; exact b4, ⟨nb, by rw [hE _ b2 hne]; exact c1, c2, c3.fr hn (hc _ c3.1) (hB _ c3.2.1 c3.1)⟩, tb, by rw [hE _ b2 hne]; exact d1, d2.fr hn (hc _ d2.1) (hB _ d2.2.1 d2.1)⟩
theorem rSc_set {t t1 : uS} {u i : Nat} {sl : List Nat} {scs : List (List Nat × List Nat)} {ac : Option Nat} {x : List Nat × List Nat} (h : rSc t u sl scs ac) (hi : i < scs.length) (h1 : t1.F 1149 u = t.F 1149 u) (h2 : t1.F 1150 u = t.F 1150 u) (h3 : t1.F 1151 = t.F 1151) (h4 : ∀ f : Nat, f ≠ sl.getD i 0 → t1.F 1153 f = t.F 1153 f ∧ t1.F 1155 f = t.F 1155 f ∧ (∀ j : Nat, j < 20 → t1.F 1152 (20 * f + j) = t.F 1152 (20 * f + j)) ∧ ∀ j : Nat, j < 250 → t1.L 1154 (250 * f + j) = t.L 1154 (250 * f + j)) (hx : rSe t1 (sl.getD i 0) x) : rSc t1 u sl (scs.set i x) ac := by
  obtain ⟨a1, a2, a3, a4, a5, a6⟩ := h
  refine ⟨by rw [List.length_set]; exact a1, by rw [List.length_set]; exact a2, by rw [List.length_set]; exact h1.trans a3, ?_, by rw [List.length_set]; exact a5, by rw [h2, List.length_set]; exact a6⟩
  intro j hj
  rw [List.length_set] at hj
  rw [getD_set hi, h3]
  obtain ⟨b1, b2, b3, b4⟩ := a4 j hj
  by_cases c : j = i
  · rw [if_pos c]
    refine ⟨b1, b2, b3, ?_⟩
    rw [c]
    exact hx
  · rw [if_neg c]
    have hne : sl.getD j 0 ≠ sl.getD i 0 := fun e => c (a5 j i hj hi e)
    obtain ⟨q1, q2, q3, q4⟩ := h4 _ hne
    exact ⟨b1, b2, b3, b4.fr q1 q3 q2 q4⟩
/-- the name of a script in the reference -/
theorem r_name19 {t : uS} {u p sl : Nat} (hu : u < 4) (hp : p < 2) (hs : sl < 16) {x : List Nat} (h : rPt u p t x) (h20 : x.length ≤ 20) : fn_X12_nameScript (nI u) (nI sl) (nI p) t = some (cpy (wF t 1153 sl (nI x.length)) 1152 (20 * sl) 0 x.length (fun j => nI (x.getD j 0))) := by
  obtain ⟨x1, x2, x3, x4⟩ := h
  unfold fn_X12_nameScript
  simp (disch := omega) only [lit, nI_mul, nI_add, g_1164, p_1153, Option.bind_some, x3]
  refine cpy0 (F := fun n i s => fn_X12_nameScript_19 n (nI u) (nI sl) (nI p) i s) (fin := fun s => some s) ?_ ?_ (by show _ < 1000000; omega)
  · intro n i hi
    show fb_X12_nameScript_19 _ _ _ _ (nI i) _ = _
    unfold fb_X12_nameScript_19
    rw [r_partText hu hp (by omega)]
    simp (disch := omega) only [lit, nI_mul, nI_add, g_1164, p_1152, Option.bind_some]
    rw [show (cpy (wF t 1153 sl (nI x.length)) 1152 (20 * sl) 0 i (fun j => nI (x.getD j 0))).F 1164 (2 * u + p) = nI x.length from by rw [cpy_Fo (by omega), wF_r (by omega)]; exact x3, if_neg (nI_ge hi (by omega)), show (cpy (wF t 1153 sl (nI x.length)) 1152 (20 * sl) 0 i (fun j => nI (x.getD j 0))).F (1167 + u) (2000 * p + i) = nI (x.getD i 0) from by rw [cpy_Fo (by omega), wF_r (by omega)]; exact x4 i hi]
  · intro n
    show fb_X12_nameScript_19 _ _ _ _ (nI x.length) _ = _
    unfold fb_X12_nameScript_19
    simp (disch := omega) only [lit, nI_mul, nI_add, g_1164, Option.bind_some]
    rw [show (cpy (wF t 1153 sl (nI x.length)) 1152 (20 * sl) 0 x.length (fun j => nI (x.getD j 0))).F 1164 (2 * u + p) = nI x.length from by rw [cpy_Fo (by omega), wF_r (by omega)]; exact x3, if_pos (nI_le (Nat.le_refl _) (by omega))]
theorem cpy_L' (s : uS) (K off i L : Nat) (g : Nat → Int32) : (cpy s K off i L g).L = s.L := rfl
/-- what naming a script leaves -/
theorem rSe_name {t : uS} {sl : Nat} {x : List Nat} {y : List Nat × List Nat} (h : rSe t sl y) (hx : bys x) (h1 : 0 < x.length) (h20 : x.length ≤ 20) : rSe (cpy (wF t 1153 sl (nI x.length)) 1152 (20 * sl) 0 x.length (fun j => nI (x.getD j 0))) sl (x, y.2) := by
  obtain ⟨-, a5, a6, a7, a8⟩ := h
  refine ⟨⟨⟨h1, h20⟩, hx, ?_, ?_⟩, a5, a6, ?_, a8⟩
  · rw [cpy_Fo (by decide), wF_e]
  · intro j hj
    exact cpy_Fe (Nat.zero_le _) hj
  · rw [cpy_Fo (by decide), wF_o (by omega)]; exact a7
theorem m_rename {u : Nat} (hu : u < 4) {s t : uS} {ps : List (Nat × List Nat)} {bg v : Nat} (h : cCx u s t ps bg v) (hp : 1 < ps.length) (hnm : isNm (ps.getD 1 pk0).2 = true) : ∃ s1 t1 : uS, ∃ b : Bool, fn_X11_renameScript (nI u) s = some s1 ∧ fn_X12_renameScript (nI u) t = some (t1, b) ∧ cmdR u s t s1 t1 b := by
  obtain ⟨scs, ac, ⟨es, h4⟩, sl, h5⟩ := h.2.1.2.2.1
  obtain ⟨n1, n2⟩ := h.nm (p := 0) hu (by omega) (by decide) h4 h5
  obtain ⟨n3, n4⟩ := h.nm (p := 1) hu hp (by decide) h4 h5
  have n1' : fn_X10_scriptNamed (985 + 16 * u) (978 + 16 * u + 1) 0 s = _ := n1
  have n2' : fn_X12_scriptOf (nI u) 0 t = _ := n2
  have n3' : fn_X10_scriptNamed (985 + 16 * u) (978 + 16 * u + 1) 1 s = _ := n3
  have n4' : fn_X12_scriptOf (nI u) 1 t = _ := n4
  have hx20 : 0 < (ps.getD 1 pk0).2.length ∧ (ps.getD 1 pk0).2.length ≤ 20 := by
    unfold isNm at hnm
    rw [Bool.and_eq_true, decide_eq_true_eq] at hnm
    exact hnm.1
  have l2 := cmd_no hu (w := kW_5) (by decide) h.2.1 h.1.1 (by omega) (by omega)
  have l3 := cmd_no hu (w := kW_9) (by decide) h.2.1 h.1.1 (by omega) (by omega)
  have hl := h4.2.1
  unfold fn_X11_renameScript fn_X12_renameScript fb_X12_renameScript_22 fb_X12_renameScript_37
  rw [pgt_ses hu, Option.bind_some, if_pos (so_ses hu), pgt_usr hu, Option.bind_some, if_pos (so_usr hu), n1', n2', n4', Option.bind_some, Option.bind_some, Option.bind_some]
  simp only [pgt_que (show u < 5 by omega), Option.bind_some, if_pos (so_que (show u < 5 by omega)), if_pos (so_usr hu), n3']
  cases hsn : snx (ps.getD 0 pk0).2 scs 0 with
  | none =>
    rw [oI_n, if_pos (show (-1 : Int32) < 0 by decide), if_neg (show ¬ (0 : Int32) ≤ -1 by decide)]
    obtain ⟨s2, t2, a1, a2, a3⟩ := l2
    refine ⟨s2, t2, true, ?_, by rw [show kW_207 = kW_5 from rfl, a2, Option.bind_some], a3⟩
    show ((fn_X5_refusal (qk u) kW_5 s).bind _) = _
    rw [a1, Option.bind_some]
  | some i =>
    have hi : i < scs.length := by have := snx_lt hsn; omega
    obtain ⟨q1, q2, q3, q4⟩ := h5.2.2.2.1 i hi
    rw [oI_s, if_neg (nI_pos (show i < 2 ^ 31 by omega)), if_pos (nI_pos' (show i < 2 ^ 31 by omega))]
    cases hsm : snx (ps.getD 1 pk0).2 scs 0 with
    | some j =>
      have hj : j < scs.length := by have := snx_lt hsm; omega
      rw [oI_s, if_neg (nI_pos (show j < 2 ^ 31 by omega))]
      obtain ⟨s2, t2, a1, a2, a3⟩ := l3
      refine ⟨s2, t2, true, ?_, by rw [show kW_103 = kW_9 from rfl, a2, Option.bind_some], a3⟩
      show ((fn_X5_refusal (qk u) kW_9 s).bind _) = _
      rw [a1, Option.bind_some]
    | none =>
      rw [oI_n, if_pos (show (-1 : Int32) < 0 by decide)]
      show ∃ s1 t1 : uS, ∃ b : Bool, ((fn_X11_commit s).bind fun r22 => _) = some s1 ∧ _ ∧ _
      rcases mid_commit hu h.2.1 with ⟨a, b, c1, c2, c3⟩ | ⟨s2, t2, c1, c2, c3⟩
      · rw [c1, c2, Option.bind_some, Option.bind_some, if_pos rfl, if_pos rfl]
        have h4' : cSc (wI (wI s 0 15 a) 0 14 b) u es scs ac := h4.fr (Nat.le_refl _) (fun _ _ => rfl) ((wI_o (by omega)).trans (wI_o (by omega))) rfl rfl (fun _ _ => rfl) (fun _ _ _ => rfl)
        have htz : cTz (wI (wI s 0 15 a) 0 14 b) (978 + 16 * u + 1) 6000 3 (ps.map Prod.snd) bg [] := h.2.2.1.fr ((wI_o (by omega)).trans (wI_o (by omega))) ((wI_o (by omega)).trans (wI_o (by omega))) ((wI_o (by omega)).trans (wI_o (by omega))) rfl rfl rfl
        have hroom := h.1
        obtain ⟨s2, e1, e2, e3, e4, e5⟩ := c_copyOf (i := 1) (kOk_u hu).1 htz (by rw [List.length_map]; exact hp) (show 1171 ≤ s.n from hroom.1) (show s.n + 1 ≤ 600000 by omega) (by rw [getD_map_snd]; show s.m + _ ≤ _; omega)
        rw [getD_map_snd] at e3 e4
        have e1' : fn_X9_copyOf (978 + 16 * u + 1) 1 (wI (wI s 0 15 a) 0 14 b) = _ := e1
        have hse := (h4'.2.2.2.1 i hi).2
        have oce := e5 (cmI u) (cmF u) (cmR s u) (cmP u)
        have his : uIs s2 (es.getD i 0) 1 := by
          refine ⟨Or.inr (by have := hse.1; omega), ?_⟩
          unfold uCl
          rw [if_neg (by have := hse.2.1; omega), oce.2.1 _ hse.1]
          exact hse.2.2.1
        rw [e1', Option.bind_some]
        show ∃ s1 t1 : uS, ∃ b : Bool, (if uIs s2 (es.getD i 0) 1 then _ else _) = some s1 ∧ _ ∧ _
        rw [if_pos his]
        show ∃ s1 t1 : uS, ∃ b : Bool, (if ¬ s.n = 0 then _ else _) = some s1 ∧ _ ∧ _
        rw [if_pos (show ¬ s.n = 0 by have := hroom.1; omega)]
        simp (disch := omega) only [show (4 : Int32) = nI 4 from rfl, nI_mul, nI_add, g_1151, Option.bind_some]
        have hpt : rPt u 1 (wI (wI t 1079 3 a) 1079 2 b) (ps.getD 1 pk0).2 := h.2.2.2.1 1 (by decide) hp
        rw [show (wI (wI t 1079 3 a) 1079 2 b).F 1151 (4 * u + i) = nI (sl.getD i 0) from q1, show (1 : Int32) = nI 1 from rfl, r_name19 hu (by decide) (show sl.getD i 0 < 16 by omega) hpt hx20.2, Option.bind_some]
        have hmid : pMid u s t (wR s2 (es.getD i 0) 0 (some s.n)) (cpy (wF (wI (wI t 1079 3 a) 1079 2 b) 1153 (sl.getD i 0) (nI (ps.getD 1 pk0).2.length)) 1152 (20 * sl.getD i 0) 0 (ps.getD 1 pk0).2.length (fun j => nI ((ps.getD 1 pk0).2.getD j 0))) := by
          obtain ⟨⟨dy, cm, ct, d1, d1'⟩, ⟨xs, x1, x2, x3⟩, -, d4, d5, d6⟩ := c3
          have hq := qk_u hu
          have hn0 : (wI (wI s 0 15 a) 0 14 b).n = s.n := rfl
          have hs1 := hroom.1
          have kk : ∀ k f : Nat, k < 1171 → s2.I k f = (wI (wI s 0 15 a) 0 14 b).I k f := fun k f hk => (e5 rNo rNo rNo rNo).2.2.2.1 k f (by omega) (fun z => z)
          have kf : ∀ k f : Nat, k < s.n → s2.F k f = (wI (wI s 0 15 a) 0 14 b).F k f := fun k f hk => (e5 rNo rNo rNo rNo).2.2.2.2.1 k f (by omega) (fun z => z)
          have kr : ∀ k f : Nat, k < s.n → s2.R k f = (wI (wI s 0 15 a) 0 14 b).R k f := fun k f hk => (e5 rNo rNo rNo rNo).2.2.2.2.2.1 k f (by omega) (fun z => z)
          have kp : ∀ k f : Nat, k < s.n → s2.P k f = (wI (wI s 0 15 a) 0 14 b).P k f := fun k f hk => (e5 rNo rNo rNo rNo).2.2.2.2.2.2 k f (by omega) (fun z => z)
          refine ⟨⟨dy, cm, ct, ?_, ?_⟩, ⟨xs, x1.fr ?_ ?_, ?_, x3⟩, ⟨scs.set i ((ps.getD 1 pk0).2, (scs.getD i sc0).2), ac, ⟨es, ?_⟩, sl, ?_⟩, ?_, ?_, fun k hk z => d6 k hk (z.fr (kk _ _ (by omega)) (funext fun f => kp _ f (by omega)))⟩
          · obtain ⟨g1, g2, g3, g4, g5⟩ := d1
            exact ⟨(kk 0 _ (by decide)).trans g1, (kk 0 _ (by decide)).trans g2, (kk 0 _ (by decide)).trans g3, (kk 0 _ (by decide)).trans g4, g5⟩
          · exact d1'
          · exact funext fun f => kk _ f (by omega)
          · exact funext fun f => kf _ f (by omega)
          · exact x2.fr (by rw [cpy_Fo (by decide), wF_r (by decide)]) (by rw [cpy_Fo (by omega), wF_r (by omega)])
          · refine cSc_set h4' hi (show s.n ≤ s2.n by omega) (fun k hk => (e5 rNo rNo rNo rNo).2.1 k hk) (kk _ _ (by omega)) (funext fun f => kp _ f (by omega)) ?_ ?_ ?_ ?_
            · rw [wR_R, if_neg (by have := hse.2.1; omega)]; exact kr _ _ (by omega)
            · intro k hk hne
              funext f
              rw [wR_R, if_neg (fun z => hne z.1)]
              exact kr _ _ hk
            · exact fun k _ hk => funext fun f => kf _ f hk
            · obtain ⟨b2, b3, b4, ⟨nb, f1, f2, f3⟩, tb, g1, g2⟩ := hse
              refine ⟨show _ < s2.n by have : es.getD i 0 < s.n := b2; omega, b3, by show (s2.c _).1 = 1; rw [oce.2.1 _ b2]; exact b4, ⟨s.n, by rw [wR_R, if_pos ⟨rfl, rfl⟩], by omega, e4⟩, tb, ?_, ?_⟩
              · rw [wR_R, if_neg (by omega), kr _ _ b2]; exact g1
              · exact g2.fr (show s.n ≤ s2.n by omega) (oce.2.1 _ g2.1) (funext fun f => kf _ f g2.1)
          · refine rSc_set h5 hi ?_ ?_ ?_ ?_ ?_
            · rw [cpy_Fo (by decide), wF_o (by omega)]; rfl
            · rw [cpy_Fo (by decide), wF_o (by omega)]; rfl
            · rw [cpy_Fo (by decide), wF_r (by decide)]; rfl
            · intro f hf
              refine ⟨by rw [cpy_Fo (by decide), wF_o (by omega)]; rfl, by rw [cpy_Fo (by decide), wF_o (by omega)]; rfl, ?_, fun _ _ => rfl⟩
              intro j hj
              rw [cpy_F, if_neg (by omega), wF_o (by omega)]; rfl
            · exact rSe_name (show rSe (wI (wI t 1079 3 a) 1079 2 b) _ _ from q4) hpt.2.1 hx20.1 hx20.2
          · exact oc_R (oc_t d4 oce) (Or.inl (Or.inr (Or.inr ⟨i, by omega, by rw [h4.2.2.1]; exact nI_lt hi (by omega), (h4.2.2.2.1 i hi).1⟩)))
          · refine ol_t (ol_F d5 (v := nI (ps.getD 1 pk0).2.length) (Or.inr (Or.inr (Or.inr (Or.inl ⟨Or.inr (Or.inl rfl), q2, q3⟩))))) ⟨⟨rfl, rfl, rfl, rfl, rfl⟩, fun _ _ _ => rfl, ?_, fun _ _ _ => rfl⟩
            intro k f hk
            rw [cpy_F, if_neg (fun z => hk (Or.inr (Or.inr (Or.inr (Or.inr ⟨z.1, by omega, by omega⟩)))))]
        have hmm := e3
        obtain ⟨s3, t3, l1, l2, l3⟩ := cmd_line hu (w := kW_3) (by decide) hmid h.1.1 (show s2.n ≤ s.n + 3 by rw [e2]; show s.n + 1 ≤ _; omega) (show s2.m ≤ s.m + 2030 by rw [e3]; show s.m + _ ≤ _; omega)
        refine ⟨s3, t3, true, ?_, by rw [show kW_204 = kW_3 from rfl, l2, Option.bind_some], l3⟩
        show ((fn_X5_line (qk u) kW_3 (wR s2 (es.getD i 0) 0 (some s.n))).bind _) = _
        rw [l1, Option.bind_some]
      · rw [c1, c2, Option.bind_some, Option.bind_some]
        exact ⟨s2, t2, false, rfl, rfl, cmdR.lost h.2.1 c3 (Nat.le_add_right _ _) (Nat.le_add_right _ _)⟩
