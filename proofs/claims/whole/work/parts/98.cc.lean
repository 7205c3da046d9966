/-! the lexers: strings, words, tags, signs as tokens -/
theorem qd_mono {x : List Nat} : ∀ (n i : Nat) (acc : List Nat), x.length < i + n → qd x (n + 1) i acc = qd x n i acc := by
  intro n
  induction n with
  | zero => intro i acc h; unfold qd; rw [if_pos (by omega)]
  | succ n ih =>
    intro i acc h
    show (if x.length ≤ i then none else if x.getD i 0 = 34 then some (acc, i + 1) else if x.length ≤ (if x.getD i 0 = 92 then i + 1 else i) then none else if acc.length = 200 then none else qd x (n + 1) ((if x.getD i 0 = 92 then i + 1 else i) + 1) (acc ++ [x.getD (if x.getD i 0 = 92 then i + 1 else i) 0])) = (if x.length ≤ i then none else if x.getD i 0 = 34 then some (acc, i + 1) else if x.length ≤ (if x.getD i 0 = 92 then i + 1 else i) then none else if acc.length = 200 then none else qd x n ((if x.getD i 0 = 92 then i + 1 else i) + 1) (acc ++ [x.getD (if x.getD i 0 = 92 then i + 1 else i) 0]))
    rw [ih _ _ (by split <;> omega)]
theorem qd_by {x : List Nat} (hx : bys x) : ∀ {n i : Nat} {acc str : List Nat} {e : Nat}, bys acc → qd x n i acc = some (str, e) → bys str := by
  intro n
  induction n with
  | zero => intro i acc str e _ h; cases h
  | succ n ih =>
    intro i acc str e ha h
    unfold qd at h
    by_cases c : x.length ≤ i
    · rw [if_pos c] at h; cases h
    · rw [if_neg c] at h
      by_cases d : x.getD i 0 = 34
      · rw [if_pos d] at h; cases h; exact ha
      · rw [if_neg d] at h
        by_cases f : x.length ≤ (if x.getD i 0 = 92 then i + 1 else i)
        · rw [if_pos f] at h; cases h
        · rw [if_neg f] at h
          by_cases g : acc.length = 200
          · rw [if_pos g] at h; cases h
          · rw [if_neg g] at h
            exact ih (bys_app ha (hx _)) h
theorem tl_by {x : List Nat} (hx : bys x) : ∀ {n i : Nat} {acc str : List Nat} {e : Nat}, bys acc → acc.length ≤ 1000 → i ≤ x.length → tl x n i acc = some (str, e) → bys str ∧ str.length ≤ 1000 ∧ i < e ∧ e ≤ x.length ∧ str.length + i ≤ e + acc.length := by
  intro n
  induction n with
  | zero => intro i acc str e _ _ _ h; cases h
  | succ n ih =>
    intro i acc str e ha hl hi h
    unfold tl at h
    have hle := lfx_le (x := x) (b := 10) hi
    by_cases c : x.length ≤ lfx x 10 i
    · rw [if_pos c] at h; cases h
    · rw [if_neg c] at h
      by_cases d : tdot x i (lfx x 10 i)
      · rw [if_pos d] at h; cases h; exact ⟨ha, hl, by omega, by omega, by omega⟩
      · rw [if_neg d] at h
        by_cases f : 1000 < acc.length + (lfx x 10 i + 1 - ta x i)
        · rw [if_pos f] at h; cases h
        · rw [if_neg f] at h
          have hta := ta_le (x := x) (i := i) (by omega) hi
          have hsl := sub_len (x := x) (a := ta x i) (b := lfx x 10 i + 1) (by omega) (by omega)
          obtain ⟨z1, z2, z3, z4, z5⟩ := ih (bys_apps ha (sub_by hx)) (by rw [List.length_append, hsl]; omega) (by omega) h
          rw [List.length_append, hsl] at z5
          exact ⟨z1, z2, by omega, z4, by omega⟩
/-- a quoted string -/
theorem n_quo {k fr : Nat} {x : List Nat} {ts : List (List Nat)} {bg q : Nat} {s t : uS} (h : tk0 k fr x ts bg q s t) (hq : q < x.length) : ∃ (s1 t1 t2 : uS) (v : Int32) (e : Nat), fn_X2_readQuoted s = some s1 ∧ fn_X12_quoted t = some (t1, v) ∧ fb_X12_next_34 v t1 = some t2 ∧ out lnI' lqF s s1 ∧ out rnI (rqP bg) t t2 ∧ tok k fr x ts bg q e s1 t2 := by
  obtain ⟨hg, h1, h2, h3, h4⟩ := h
  have hgg := hg
  obtain ⟨g1, g2, g3, g4, g5, g6, g7⟩ := hg
  have hx := g1.2.2.1
  have hb := g1.by
  -- class
  have hc := c_quo (k := k) (fr := fr) (x := x) h2 (ts := ts) (bg := bg) h3 uFu (q + 1) (wI s 7 2 6) [] q (g1.I (by decide)) (wI_e _ _ _ _) (g3.fr (wI_o (by omega)) (wI_o (by omega)) (wI_o (by omega)) rfl rfl rfl) (by show _ < q + 1 + 1000000; omega) (by omega) (by show 0 ≤ 200; omega) (by show bg + 0 + 1 ≤ q + 1; omega)
  obtain ⟨s1, c1, c2, c3⟩ := hc
  have c1' : fn_X2_readQuoted s = some s1 := by
    unfold fn_X2_readQuoted
    rw [wI_o (show ¬ (7 = 7 ∧ 6 = 2) by decide), g6, nI_1, show fr + q + 1 = fr + (q + 1) by omega]
    exact c1
  have oc : out lnI' lqF s s1 := out_t (out_I out_r (Or.inl ⟨rfl, Or.inl rfl⟩)) (lqW c2)
  have h76 : s1.I 7 6 = s.I 7 6 := by rw [c2.2.1 _ _ (by unfold lqI; omega), wI_o (by omega)]
  -- reference
  have hr := r_quo (x := x) (bg := bg) uFu (q + 1) (wI (wI t 1079 30 (nI (q + 1))) 1079 38 (nI bg)) [] (g2.fr ((wI_o (by omega)).trans (wI_o (by omega))) rfl ((wI_o (by omega)).trans (wI_e _ _ _ _)) (by omega)) (((wI_o (by omega)).trans (wI_o (by omega))).trans g4) (wI_e _ _ _ _) (fun j hj => absurd hj (Nat.not_lt_zero j)) (by show _ < q + 1 + 1000000; omega) (by show 0 ≤ 200; omega) (by show bg + 0 + 1 ≤ q + 1; omega)
  obtain ⟨t1, r1, r2, r3⟩ := hr
  have hfn : fn_X12_quoted t = fn_X12_quoted_18 uFu (wI (wI t 1079 30 (nI (q + 1))) 1079 38 (nI bg)) := by
    unfold fn_X12_quoted
    rw [g2.2.2.2.2.1, nI_1, wI_o (show ¬ (1079 = 1079 ∧ 37 = 30) by decide), g4]
  have or0 : out rnI (rqP bg) t t1 := out_t (out_I (out_I out_r ⟨rfl, by omega⟩) ⟨rfl, by omega⟩) (rqW r1 r2)
  have t32 : t1.I 1079 32 = nI q := by rw [r1.2.1 _ _ (by unfold rqI; omega), wI_o (by omega), wI_o (by omega)]; exact g7
  have t40 : t1.I 1079 40 = -1 := by rw [r1.2.1 _ _ (by unfold rqI; omega), wI_o (by omega), wI_o (by omega)]; exact g5
  have t29 : t1.I 1079 29 = nI x.length := by rw [r1.2.1 _ _ (by unfold rqI; omega), wI_o (by omega), wI_o (by omega)]; exact g2.1
  cases hv : qd x uFu (q + 1) [] with
  | none =>
    rw [hv] at c3 r3
    refine ⟨s1, t1, _, 5, q, c1', hfn.trans r3, r_fin5 t32 t40 t29, oc, out_t or0 (out_w rBad_out (fun _ _ z => z) (fun _ _ z => z.elim)), hgg.B h2 oc h76 c3 rBad_v.1 rBad_v.2⟩
  | some w =>
    obtain ⟨str, e⟩ := w
    rw [hv] at c3 r3
    obtain ⟨w1, w2, w3⟩ := c3
    obtain ⟨v1, v2, v3, v4, v5, v6⟩ := r3
    have hle := qd_le hv
    have hby := qd_by hb bys_nil hv
    refine ⟨s1, t1, _, 4, e, c1', hfn.trans v1, r_fin (by decide), oc, out_I or0 ⟨rfl, by omega⟩, Or.inr (Or.inr (Or.inr (Or.inr (Or.inr (Or.inl ⟨by omega, str, ?_, ⟨?_, ?_, ?_, ?_, v6⟩, w3, ?_, ?_, hby, ?_, h76.trans g6, ?_, w1, ?_⟩)))))⟩
    · obtain ⟨y1, y2, y3, y4, y5, y6, y7, y8⟩ := g1
      refine ⟨by rw [oc.1.2.1]; exact y1, y2.fr oc.1.1 oc.1.2.2.2.2.1 (funext fun f => oc.2.2 _ _ (by unfold lqF; omega)), y3, y4, ?_, ?_, w2, by omega⟩
      · rw [oc.2.1 _ _ (by unfold lnI'; omega)]; exact y5
      · rw [oc.2.1 _ _ (by unfold lnI'; omega)]; exact y6
    · exact v2.fr (wI_o (by omega)) rfl ((wI_o (by omega)).trans v2.2.2.2.2.1) (by omega)
    · exact (wI_o (by omega)).trans v3
    · exact (wI_o (by omega)).trans v4
    · exact (wI_o (by omega)).trans v5
    · have := hle.2.2.2.1
      rw [show ([] : List Nat).length = 0 from rfl] at this
      omega
    · have := hle.2.2.2.2 (by show 0 ≤ 200; omega); omega
    · exact (wI_o (by omega)).trans t40
    · exact (wI_o (by omega)).trans t32
    · exact wI_e _ _ _ _
/-- a tag -/
theorem n_tag {k fr : Nat} {x : List Nat} {ts : List (List Nat)} {bg q : Nat} {s t : uS} (h : tk0 k fr x ts bg q s t) (hq : q + 1 < x.length) (hw : isWs (x.getD (q + 1) 0) = true) : ∃ (s1 t1 t2 : uS) (e : Nat), fn_X2_readWord (nI (fr + (q + 1))) 1 s = some s1 ∧ fn_X12_wordOf (wI t 1079 30 (nI (q + 1))) = some t1 ∧ fb_X12_next_34 2 t1 = some t2 ∧ out lnI' lqF s s1 ∧ out rnI (rqP bg) t t2 ∧ tok k fr x ts bg q e s1 t2 := by
  obtain ⟨hg, h1, h2, h3, h4⟩ := h
  obtain ⟨g1, g2, g3, g4, g5, g6, g7⟩ := hg
  have hx := g1.2.2.1
  have hle := we_le (x := x) (p := q + 1) (by omega)
  have hlt : q + 1 < we x (q + 1) := by
    have e1 : we x (q + 1) = we x (q + 1 + 1) := by rw [we_s, if_pos ⟨hq, by unfold isWb; rw [hw]; rfl⟩]
    have := we_le (x := x) (p := q + 1 + 1) (by omega)
    omega
  have c1 := c_wordL (kd := 1) uFu (q + 1) (wI (wI s 7 7 (nI (fr + (q + 1)))) 7 8 (nI (fr + (q + 1)))) ((g1.I (by decide)).to (by omega)) (by show _ < q + 1 + 1000000; omega)
  have r1 := r_wordL (a := q + 1) uFu (q + 1) (wI (wI t 1079 30 (nI (q + 1))) 1079 33 (nI (q + 1))) ((g2.to (show q + 1 ≤ x.length by omega)).fr (wI_o (by omega)) rfl ((wI_o (by omega)).trans (wI_e _ _ _ _)) (by omega)) (wI_e _ _ _ _) (Nat.le_refl _) (by show _ < q + 1 + 1000000; omega)
  rw [wI_wI] at c1
  have r1' : fn_X12_wordOf (wI t 1079 30 (nI (q + 1))) = some (wI (wI (wI (wI t 1079 30 (nI (q + 1))) 1079 33 (nI (q + 1))) 1079 30 (nI (we x (q + 1)))) 1079 34 (nI (we x (q + 1) - (q + 1)))) := by
    unfold fn_X12_wordOf
    rw [wI_e]
    exact r1
  refine ⟨_, _, _, we x (q + 1), c1, r1', r_fin (by decide), out_I (out_I (out_I out_r (Or.inl ⟨rfl, by omega⟩)) (Or.inl ⟨rfl, by omega⟩)) (Or.inl ⟨rfl, by omega⟩), out_I (out_I (out_I (out_I (out_I out_r ⟨rfl, by omega⟩) ⟨rfl, by omega⟩) ⟨rfl, by omega⟩) ⟨rfl, by omega⟩) ⟨rfl, by omega⟩, Or.inr (Or.inr (Or.inl ⟨hlt, ⟨?_, ?_, ?_, ?_, ?_, ?_, ?_⟩, ?_, wI_e _ _ _ _, ?_, ?_, ?_⟩))⟩
  · exact ((g1.I (f := 7) (by decide)).to hle.2).I (by decide)
  · exact g2.fr ((wI_o (by omega)).trans ((wI_o (by omega)).trans ((wI_o (by omega)).trans ((wI_o (by omega)).trans (wI_o (by omega)))))) rfl ((wI_o (by omega)).trans ((wI_o (by omega)).trans (wI_e _ _ _ _))) hle.2
  · exact g3.fr ((wI_o (by omega)).trans ((wI_o (by omega)).trans (wI_o (by omega)))) ((wI_o (by omega)).trans ((wI_o (by omega)).trans (wI_o (by omega)))) ((wI_o (by omega)).trans ((wI_o (by omega)).trans (wI_o (by omega)))) rfl rfl rfl
  · exact ((wI_o (by omega)).trans ((wI_o (by omega)).trans ((wI_o (by omega)).trans ((wI_o (by omega)).trans (wI_o (by omega)))))).trans g4
  · exact ((wI_o (by omega)).trans ((wI_o (by omega)).trans ((wI_o (by omega)).trans ((wI_o (by omega)).trans (wI_o (by omega)))))).trans g5
  · exact ((wI_o (by omega)).trans ((wI_o (by omega)).trans (wI_o (by omega)))).trans g6
  · exact ((wI_o (by omega)).trans ((wI_o (by omega)).trans ((wI_o (by omega)).trans ((wI_o (by omega)).trans (wI_o (by omega)))))).trans g7
  · exact wI_e _ _ _ _
  · exact (wI_o (by omega)).trans ((wI_o (by omega)).trans (wI_e _ _ _ _))
  · exact (wI_o (by omega)).trans ((wI_o (by omega)).trans ((wI_o (by omega)).trans (wI_e _ _ _ _)))
  · exact (wI_o (by omega)).trans (wI_e _ _ _ _)
