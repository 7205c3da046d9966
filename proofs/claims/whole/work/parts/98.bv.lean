/-! the lexers: quoted strings -/
theorem uTx_str : uTx 8 2000 301 := by
  unfold uTx
  exact ⟨by decide, by decide, by decide, by decide, by decide, by decide⟩
/-- the string from i on, and where it ends -/
def qd (x : List Nat) : Nat → Nat → List Nat → Option (List Nat × Nat)
  | 0, _, _ => none
  | n + 1, i, acc => if x.length ≤ i then none else if x.getD i 0 = 34 then some (acc, i + 1) else if x.length ≤ (if x.getD i 0 = 92 then i + 1 else i) then none else if acc.length = 200 then none else qd x n ((if x.getD i 0 = 92 then i + 1 else i) + 1) (acc ++ [x.getD (if x.getD i 0 = 92 then i + 1 else i) 0])
def lqI (k f : Nat) : Prop := (k = 7 ∧ (f = 2 ∨ f = 8)) ∨ k = 8
def lqF (k _f : Nat) : Prop := k = 9 ∨ k = 10 ∨ k = 11
theorem lxC.q {s s1 : uS} {k fr p : Nat} {x : List Nat} (h : lxC s k fr x p) (hk : 976 ≤ k) (o : out lqI lqF s s1) : s1.R 7 1 = some k ∧ rdC s1 k fr x ∧ s1.I 7 4 = nI fr ∧ s1.I 7 5 = nI (fr + x.length) ∧ s1.I 7 6 = s.I 7 6 := by
  refine ⟨by rw [o.1.2.1]; exact h.1, h.2.1.fr o.1.1 o.1.2.2.2.2.1 (funext fun f => o.2.2 _ _ (by unfold lqF; omega)), ?_, ?_, o.2.1 _ _ (by unfold lqI; omega)⟩
  · rw [o.2.1 _ _ (by unfold lqI; omega)]; exact h.2.2.2.2.1
  · rw [o.2.1 _ _ (by unfold lqI; omega)]; exact h.2.2.2.2.2.1
theorem bI_nI (b : Bool) : bI b = nI (if b = true then 1 else 0) := by cases b <;> rfl
theorem qd_le {x : List Nat} : ∀ {n i : Nat} {acc str : List Nat} {e : Nat}, qd x n i acc = some (str, e) → i + 1 ≤ e ∧ e ≤ x.length ∧ acc.length ≤ str.length ∧ str.length + i + 1 ≤ e + acc.length ∧ (acc.length ≤ 200 → str.length ≤ 200) := by
  intro n
  induction n with
  | zero => intro i acc str e h; cases h
  | succ n ih =>
    intro i acc str e h
    unfold qd at h
    by_cases c : x.length ≤ i
    · rw [if_pos c] at h; cases h
    · rw [if_neg c] at h
      by_cases d : x.getD i 0 = 34
      · rw [if_pos d] at h; cases h; omega
      · rw [if_neg d] at h
        by_cases f : x.length ≤ (if x.getD i 0 = 92 then i + 1 else i)
        · rw [if_pos f] at h; cases h
        · rw [if_neg f] at h
          by_cases g : acc.length = 200
          · rw [if_pos g] at h; cases h
          · rw [if_neg g] at h
            have := ih h
            rw [List.length_append, show [x.getD (if x.getD i 0 = 92 then i + 1 else i) 0].length = 1 from rfl] at this
            by_cases z : x.getD i 0 = 92
            · simp only [if_pos z] at this; omega
            · simp only [if_neg z] at this; omega
theorem c_quo {k fr : Nat} {x : List Nat} (hk : 976 ≤ k) {ts : List (List Nat)} {bg : Nat} (hts : ts.length ≤ 300) : ∀ (n i : Nat) (s : uS) (acc : List Nat) (p : Nat), lxC s k fr x p → s.I 7 2 = 6 → cTz s 8 2000 301 ts bg acc → x.length + 1 < i + n → i ≤ x.length + 1 → acc.length ≤ 200 → bg + acc.length + 1 ≤ i → ∃ s1 : uS, fn_X2_readQuoted_13 n (nI (fr + i)) s = some s1 ∧ out lqI lqF s s1 ∧ (match qd x n i acc with | none => s1.I 7 2 = 6 | some (str, e) => s1.I 7 2 = 3 ∧ s1.I 7 8 = nI (fr + e) ∧ cTz s1 8 2000 301 (ts ++ [str]) (bg + str.length) []) := by
  intro n
  induction n with
  | zero => intro i s acc p h h2 h3 a b c d; omega
  | succ n ih =>
    intro i s acc p h h2 h3 a b c d
    have hx := h.2.2.1
    have hfr := h.2.2.2.1
    have h5 := h.2.2.2.2.2.1
    have hu : s.I 8 5 - s.I 8 4 = nI acc.length := by rw [h3.2.2.1, h3.2.2.2.1, nI_sub (by omega), Nat.add_sub_cancel_left]
    show ∃ s1 : uS, fb_X2_readQuoted_13 (fn_X2_readQuoted_13 n) (nI (fr + i)) s = some s1 ∧ _
    unfold fb_X2_readQuoted_13 fb_X2_readQuoted_94 qd
    rw [h5, hu, h2]
    by_cases c1 : x.length ≤ i
    · rw [if_pos (nI_le (by omega) (by omega)), if_pos c1]
      exact ⟨_, rfl, out_I out_r (Or.inl ⟨rfl, Or.inr rfl⟩), (wI_o (by omega)).trans h2⟩
    · have hi : i < x.length := by omega
      have b1 := h.by i
      have e34 : sb (x.getD i 0) = (34 : Int32) ↔ x.getD i 0 = 34 := sb_e b1 (by decide)
      have e92 : sb (x.getD i 0) = (92 : Int32) ↔ x.getD i 0 = 92 := sb_e b1 (by decide)
      rw [if_neg (nI_ge (by omega) (by omega)), if_neg c1, if_neg (show ¬ (200 : Int32) < nI acc.length from nI_nlt c (by decide)), if_pos rfl, h.1, Option.bind_some, h.at hi, Option.bind_some]
      by_cases c2 : x.getD i 0 = 34
      · rw [if_pos (e34.mpr c2), if_pos c2]
        have h3' : cTz (wI s 7 2 3) 8 2000 301 ts bg acc := h3.fr (wI_o (by omega)) (wI_o (by omega)) (wI_o (by omega)) rfl rfl rfl
        obtain ⟨s1, q1, q2, q3⟩ := tz_close uTx_str h3' (by omega)
        have o1 : out lqI lqF s s1 := by
          rw [q2]
          exact out_I (out_I (out_F (out_F (out_I out_r (Or.inl ⟨rfl, Or.inl rfl⟩)) (Or.inr (Or.inl rfl))) (Or.inr (Or.inr rfl))) (Or.inr rfl)) (Or.inr rfl)
        have hk2 : s1.I 7 2 = 3 := by rw [q2, wI_o (by omega), wI_o (by omega), wF_I, wF_I, wI_e]
        refine ⟨wI s1 7 8 (nI (fr + (i + 1))), ?_, out_I o1 (Or.inl ⟨rfl, Or.inr rfl⟩), ?_⟩
        · rw [q1, Option.bind_some, nI_1, show fr + i + 1 = fr + (i + 1) by omega]
          cases n with
          | zero => omega
          | succ n =>
            show fb_X2_readQuoted_13 (fn_X2_readQuoted_13 n) _ _ = _
            unfold fb_X2_readQuoted_13
            rw [hk2]
            split
            · rfl
            · split
              · rfl
              · rw [if_neg (show ¬ (3 : Int32) = 6 by decide)]
        · show (wI s1 7 8 _).I 7 2 = 3 ∧ (wI s1 7 8 _).I 7 8 = nI (fr + (i + 1)) ∧ cTz (wI s1 7 8 _) 8 2000 301 (ts ++ [acc]) (bg + acc.length) []
          exact ⟨(wI_o (by omega)).trans hk2, wI_e _ _ _ _, q3.fr (wI_o (by omega)) (wI_o (by omega)) (wI_o (by omega)) rfl rfl rfl⟩
      · rw [if_neg (fun z => c2 (e34.mp z)), if_neg c2, Option.bind_some, h.at hi, Option.bind_some]
        -- the byte that is taken
        have main : ∀ (i1 : Nat), (i1 = i ∨ i1 = i + 1) → (if x.getD i 0 = 92 then i + 1 else i) = i1 → ∃ s1 : uS, (if nI (fr + x.length) ≤ nI (fr + i1) then fn_X2_readQuoted_13 n (nI (fr + i1) + 1) s else ((some k).bind fun j2 => (iget 21 s j2 (nI (fr + i1))).bind fun v4 => (fn_X9_put 8 v4 s).bind fun s6 => fn_X2_readQuoted_13 n (nI (fr + i1) + 1) s6)) = some s1 ∧ out lqI lqF s s1 ∧ (match (if x.length ≤ (if x.getD i 0 = 92 then i + 1 else i) then none else if acc.length = 200 then none else qd x n ((if x.getD i 0 = 92 then i + 1 else i) + 1) (acc ++ [x.getD (if x.getD i 0 = 92 then i + 1 else i) 0])) with | none => s1.I 7 2 = 6 | some (str, e) => s1.I 7 2 = 3 ∧ s1.I 7 8 = nI (fr + e) ∧ cTz s1 8 2000 301 (ts ++ [str]) (bg + str.length) []) := by
          intro i1 hi1 he
          rw [he, nI_1, show fr + i1 + 1 = fr + (i1 + 1) by omega]
          have stop : ∀ s' : uS, s'.I 7 5 = nI (fr + x.length) → s'.I 7 2 = 6 → (x.length ≤ i1 + 1 ∨ s'.I 8 5 - s'.I 8 4 = nI 201) → fn_X2_readQuoted_13 n (nI (fr + (i1 + 1))) s' = some (wI s' 7 8 (nI (fr + (i1 + 1)))) := by
            intro s' y1 y2 y3
            cases n with
            | zero => omega
            | succ n =>
              show fb_X2_readQuoted_13 (fn_X2_readQuoted_13 n) _ _ = _
              unfold fb_X2_readQuoted_13
              rw [y1]
              by_cases z : nI (fr + x.length) ≤ nI (fr + (i1 + 1))
              · rw [if_pos z]
              · rw [if_neg z]
                rcases y3 with y3 | y3
                · exact absurd (nI_le (by omega) (by omega)) z
                · rw [y3, if_pos (show (200 : Int32) < nI 201 by decide)]
          by_cases c3 : x.length ≤ i1
          · rw [if_pos (nI_le (by omega) (by omega)), if_pos c3, stop s h5 h2 (Or.inl (by omega))]
            exact ⟨_, rfl, out_I out_r (Or.inl ⟨rfl, Or.inr rfl⟩), (wI_o (by omega)).trans h2⟩
          · have b2 := h.by i1
            obtain ⟨s1, q1, q2, q3⟩ := tz_put uTx_str h3 (show bg + acc.length < 2000 by omega) b2 (show (sb (x.getD i1 0)).toInt8.toInt32 = sb (x.getD i1 0) from sb_i8 b2)
            rw [if_neg (nI_ge (by omega) (by omega)), if_neg c3, Option.bind_some, h.at (by omega), Option.bind_some, q1, Option.bind_some]
            have o1 : out lqI lqF s s1 := by
              rw [q2]
              exact out_I (out_F out_r (Or.inl rfl)) (Or.inr rfl)
            have r5 : s1.I 7 5 = nI (fr + x.length) := by rw [o1.2.1 _ _ (by unfold lqI; omega)]; exact h5
            have r2 : s1.I 7 2 = 6 := by rw [q2, wI_o (by omega), wF_I]; exact h2
            by_cases c4 : acc.length = 200
            · rw [if_pos c4]
              have hu1 : s1.I 8 5 - s1.I 8 4 = nI 201 := by rw [q3.2.2.1, q3.2.2.2.1, nI_sub (by omega), Nat.add_sub_cancel_left, List.length_append, c4]; rfl
              rw [stop s1 r5 r2 (Or.inr hu1)]
              exact ⟨_, rfl, out_I o1 (Or.inl ⟨rfl, Or.inr rfl⟩), (wI_o (by omega)).trans r2⟩
            · rw [if_neg c4]
              have hl1 : lxC s1 k fr x p := by
                obtain ⟨g1, g2, g3, g4, g5, g6, g7, g8⟩ := h
                exact ⟨by rw [o1.1.2.1]; exact g1, g2.fr o1.1.1 o1.1.2.2.2.2.1 (funext fun f => o1.2.2 _ _ (by unfold lqF; omega)), g3, g4, by rw [q2, wI_o (by omega), wF_I]; exact g5, r5, by rw [q2, wI_o (by omega), wF_I]; exact g7, g8⟩
              obtain ⟨s2, w1, w2, w3⟩ := ih (i1 + 1) s1 (acc ++ [x.getD i1 0]) p hl1 r2 q3 (by omega) (by omega) (by rw [List.length_append]; show acc.length + 1 ≤ 200; omega) (by rw [List.length_append]; show bg + (acc.length + 1) + 1 ≤ i1 + 1; omega)
              exact ⟨s2, w1, out_t o1 w2, w3⟩
        by_cases c5 : x.getD i 0 = 92
        · rw [if_pos (e92.mpr c5), show bI true = nI 1 from rfl, nI_add, show fr + i + 1 = fr + (i + 1) by omega]
          exact main (i + 1) (Or.inr rfl) (if_pos c5)
        · rw [if_neg (fun z => c5 (e92.mp z)), show bI false = nI 0 from rfl, nI_add, Nat.add_zero]
          exact main i (Or.inl rfl) (if_neg c5)
/-- the reference -/
def rqI (k f : Nat) : Prop := k = 1079 ∧ (f = 30 ∨ f = 37 ∨ f = 38 ∨ f = 39)
def rqF (k _f : Nat) : Prop := k = 1097
theorem r_into {t : uS} {bg : Nat} {acc : List Nat} {b mx : Nat} (hb : bg + acc.length < 2000) (h7 : t.I 1079 37 = nI (bg + acc.length)) (h8 : t.I 1079 38 = nI bg) (hm : acc.length ≤ mx) (hm2 : mx < 2000) : fn_X12_into (nI b) (nI mx) t = if acc.length = mx then some (t, false) else some (wI (wF t 1097 (bg + acc.length) (nI b)) 1079 37 (nI (bg + acc.length + 1)), true) := by
  unfold fn_X12_into
  rw [h7, h8, nI_sub (by omega), Nat.add_sub_cancel_left]
  by_cases c : acc.length = mx
  · rw [if_pos (by rw [c]), if_pos c]
  · rw [if_neg (by rw [nI_eq (by omega) (by omega)]; exact c), if_neg c, p_1097 (by omega), Option.bind_some, wF_I, h7, nI_1]
theorem lxR.fr {t t1 : uS} {x : List Nat} {p q : Nat} (h : lxR t x p) (h1 : t1.I 1079 29 = t.I 1079 29) (h2 : t1.F 1096 = t.F 1096) (h3 : t1.I 1079 30 = nI q) (hq : q ≤ x.length) : lxR t1 x q := by
  obtain ⟨a1, a2, a3, a4, a5, a6⟩ := h
  exact ⟨h1.trans a1, by rw [h2]; exact a2, a3, a4, h3, hq⟩
theorem r_quo {x : List Nat} {bg : Nat} : ∀ (n i : Nat) (t : uS) (acc : List Nat), lxR t x i → t.I 1079 37 = nI (bg + acc.length) → t.I 1079 38 = nI bg → (∀ j : Nat, j < acc.length → t.F 1097 (bg + j) = nI (acc.getD j 0)) → x.length < i + n → acc.length ≤ 200 → bg + acc.length + 1 ≤ i → ∃ t1 : uS, out rqI rqF t t1 ∧ (∀ j : Nat, j < bg → t1.F 1097 j = t.F 1097 j) ∧ (match qd x n i acc with | none => fn_X12_quoted_18 n t = some (t1, 5) | some (str, e) => fn_X12_quoted_18 n t = some (t1, 4) ∧ lxR t1 x e ∧ t1.I 1079 37 = nI (bg + str.length) ∧ t1.I 1079 38 = nI bg ∧ t1.I 1079 39 = nI str.length ∧ ∀ j : Nat, j < str.length → t1.F 1097 (bg + j) = nI (str.getD j 0)) := by
  intro n
  induction n with
  | zero => intro i t acc h _ _ _ a; have := h.2.2.2.2.2; omega
  | succ n ih =>
    intro i t acc h h7 h8 hF a b c
    have hp := h.2.2.2.2.2
    have h4 := h.2.2.2.1
    have h5 := h.2.2.2.2.1
    unfold qd
    have hfn : fn_X12_quoted_18 (n + 1) t = fb_X12_quoted_18 (fn_X12_quoted_18 n) t := rfl
    simp only [hfn]
    unfold fb_X12_quoted_18 fb_X12_quoted_48
    by_cases c1 : x.length ≤ i
    · rw [if_pos c1]
      refine ⟨t, out_r, fun _ _ => rfl, ?_⟩
      dsimp only
      rw [h.peek0, if_neg (by omega), Option.bind_some, if_neg (by decide), Option.bind_some, if_neg (by decide), Option.bind_some, if_pos (by decide)]
    · have hi : i < x.length := by omega
      have b1 := h.2.2.1 i
      have hpk : fn_X12_peek 0 t = some (nI (x.getD i 0)) := by rw [h.peek0, if_pos hi]
      have e34 : nI (x.getD i 0) = (34 : Int32) ↔ x.getD i 0 = 34 := nI_eq (by omega) (by decide)
      have e92 : nI (x.getD i 0) = (92 : Int32) ↔ x.getD i 0 = 92 := nI_eq (by omega) (by decide)
      rw [if_neg c1]
      by_cases c2 : x.getD i 0 = 34
      · rw [if_pos c2]
        refine ⟨wI (wI t 1079 30 (nI (i + 1))) 1079 39 (nI acc.length), out_I (out_I out_r ⟨rfl, Or.inl rfl⟩) ⟨rfl, Or.inr (Or.inr (Or.inr rfl))⟩, fun _ _ => rfl, ?_⟩
        dsimp only
        refine ⟨?_, h.fr ((wI_o (by omega)).trans (wI_o (by omega))) rfl ((wI_o (by omega)).trans (wI_e _ _ _ _)) (by omega), ((wI_o (by omega)).trans (wI_o (by omega))).trans h7, ((wI_o (by omega)).trans (wI_o (by omega))).trans h8, wI_e _ _ _ _, hF⟩
        rw [hpk, Option.bind_some, if_pos (e34.mpr c2), h5, nI_1, wI_o (by omega), h7, wI_o (by omega), h8, nI_sub (by omega), Nat.add_sub_cancel_left]
      · rw [if_neg c2]
        have main : ∀ (i1 : Nat) (t' : uS), (i1 = i ∨ i1 = i + 1) → (if x.getD i 0 = 92 then i + 1 else i) = i1 → t' = wI t 1079 30 (nI i1) → ∃ t1 : uS, out rqI rqF t t1 ∧ (∀ j : Nat, j < bg → t1.F 1097 j = t.F 1097 j) ∧ (match (if x.length ≤ (if x.getD i 0 = 92 then i + 1 else i) then none else if acc.length = 200 then none else qd x n ((if x.getD i 0 = 92 then i + 1 else i) + 1) (acc ++ [x.getD (if x.getD i 0 = 92 then i + 1 else i) 0])) with | none => ((fn_X12_peek 0 t').bind fun v1 => if v1 < 0 then (some (t', (5 : Int32))) else ((fn_X12_peek 0 t').bind fun v4 => (fn_X12_into v4 200 t').bind fun r6 => if r6.2 = true then (fn_X12_quoted_18 n (wI r6.1 1079 30 ((r6.1.I 1079 30) + 1))) else (some (r6.1, (5 : Int32))))) = some (t1, 5) | some (str, e) => ((fn_X12_peek 0 t').bind fun v1 => if v1 < 0 then (some (t', (5 : Int32))) else ((fn_X12_peek 0 t').bind fun v4 => (fn_X12_into v4 200 t').bind fun r6 => if r6.2 = true then (fn_X12_quoted_18 n (wI r6.1 1079 30 ((r6.1.I 1079 30) + 1))) else (some (r6.1, (5 : Int32))))) = some (t1, 4) ∧ lxR t1 x e ∧ t1.I 1079 37 = nI (bg + str.length) ∧ t1.I 1079 38 = nI bg ∧ t1.I 1079 39 = nI str.length ∧ ∀ j : Nat, j < str.length → t1.F 1097 (bg + j) = nI (str.getD j 0)) := by
          intro i1 t' hi1 he ht'
          rw [he]
          have hl' : lxR t' x i1 := by rw [ht']; exact h.to (by omega)
          have o' : out rqI rqF t t' := by rw [ht']; exact out_I out_r ⟨rfl, Or.inl rfl⟩
          have h7' : t'.I 1079 37 = nI (bg + acc.length) := by rw [ht', wI_o (by omega)]; exact h7
          have h8' : t'.I 1079 38 = nI bg := by rw [ht', wI_o (by omega)]; exact h8
          have hF' : t'.F = t.F := by rw [ht']; rfl
          by_cases c3 : x.length ≤ i1
          · rw [if_pos c3]
            refine ⟨t', o', fun _ _ => by rw [hF'], ?_⟩
            dsimp only
            rw [hl'.peek0, if_neg (by omega), Option.bind_some, if_pos (by decide)]
          · have b2 := h.2.2.1 i1
            have hpk' : fn_X12_peek 0 t' = some (nI (x.getD i1 0)) := by rw [hl'.peek0, if_pos (by omega)]
            have hin := r_into (b := x.getD i1 0) (mx := 200) (show bg + acc.length < 2000 by omega) h7' h8' b (by decide)
            have hin' : fn_X12_into (nI (x.getD i1 0)) 200 t' = _ := hin
            rw [if_neg c3]
            by_cases c4 : acc.length = 200
            · rw [if_pos c4]
              refine ⟨t', o', fun _ _ => by rw [hF'], ?_⟩
              dsimp only
              rw [hpk', Option.bind_some, if_neg (nI_pos (by omega)), Option.bind_some, hin', if_pos c4, Option.bind_some, if_neg (show ¬ (false = true) by decide)]
            · rw [if_neg c4]
              have e30 : (wI (wF t' 1097 (bg + acc.length) (nI (x.getD i1 0))) 1079 37 (nI (bg + acc.length + 1))).I 1079 30 = nI i1 := by rw [wI_o (by omega), wF_I]; exact hl'.2.2.2.2.1
              obtain ⟨t1, y1, y2, y3⟩ := ih (i1 + 1) (wI (wI (wF t' 1097 (bg + acc.length) (nI (x.getD i1 0))) 1079 37 (nI (bg + acc.length + 1))) 1079 30 (nI (i1 + 1))) (acc ++ [x.getD i1 0]) (hl'.fr ((wI_o (by omega)).trans (wI_o (by omega))) (wF_r (by decide)) (wI_e _ _ _ _) (by omega)) (by rw [wI_o (by omega), wI_e, List.length_append]; rfl) (by rw [wI_o (by omega), wI_o (by omega), wF_I]; exact h8') (by
                intro j hj
                rw [List.length_append] at hj
                have hj : j < acc.length + 1 := hj
                rw [wI_F, wI_F]
                by_cases z : j = acc.length
                · rw [z, wF_e, getDn_end]
                · rw [wF_o (by omega), hF', getDn_app (by omega)]; exact hF j (by omega)) (by omega) (by rw [List.length_append]; show acc.length + 1 ≤ 200; omega) (by rw [List.length_append]; show bg + (acc.length + 1) + 1 ≤ i1 + 1; omega)
              refine ⟨t1, out_t o' (out_t (out_I (out_I (out_F out_r rfl) ⟨rfl, Or.inr (Or.inl rfl)⟩) ⟨rfl, Or.inl rfl⟩) y1), ?_, ?_⟩
              · intro j hj
                rw [y2 j hj, wI_F, wI_F, wF_o (by omega), hF']
              · have hrun : ((fn_X12_peek 0 t').bind fun v1 => if v1 < 0 then (some (t', (5 : Int32))) else ((fn_X12_peek 0 t').bind fun v4 => (fn_X12_into v4 200 t').bind fun r6 => if r6.2 = true then (fn_X12_quoted_18 n (wI r6.1 1079 30 ((r6.1.I 1079 30) + 1))) else (some (r6.1, (5 : Int32))))) = fn_X12_quoted_18 n (wI (wI (wF t' 1097 (bg + acc.length) (nI (x.getD i1 0))) 1079 37 (nI (bg + acc.length + 1))) 1079 30 (nI (i1 + 1))) := by
                  rw [hpk', Option.bind_some, if_neg (nI_pos (by omega)), Option.bind_some, hin', if_neg c4, Option.bind_some, if_pos rfl, e30, nI_1]
                rw [hrun]
                exact y3
        rw [hpk, Option.bind_some]
        simp only [if_neg (fun z => c2 (e34.mp z)), Option.bind_some]
        by_cases c5 : x.getD i 0 = 92
        · have := main (i + 1) (wI t 1079 30 (nI (i + 1))) (Or.inr rfl) (if_pos c5) rfl
          simp only [if_pos (e92.mpr c5), h5, nI_1]
          exact this
        · have := main i t (Or.inl rfl) (if_neg c5) (wI_self h5).symm
          simp only [hpk, Option.bind_some] at this
          simp only [if_neg (fun z => c5 (e92.mp z))]
          exact this
