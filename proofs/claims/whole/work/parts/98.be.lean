/-! GETSCRIPT, LISTSCRIPTS -/
def lnI (u k f : Nat) : Prop := scI k f
def lnF (u k f : Nat) : Prop := scF k f ∨ qR u k f
theorem pMid.qq {u : Nat} (hu : u < 4) {s t s1 t1 s2 t2 : uS} (h : pMid u s t s1 t1) (hs : 1171 ≤ s.n) (g1 : pQ1 u s2 t2) (g2 : out (qC u) (qC u) s1 s2) (g3 : out scI (lnF u) t1 t2) : pMid u s t s2 t2 ∧ s2.n = s1.n ∧ s2.m = s1.m := by
  obtain ⟨⟨dy, cm, ct, h1, h2⟩, h3, ⟨scs, ac, ⟨es, h4⟩, sl, h5⟩, h6, h7, h8⟩ := h
  have hq := qk_u hu
  refine ⟨⟨⟨dy, cm, ct, ?_, ?_⟩, g1, ⟨scs, ac, ⟨es, ?_⟩, sl, ?_⟩, oc_t h6 (oc_w (oc_out g2) (fun k f h => Or.inr (Or.inr (Or.inl h))) (fun k f h => Or.inr h) (fun _ _ h => h) (fun _ _ h => h)), ol_t h7 (ol_w (ol_out g3) (fun _ _ h => Or.inr h) (fun _ _ h => h.elim Or.inl (fun h => Or.inr (Or.inl h))) (fun _ _ h => h)), fun k hk z => h8 k hk (z.fr (g2.2.1 _ _ (by unfold qC; omega)) (by rw [g2.1.2.2.2.1]))⟩, g2.1.2.2.2.2.1, g2.1.2.2.2.2.2⟩
  · obtain ⟨a1, a2, a3, a4, a5⟩ := h1
    exact ⟨(g2.2.1 _ _ (by unfold qC; omega)).trans a1, (g2.2.1 _ _ (by unfold qC; omega)).trans a2, (g2.2.1 _ _ (by unfold qC; omega)).trans a3, (g2.2.1 _ _ (by unfold qC; omega)).trans a4, a5⟩
  · obtain ⟨a1, a2, a3, a4, a5⟩ := h2
    exact ⟨(g3.2.1 _ _ (by unfold scI; omega)).trans a1, (g3.2.1 _ _ (by unfold scI; omega)).trans a2, (g3.2.1 _ _ (by unfold scI; omega)).trans a3, (g3.2.1 _ _ (by unfold scI; omega)).trans a4, a5⟩
  · refine h4.fr (Nat.le_of_eq g2.1.2.2.2.2.1.symm) (fun k _ => by rw [g2.1.1]) (g2.2.1 _ _ (by unfold qC; omega)) (by rw [g2.1.2.2.2.1]) (by rw [g2.1.2.1]) (fun i hi => by rw [g2.1.2.1]) (fun k hk _ => funext fun f => g2.2.2 _ _ (by unfold qC; omega))
  · exact h5.fr (g3.2.2 _ _ (by unfold lnF scF qR; omega)) (g3.2.2 _ _ (by unfold lnF scF qR; omega)) (fun f _ _ => ⟨g3.2.2 _ _ (by unfold lnF scF qR; omega), g3.2.2 _ _ (by unfold lnF scF qR; omega), g3.2.2 _ _ (by unfold lnF scF qR; omega)⟩) (fun f _ _ => g3.2.2 _ _ (by unfold lnF scF qR; omega)) (fun f _ _ => by rw [g3.1.2.2.1])
theorem q_num {n u : Nat} (hu : u < 4) (hn : n < 100000) {s t : uS} (h : pQ1 u s t) : ∃ s1 t1 : uS, fn_X5_digits (qk u) (nI n) s = some s1 ∧ fn_X12_sayNumber (nI u) (nI n) t = some t1 ∧ pQ1 u s1 t1 ∧ out (qC u) (qC u) s s1 ∧ out onI (fun k f => onF k f ∨ qR u k f) t t1 := by
  obtain ⟨xs, h1, h2, h3⟩ := h
  obtain ⟨s1, a1, a2, a3⟩ := c_digits (show u < 5 by omega) hn h1
  obtain ⟨t1, b1, b2, b3⟩ := r_sayNumber (show u < 5 by omega) hn h2
  exact ⟨s1, t1, a1, b1, ⟨_, a2, b2, i8_tell _ h3⟩, a3, b3⟩
theorem on_sc {u : Nat} {t t1 : uS} (h : out onI (fun k f => onF k f ∨ qR u k f) t t1) : out scI (lnF u) t t1 := out_w h (fun k f h => ⟨h.1, Or.inl h.2⟩) (fun k f h => h.elim (fun h => Or.inl (Or.inl h)) Or.inr)
theorem qR_sc {u : Nat} {t t1 : uS} (h : out rNo (qR u) t t1) : out scI (lnF u) t t1 := out_w h (fun k f h => h.elim) (fun k f h => Or.inr h)
theorem out_cpy {PI PF : Nat → Nat → Prop} {s : uS} {K off i L : Nat} {g : Nat → Int32} (h : ∀ f, PF K f) : out PI PF s (cpy s K off i L g) := by
  refine ⟨⟨rfl, rfl, rfl, rfl, rfl, rfl⟩, fun _ _ _ => rfl, ?_⟩
  intro k f hk
  rw [cpy_F, if_neg (fun e => hk (by rw [e.1]; exact h f))]
theorem m_get {u : Nat} (hu : u < 4) {s t : uS} {ps : List (Nat × List Nat)} {bg v : Nat} (h : cCx u s t ps bg v) (hp : 0 < ps.length) : ∃ s1 t1 : uS, fn_X11_getScript (nI u) s = some s1 ∧ fn_X12_getScript (nI u) t = some (t1, true) ∧ cmdR u s t s1 t1 true := by
  obtain ⟨scs, ac, ⟨es, h4⟩, sl, h5⟩ := h.2.1.2.2.1
  obtain ⟨n1, n2⟩ := h.nm hu hp (by decide) h4 h5
  have n1' : fn_X10_scriptNamed (985 + 16 * u) (978 + 16 * u + 1) 0 s = _ := n1
  have n2' : fn_X12_scriptOf (nI u) 0 t = _ := n2
  have hu5 : u < 5 := by omega
  have l2 := cmd_no hu (w := kW_5) (by decide) h.2.1 h.1.1 (by omega) (by omega)
  have hl := h4.2.1
  unfold fn_X11_getScript fn_X12_getScript
  rw [pgt_usr hu, Option.bind_some, if_pos (so_usr hu), pgt_ses hu, Option.bind_some, if_pos (so_ses hu), n1', n2', Option.bind_some, Option.bind_some]
  simp only [pgt_que hu5, Option.bind_some, if_pos (so_que hu5)]
  cases hsn : snx (ps.getD 0 pk0).2 scs 0 with
  | none =>
    rw [oI_n, if_neg (show ¬ (0 : Int32) ≤ -1 by decide)]
    obtain ⟨s2, t2, a1, a2, a3⟩ := l2
    refine ⟨s2, t2, ?_, by rw [show kW_207 = kW_5 from rfl, a2, Option.bind_some], a3⟩
    show ((fn_X5_refusal (qk u) kW_5 s).bind _) = _
    rw [a1, Option.bind_some]
  | some i =>
    have hi : i < scs.length := by have := snx_lt hsn; omega
    obtain ⟨q1, q2, q3, q4⟩ := h5.2.2.2.1 i hi
    have hse := (h4.2.2.2.1 i hi).2
    obtain ⟨tb, r1, r2⟩ := hse.2.2.2.2
    have hx := q4.2.1
    rw [oI_s, if_pos (nI_pos' (show i < 2 ^ 31 by omega))]
    simp (disch := omega) only [show (4 : Int32) = nI 4 from rfl, nI_mul, nI_add, g_1151, Option.bind_some, q1]
    rw [r_load (by omega) q4, Option.bind_some]
    show ∃ s1 t1 : uS, (if uIs s (es.getD i 0) 1 then (s.R (es.getD i 0) 1).bind _ else none) = some s1 ∧ _ ∧ _
    rw [if_pos hse.is, r1, Option.bind_some]
    generalize hy : (scs.getD i sc0).2 = y at *
    -- the source in the reference
    have o0 : out scI (lnF u) t (cpy (wI t 1079 29 (nI y.length)) 1096 0 0 y.length (fun j => nI (y.getD j 0))) := out_t (out_I out_r (by unfold scI; omega)) (out_cpy (fun f => Or.inl (by unfold scF; omega)))
    obtain ⟨xs0, z1, z2, z3⟩ := h.2.1.2.1
    have hq0 : pQ1 u s (cpy (wI t 1079 29 (nI y.length)) 1096 0 0 y.length (fun j => nI (y.getD j 0))) := ⟨xs0, z1, z2.fr (by rw [cpy_Fo (by decide)]; rfl) (by rw [cpy_Fo (by omega)]; rfl), z3⟩
    obtain ⟨s1, t1, a1, a2, a3⟩ := q_put hu5 hq0 (x := 123) (y := 123) rfl
    have i29 : t1.I 1079 29 = nI y.length := by rw [a3.2.2.2.1 _ _ (fun z => z), cpy_I, wI_e]
    obtain ⟨s2, t2, b1, b2, b3, b4, b5⟩ := q_num (n := y.length) hu (by omega) a3.1
    obtain ⟨s3, t3, c1, c2, c3⟩ := q_lineP (w := kW_48) hu5 (by decide) b3
    -- class: the bytes
    have rdb : ∀ s' : uS, out (qC u) (qC u) s s' → cBn s' tb y := fun s' o => r2.fr (Nat.le_of_eq o.1.2.2.2.2.1.symm) (by rw [o.1.1]) (funext fun f => o.2.2 _ _ (by have := r2.2.1; have := (qk_lt hu5).2; unfold qC; omega))
    have o3 : out (qC u) (qC u) s s3 := out_t (out_t a3.2.1 b4) c3.2.1
    obtain ⟨xs, y1, y2, y3⟩ := c3.1
    obtain ⟨s4, d1, d2, d3⟩ := c_rangeL (x := y) (k := tb) hu5 (by have := r2.2.1; have := (qk_lt hu5).2; constructor <;> omega) uFu 0 s3 xs (by show _ < 0 + 1000000; omega) (Nat.zero_le _) y1 (rdb s3 o3).rd
    rw [List.drop_zero] at d2
    -- reference: the bytes
    have i29' : t3.I 1079 29 = nI y.length := by rw [c3.2.2.2.1 _ _ (fun z => z), b5.2.1 _ _ (by unfold onI; omega), i29]
    have f96 : ∀ j : Nat, j < y.length → t3.F 1096 j = nI (y.getD j 0) := by
      intro j hj
      rw [c3.2.2.2.2 _ _ (by unfold qR; omega), b5.2.2 _ _ (by unfold onF qR; omega), a3.2.2.2.2 _ _ (by unfold qR; omega)]
      have := cpy_Fe (s := wI t 1079 29 (nI y.length)) (K := 1096) (off := 0) (g := fun j => nI (y.getD j 0)) (Nat.zero_le j) hj
      rwa [Nat.zero_add] at this
    have loop : ∀ (n j : Nat) (t' : uS) (ys : List Int32), y.length < j + n → j ≤ y.length → rQ t' u ys → t'.I 1079 29 = nI y.length → (∀ j : Nat, j < y.length → t'.F 1096 j = nI (y.getD j 0)) → ∃ t'' : uS, fn_X12_getScript_61 n (nI u) (nI j) t' = ((fn_X12_line (nI u) kW_209 t'').bind fun s3 => (fn_X12_line (nI u) kW_204 s3).bind fun s6 => some (s6, true)) ∧ rQ t'' u (q_tell ys (y.drop j)) ∧ out rNo (qR u) t' t'' := by
      intro n
      induction n with
      | zero => intro j t' ys e1 e2; omega
      | succ n ih =>
        intro j t' ys e1 e2 hq hI hF
        unfold fn_X12_getScript_61 fb_X12_getScript_61
        rw [hI]
        by_cases c : y.length ≤ j
        · rw [if_pos (nI_le c (by omega)), List.drop_eq_nil_of_le c]
          exact ⟨t', rfl, hq, out_r⟩
        · obtain ⟨t2', g1, g2, g3⟩ := r_sayO hu5 hq (nI (y.getD j 0))
          obtain ⟨t3', k1, k2, k3⟩ := ih (j + 1) t2' _ (by omega) (by omega) g2 ((g3.2.1 _ _ (fun z => z)).trans hI) (fun i hi => (g3.2.2 _ _ (by unfold qR; omega)).trans (hF i hi))
          refine ⟨t3', ?_, by rw [dropN (by omega), q_tell_c]; exact k2, out_t g3 k3⟩
          rw [if_neg (nI_ge (by omega) (by omega)), g_1096 (by omega), Option.bind_some, hF j (by omega), g1, Option.bind_some, nI_1]
          exact k1
    obtain ⟨t4, e1, e2, e3⟩ := loop uFu 0 t3 xs (by show _ < 0 + 1000000; omega) (Nat.zero_le _) y2 i29' f96
    rw [List.drop_zero] at e2
    have hq4 : pQ1 u s4 t4 := ⟨_, d2, e2, i8_tell _ y3⟩
    obtain ⟨s5, t5, f1, f2, f3⟩ := q_lineP (w := kW_49) hu5 (by decide) hq4
    have ot5 : out scI (lnF u) t t5 := out_t (out_t (out_t (out_t (out_t o0 (qR_sc a3.2.2)) (on_sc b5)) (qR_sc c3.2.2)) (qR_sc e3)) (qR_sc f3.2.2)
    obtain ⟨g1, g2, g3⟩ := h.2.1.qq hu h.1.1 f3.1 (out_t (out_t o3 d3) f3.2.1) ot5
    obtain ⟨s6, t6, k1, k2, k3⟩ := cmd_line hu (w := kW_3) (by decide) g1 h.1.1 (by omega) (by omega)
    refine ⟨s6, t6, ?_, ?_, k3⟩
    · unfold fn_X5_script fn_X5_range
      rw [a1, Option.bind_some, (rdb s1 a3.2.1).len, Option.bind_some, b1, Option.bind_some, c1, Option.bind_some, (rdb s3 o3).len, Option.bind_some]
      have d1' : fn_X5_range_3 uFu (qk u) tb (nI y.length) 0 s3 = some s4 := d1
      rw [d1', Option.bind_some, f1, Option.bind_some, Option.bind_some, k1, Option.bind_some]
    · rw [a2, Option.bind_some, i29, b2, Option.bind_some, show kW_208 = kW_48 from rfl, c2, Option.bind_some]
      have e1' : fn_X12_getScript_61 uFu (nI u) 0 t3 = _ := e1
      rw [e1', show kW_209 = kW_49 from rfl, f2, Option.bind_some, show kW_204 = kW_3 from rfl, k2, Option.bind_some]
