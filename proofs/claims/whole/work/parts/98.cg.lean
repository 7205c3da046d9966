/-! the class's parser as a machine; a word that begins no text is refused everywhere -/
def pD4 (n T : Nat) (s : uS) : Option (uS × Int32) := fb_X4_parse_46 (fn_X4_parse_13 n) (nI T) s
theorem M_pass {n T : Nat} {s : uS} (h : T < 20000) : fn_X4_parse_13 (n + 1) 2 (nI T) s = pD4 n T s := by
  show fb_X4_parse_13 (fn_X4_parse_13 n) 2 (nI T) s = _
  unfold fb_X4_parse_13 fb_X4_parse_33
  rw [if_neg (show ¬ (20000 : Int32) ≤ nI T from nI_ge h (by decide)), if_pos rfl, if_neg (show ¬ (2 : Int32) = 1 by decide)]
  rfl
theorem M_take {n T : Nat} {s : uS} (h : T < 20000) : fn_X4_parse_13 (n + 1) 1 (nI T) s = (fn_X2_next s).bind fun s1 => pD4 n T s1 := by
  show fb_X4_parse_13 (fn_X4_parse_13 n) 1 (nI T) s = _
  unfold fb_X4_parse_13 fb_X4_parse_33
  rw [if_neg (show ¬ (20000 : Int32) ≤ nI T from nI_ge h (by decide)), if_neg (show ¬ (1 : Int32) = 2 by decide), if_pos rfl, if_pos rfl]
  rfl
theorem M_ref {n T : Nat} {s : uS} (h : T < 2 ^ 31) : fn_X4_parse_13 (n + 1) 0 (nI T) s = (fn_X2_line s).bind fun v => some (s, v) := by
  show fb_X4_parse_13 (fn_X4_parse_13 n) 0 (nI T) s = _
  unfold fb_X4_parse_13 fb_X4_parse_425
  rw [if_neg (show ¬ (0 : Int32) = 2 by decide), if_neg (show ¬ (0 : Int32) = 1 by decide), if_neg (show ¬ (0 : Int32) = 3 by decide), ite_self]
theorem M_done {n T : Nat} {s : uS} (h : T < 2 ^ 31) : fn_X4_parse_13 (n + 1) 3 (nI T) s = some (s, 0) := by
  show fb_X4_parse_13 (fn_X4_parse_13 n) 3 (nI T) s = _
  unfold fb_X4_parse_13 fb_X4_parse_425
  rw [if_neg (show ¬ (3 : Int32) = 2 by decide), if_neg (show ¬ (3 : Int32) = 1 by decide), if_pos rfl, ite_self]
/-- the stack, its top first -/
def stk (s : uS) : List (Nat × Nat) → Prop
  | [] => True
  | p :: σ => s.F 14 σ.length = nI p.1 ∧ s.F 15 σ.length = nI p.2 ∧ stk s σ
def vsy (p : Nat × Nat) : Prop := p.1 ≤ 13 ∧ (p.1 ≤ 9 → p.2 < 320) ∧ p.2 < 3840
def stV (σ : List (Nat × Nat)) : Prop := ∀ p ∈ σ, vsy p
theorem stk.fr {s s1 : uS} : ∀ {σ : List (Nat × Nat)}, stk s σ → (∀ i : Nat, i < σ.length → s1.F 14 i = s.F 14 i ∧ s1.F 15 i = s.F 15 i) → stk s1 σ := by
  intro σ
  induction σ with
  | nil => intro _ _; trivial
  | cons p σ ih =>
    intro h g
    have g0 := g σ.length (by rw [List.length_cons]; omega)
    exact ⟨g0.1.trans h.1, g0.2.trans h.2.1, ih h.2.2 (fun i hi => g i (by rw [List.length_cons]; omega))⟩
/-- dispatching on the top symbol -/
theorem D_top {n T a b : Nat} {σ : List (Nat × Nat)} {s : uS} (hk : s.I 7 2 ≠ 6) (hh : s.I 6 5 = nI (σ.length + 1)) (hl : σ.length + 1 ≤ 116) (hn : ∃ m : Nat, m < 320 ∧ s.I 6 2 = nI m) (hs : stk s ((a, b) :: σ)) : iget 20 s 15 (s.I 6 5 - 1) = some (nI b) ∧ iget 20 s 14 (s.I 6 5 - 1) = some (nI a) ∧ ¬ s.I 6 5 = 0 ∧ ¬ (116 : Int32) < s.I 6 5 ∧ s.I 6 2 < 320 := by
  obtain ⟨m, m1, m2⟩ := hn
  have e : s.I 6 5 - 1 = nI σ.length := by rw [hh]; exact nI_sub (show 1 ≤ σ.length + 1 by omega)
  refine ⟨?_, ?_, ?_, ?_, ?_⟩
  · rw [e, g_15 (by omega), hs.2.1]
  · rw [e, g_14 (by omega), hs.1]
  · rw [hh]; exact nI_ne0 (by omega) (by omega)
  · rw [hh]; exact nI_nlt (show σ.length + 1 ≤ 116 by omega) (by decide)
  · rw [m2]; exact nI_lt m1 (by decide)
theorem eqW_tr {w a b : List Nat} (h : eqW w a = true) : eqW w b = eqW a b := by
  have h1 : w.length = a.length ∧ ∀ j : Nat, j < a.length → lo (w.getD j 0) = lo (a.getD j 0) := by
    unfold eqW eqF at h
    rw [decide_eq_true_eq] at h
    simp only [Nat.zero_add] at h
    exact h
  unfold eqW eqF
  apply decide_eq_decide.mpr
  simp only [Nat.zero_add]
  rw [h1.1]
  constructor
  · intro z; exact ⟨z.1, fun j hj => (h1.2 j (by omega)).symm.trans (z.2 j hj)⟩
  · intro z; exact ⟨z.1, fun j hj => (h1.2 j (by omega)).trans (z.2 j hj)⟩
theorem wix_tr {w a : List Nat} (h : eqW w a = true) : ∀ (L : List (List Nat)) (i : Nat), wix w L i = wix a L i := by
  intro L
  induction L with
  | nil => intro i; rfl
  | cons v L ih => intro i; unfold wix; rw [eqW_tr h, ih]
theorem c_sign0 {s : uS} {c : Int32} (h : s.I 7 2 ≠ 4) : fn_X2_isSign c s = some false := by
  unfold fn_X2_isSign
  rw [if_neg h]
/-- what the machine keeps of the lexer -/
def psO (k f : Nat) : Prop := (k = 6 ∧ f = 5) ∨ (16 ≤ k ∧ k < 976 ∧ f = 3)
/-- the token is a word that is like text -/
def txW (k fr : Nat) (x : List Nat) (b e : Nat) (s : uS) : Prop := s.I 7 2 = 0 ∧ lxC s k fr x e ∧ b ≤ e ∧ s.I 7 7 = nI (fr + b) ∧ s.I 7 6 = nI (fr + b) ∧ eqW (sub x b e) kW_75 = true ∧ 976 ≤ k
theorem txW.fr {k fr : Nat} {x : List Nat} {b e : Nat} {s s1 : uS} (h : txW k fr x b e s) (q1 : s1.R = s.R) (q2 : s1.c = s.c) (q3 : s1.n = s.n) (q4 : s1.F k = s.F k) (q5 : s1.I 7 = s.I 7) : txW k fr x b e s1 := by
  obtain ⟨h2, ⟨y1, y2, y3, y4, y5, y6, y7, y8⟩, h3, h4, h5, h6, h7⟩ := h
  exact ⟨by rw [q5]; exact h2, ⟨by rw [q1]; exact y1, y2.fr q2 q3 q4, y3, y4, by rw [q5]; exact y5, by rw [q5]; exact y6, by rw [q5]; exact y7, y8⟩, h3, by rw [q5]; exact h4, by rw [q5]; exact h5, h6, h7⟩
theorem txW.line {k fr : Nat} {x : List Nat} {b e : Nat} {s : uS} (h : txW k fr x b e s) : fn_X2_line s = some (nI (1 + lnc x b)) := by
  obtain ⟨h2, hc, h3, h4, h5, h6, h7⟩ := h
  have := hc.2.2.2.2.2.2.2
  exact c_lineAt hc.1 hc.2.1 hc.2.2.2.2.1 h5 (by omega) hc.2.2.1
theorem txW.pl {k fr : Nat} {x : List Nat} {b e : Nat} {s : uS} (h : txW k fr x b e s) {W : List Nat} (q1 : ∀ c ∈ W, c < 128) (q2 : W.length < 900000) (q3 : wix kW_75 ((spl W).1 :: (spl W).2) 0 = none) : fn_X2_placeIn W s = some (-1) := by
  obtain ⟨h2, hc, h3, h4, h5, h6, h7⟩ := h
  rw [c_placeIn hc h4 h3 hc.2.2.2.2.2.2.2 hc.2.2.2.2.2.2.1 q1 q2, wix_tr h6, q3, oI_n]
theorem txW.cmd {k fr : Nat} {x : List Nat} {b e : Nat} {s : uS} (h : txW k fr x b e s) : fn_X4_startCommand s = some (s, 0) := by
  unfold fn_X4_startCommand fb_X4_startCommand_23
  rw [h.1, if_pos rfl, h.pl (by decide) (by decide) (by decide), Option.bind_some, if_pos (show (-1 : Int32) < 0 by decide)]
theorem txW.str {k fr : Nat} {x : List Nat} {b e : Nat} {s : uS} (h : txW k fr x b e s) {arg : Nat} (ha : arg < 3840) : fn_X4_takeString (nI arg) s = some (s, 0) := by
  unfold fn_X4_takeString
  rw [show nI arg / 12 = nI (arg / 12) from pk_div (d := 12) (by omega) (by decide) (by decide), pgt_nod (show arg / 12 < 320 by omega), Option.bind_some, if_pos (so_nod (show arg / 12 < 320 by omega)), h.1, if_neg (show ¬ (0 : Int32) = 3 by decide)]
/-- the machine's turn with a word refused -/
theorem txW.ref {k fr : Nat} {x : List Nat} {b e n T : Nat} {s : uS} (h : txW k fr x b e s) (hT : T < 20000) : fn_X4_parse_13 (n + 1) 0 (nI T + 1) s = some (s, nI (1 + lnc x b)) := by
  rw [nI_1, M_ref (by omega), h.line, Option.bind_some]
theorem text_ref {k fr : Nat} {x : List Nat} {b e : Nat} : ∀ (σ : List (Nat × Nat)) (n T : Nat) (s : uS), σ.length ≤ 116 → stV σ → stk s σ → s.I 6 5 = nI σ.length → (∃ m : Nat, m < 320 ∧ s.I 6 2 = nI m) → T + σ.length + 2 < 20000 → σ.length + 2 < n → txW k fr x b e s → ∃ s1 : uS, pD4 n T s = some (s1, nI (1 + lnc x b)) ∧ out psI psI s s1 := by
  intro σ
  induction σ with
  | nil =>
    intro n T s hl hv hs hh hn hT hf h
    refine ⟨s, ?_, out_r⟩
    unfold pD4 fb_X4_parse_46 fb_X4_parse_84
    rw [h.1, if_neg (show ¬ (0 : Int32) = 6 by decide), hh, if_pos (show nI ([] : List (Nat × Nat)).length = 0 from rfl), h.line, Option.bind_some]
  | cons p σ ih =>
    intro n T s hl hv hs hh hn hT hf h
    obtain ⟨a, arg⟩ := p
    rw [List.length_cons] at hl hh hT hf
    obtain ⟨v1, v2, v3⟩ := hv (a, arg) (by simp)
    have v1 : a ≤ 13 := v1
    have v2 : a ≤ 9 → arg < 320 := v2
    have v3 : arg < 3840 := v3
    obtain ⟨d1, d2, d3, d4, d5⟩ := D_top (n := n) (T := T) (by rw [h.1]; decide) hh (by omega) hn hs
    have c4 : s.I 7 2 ≠ 4 := by rw [h.1]; decide
    obtain ⟨n', rfl⟩ : ∃ n' : Nat, n = n' + 1 := ⟨n - 1, by omega⟩
    have hT' : T < 20000 := by omega
    have popd : ∀ s' : uS, s'.F = s.F → s'.I 6 5 = nI σ.length → s'.I 6 2 = s.I 6 2 → s'.I 7 = s.I 7 → s'.R = s.R → s'.c = s.c → s'.n = s.n → out psI psI s s' → ∃ s1 : uS, fn_X4_parse_13 (n' + 1) 2 (nI T + 1) s' = some (s1, nI (1 + lnc x b)) ∧ out psI psI s s1 := by
      intro s' q1 q2 q3 q4 q5 q6 q7 q8
      rw [nI_1, M_pass (by omega)]
      obtain ⟨s1, z1, z2⟩ := ih n' (T + 1) s' (by omega) (fun p hp => hv p (by simp [hp])) (hs.2.2.fr (fun i _ => by rw [q1]; exact ⟨rfl, rfl⟩)) q2 (by rw [q3]; exact hn) (by omega) (by omega) (h.fr q5 q6 q7 (by rw [q1]) q4)
      exact ⟨s1, z1, out_t q8 z2⟩
    have h50 : s.I 6 5 - 1 = nI σ.length := by rw [hh]; exact nI_sub (show 1 ≤ σ.length + 1 by omega)
    have done : ∃ s1 : uS, fn_X4_parse_13 (n' + 1) 0 (nI T + 1) s = some (s1, nI (1 + lnc x b)) ∧ out psI psI s s1 := ⟨s, h.ref hT', out_r⟩
    unfold pD4 fb_X4_parse_46
    rw [h.1, if_neg (show ¬ (0 : Int32) = 6 by decide), if_neg d3, if_neg d4, if_pos d5, d1, Option.bind_some, d2, Option.bind_some, if_neg (show ¬ (0 : Int32) = 5 by decide), if_neg (show ¬ (0 : Int32) = 1 by decide)]
    have hcs : a = 0 ∨ a = 1 ∨ a = 2 ∨ a = 3 ∨ a = 4 ∨ a = 5 ∨ a = 6 ∨ a = 7 ∨ a = 8 ∨ a = 9 ∨ a = 10 ∨ a = 11 ∨ a = 12 ∨ a = 13 := by omega
    rcases hcs with q | q | q | q | q | q | q | q | q | q | q | q | q | q <;> subst q
    · rw [if_pos (show nI 0 = 0 from rfl)]
      unfold fn_X4_require fb_X4_require_54 fn_X4_push
      have hlt : σ.length < 120 := by omega
      rw [h.1, if_pos rfl, h.pl (by decide) (by decide) (by decide), Option.bind_some, if_neg (show ¬ (-1 : Int32) = 0 by decide), wI_e, h50, if_neg (show ¬ (120 : Int32) ≤ nI σ.length from nI_ge hlt (by decide)), p_14 (by omega), Option.bind_some, wF_I, wI_e, p_15 (by omega), Option.bind_some, wF_I, wF_I, wI_e, nI_1, Option.bind_some, Option.bind_some, nI_1, M_pass (by omega)]
      obtain ⟨n2, rfl⟩ : ∃ n2 : Nat, n' = n2 + 1 := ⟨n' - 1, by omega⟩
      have hk := h.2.2.2.2.2.2
      have hs' : stk (wI (wF (wF (wI s 6 5 (nI σ.length)) 14 σ.length 1) 15 σ.length 0) 6 5 (nI (σ.length + 1))) ((1, 0) :: σ) := by
        refine ⟨?_, ?_, hs.2.2.fr (fun i hi => ⟨?_, ?_⟩)⟩
        · rw [wI_F, wF_o (by omega), wF_e]; rfl
        · rw [wI_F, wF_e]; rfl
        · rw [wI_F, wF_o (by omega), wF_o (by omega)]; rfl
        · rw [wI_F, wF_o (by omega), wF_o (by omega)]; rfl
      have hI7 : (wI (wF (wF (wI s 6 5 (nI σ.length)) 14 σ.length 1) 15 σ.length 0) 6 5 (nI (σ.length + 1))).I 7 = s.I 7 := by rw [wI_r (by decide), wF_I, wF_I, wI_r (by decide)]
      have hI62 : (wI (wF (wF (wI s 6 5 (nI σ.length)) 14 σ.length 1) 15 σ.length 0) 6 5 (nI (σ.length + 1))).I 6 2 = s.I 6 2 := by rw [wI_o (by omega), wF_I, wF_I, wI_o (by omega)]
      have h' : txW k fr x b e (wI (wF (wF (wI s 6 5 (nI σ.length)) 14 σ.length 1) 15 σ.length 0) 6 5 (nI (σ.length + 1))) := h.fr rfl rfl rfl (by rw [wI_F, wF_r (by omega), wF_r (by omega)]; rfl) hI7
      have o' : out psI psI s (wI (wF (wF (wI s 6 5 (nI σ.length)) 14 σ.length 1) 15 σ.length 0) 6 5 (nI (σ.length + 1))) := out_I (out_F (out_F (out_I out_r ⟨by omega, by omega⟩) ⟨by omega, by omega⟩) ⟨by omega, by omega⟩) ⟨by omega, by omega⟩
      obtain ⟨f1, f2, f3, f4, f5⟩ := D_top (n := n2) (T := T + 1) (by rw [h'.1]; decide) (wI_e _ _ _ _) (by omega) (by rw [hI62]; exact hn) hs'
      generalize wI (wF (wF (wI s 6 5 (nI σ.length)) 14 σ.length 1) 15 σ.length 0) 6 5 (nI (σ.length + 1)) = S at *
      unfold pD4 fb_X4_parse_46
      rw [h'.1, if_neg (show ¬ (0 : Int32) = 6 by decide), if_neg f3, if_neg f4, if_pos f5, f1, Option.bind_some, f2, Option.bind_some, if_neg (show ¬ nI 1 = 0 by decide), if_pos (show nI 1 = 1 from rfl), if_neg (show ¬ (0 : Int32) = 5 by decide), h'.cmd, Option.bind_some]
      exact ⟨S, h'.ref (by omega), o'⟩
    · rw [if_neg (show ¬ nI 1 = 0 by decide), if_pos (show nI 1 = 1 from rfl), h.cmd, Option.bind_some]; exact done
    · rw [if_neg (show ¬ nI 2 = 0 by decide), if_neg (show ¬ nI 2 = 1 by decide), if_pos (show nI 2 = 2 from rfl)]
      unfold fn_X4_openBlock
      rw [c_sign0 c4, Option.bind_some, if_neg (show ¬ (false = true) by decide), Option.bind_some]; exact done
    · rw [if_neg (show ¬ nI 3 = 0 by decide), if_neg (show ¬ nI 3 = 1 by decide), if_neg (show ¬ nI 3 = 2 by decide), if_pos (show nI 3 = 3 from rfl), c_sign0 c4, Option.bind_some, if_neg (show ¬ (false = true) by decide), h.cmd, Option.bind_some]; exact done
    · rw [if_neg (show ¬ nI 4 = 0 by decide), if_neg (show ¬ nI 4 = 1 by decide), if_neg (show ¬ nI 4 = 2 by decide), if_neg (show ¬ nI 4 = 3 by decide), if_pos (show nI 4 = 4 from rfl)]
      unfold fn_X4_startElse fb_X4_startElse_23 fn_X4_pop
      rw [h.1, if_pos rfl, h.pl (by decide) (by decide) (by decide), Option.bind_some, if_neg (show ¬ (0 : Int32) ≤ -1 by decide), Option.bind_some, Option.bind_some, h50]
      exact popd _ rfl (wI_e _ _ _ _) (wI_o (by omega)) (wI_r (by decide)) rfl rfl rfl (out_I out_r ⟨by omega, by omega⟩)
    · rw [if_neg (show ¬ nI 5 = 0 by decide), if_neg (show ¬ nI 5 = 1 by decide), if_neg (show ¬ nI 5 = 2 by decide), if_neg (show ¬ nI 5 = 3 by decide), if_neg (show ¬ nI 5 = 4 by decide), if_pos (show nI 5 = 5 from rfl)]
      unfold fn_X4_startTest fb_X4_startTest_23
      rw [h.1, if_pos rfl, h.pl (by decide) (by decide) (by decide), Option.bind_some, pgt_nod (v2 (by decide)), Option.bind_some, if_pos (so_nod (v2 (by decide))), if_pos (show (-1 : Int32) < 0 by decide), Option.bind_some]; exact done
    · rw [if_neg (show ¬ nI 6 = 0 by decide), if_neg (show ¬ nI 6 = 1 by decide), if_neg (show ¬ nI 6 = 2 by decide), if_neg (show ¬ nI 6 = 3 by decide), if_neg (show ¬ nI 6 = 4 by decide), if_neg (show ¬ nI 6 = 5 by decide), if_pos (show nI 6 = 6 from rfl)]
      unfold fn_X4_moreTests
      rw [c_sign0 c4, Option.bind_some, if_neg (show ¬ (false = true) by decide), c_sign0 c4, Option.bind_some, if_neg (show ¬ (false = true) by decide), Option.bind_some]; exact done
    · rw [if_neg (show ¬ nI 7 = 0 by decide), if_neg (show ¬ nI 7 = 1 by decide), if_neg (show ¬ nI 7 = 2 by decide), if_neg (show ¬ nI 7 = 3 by decide), if_neg (show ¬ nI 7 = 4 by decide), if_neg (show ¬ nI 7 = 5 by decide), if_neg (show ¬ nI 7 = 6 by decide), if_pos (show nI 7 = 7 from rfl)]
      unfold fn_X4_endTest fn_X4_pop
      have ha := v2 (by decide)
      rw [pgt_nod ha, Option.bind_some, if_pos (so_nod ha), Option.bind_some, Option.bind_some, wI_o (show ¬ (6 = 16 + 3 * arg ∧ 5 = 3) by omega), h50]
      exact popd _ rfl (wI_e _ _ _ _) ((wI_o (by omega)).trans (wI_o (by omega))) ((wI_r (by decide)).trans (wI_r (by omega))) rfl rfl rfl (out_I (out_I out_r ⟨by omega, by omega⟩) ⟨by omega, by omega⟩)
    · rw [if_neg (show ¬ nI 8 = 0 by decide), if_neg (show ¬ nI 8 = 1 by decide), if_neg (show ¬ nI 8 = 2 by decide), if_neg (show ¬ nI 8 = 3 by decide), if_neg (show ¬ nI 8 = 4 by decide), if_neg (show ¬ nI 8 = 5 by decide), if_neg (show ¬ nI 8 = 6 by decide), if_neg (show ¬ nI 8 = 7 by decide), if_pos (show nI 8 = 8 from rfl)]
      unfold fn_X4_pop
      rw [Option.bind_some, h50]
      exact popd _ rfl (wI_e _ _ _ _) (wI_o (by omega)) (wI_r (by decide)) rfl rfl rfl (out_I out_r ⟨by omega, by omega⟩)
    · rw [if_neg (show ¬ nI 9 = 0 by decide), if_neg (show ¬ nI 9 = 1 by decide), if_neg (show ¬ nI 9 = 2 by decide), if_neg (show ¬ nI 9 = 3 by decide), if_neg (show ¬ nI 9 = 4 by decide), if_neg (show ¬ nI 9 = 5 by decide), if_neg (show ¬ nI 9 = 6 by decide), if_neg (show ¬ nI 9 = 7 by decide), if_neg (show ¬ nI 9 = 8 by decide), if_pos (show nI 9 = 9 from rfl)]
      unfold fn_X4_takeNumber
      have ha := v2 (by decide)
      rw [pgt_nod ha, Option.bind_some, if_pos (so_nod ha), h.1, if_neg (show ¬ (0 : Int32) = 2 by decide), Option.bind_some]; exact done
    · rw [if_neg (show ¬ nI 10 = 0 by decide), if_neg (show ¬ nI 10 = 1 by decide), if_neg (show ¬ nI 10 = 2 by decide), if_neg (show ¬ nI 10 = 3 by decide), if_neg (show ¬ nI 10 = 4 by decide), if_neg (show ¬ nI 10 = 5 by decide), if_neg (show ¬ nI 10 = 6 by decide), if_neg (show ¬ nI 10 = 7 by decide), if_neg (show ¬ nI 10 = 8 by decide), if_neg (show ¬ nI 10 = 9 by decide), if_pos (show nI 10 = 10 from rfl), h.str v3, Option.bind_some]; exact done
    · rw [if_neg (show ¬ nI 11 = 0 by decide), if_neg (show ¬ nI 11 = 1 by decide), if_neg (show ¬ nI 11 = 2 by decide), if_neg (show ¬ nI 11 = 3 by decide), if_neg (show ¬ nI 11 = 4 by decide), if_neg (show ¬ nI 11 = 5 by decide), if_neg (show ¬ nI 11 = 6 by decide), if_neg (show ¬ nI 11 = 7 by decide), if_neg (show ¬ nI 11 = 8 by decide), if_neg (show ¬ nI 11 = 9 by decide), if_neg (show ¬ nI 11 = 10 by decide), if_pos (show nI 11 = 11 from rfl), c_sign0 c4, Option.bind_some, if_neg (show ¬ (false = true) by decide), h.str v3, Option.bind_some]; exact done
    · rw [if_neg (show ¬ nI 12 = 0 by decide), if_neg (show ¬ nI 12 = 1 by decide), if_neg (show ¬ nI 12 = 2 by decide), if_neg (show ¬ nI 12 = 3 by decide), if_neg (show ¬ nI 12 = 4 by decide), if_neg (show ¬ nI 12 = 5 by decide), if_neg (show ¬ nI 12 = 6 by decide), if_neg (show ¬ nI 12 = 7 by decide), if_neg (show ¬ nI 12 = 8 by decide), if_neg (show ¬ nI 12 = 9 by decide), if_neg (show ¬ nI 12 = 10 by decide), if_neg (show ¬ nI 12 = 11 by decide), if_pos (show nI 12 = 12 from rfl)]
      unfold fn_X4_moreStrings
      rw [c_sign0 c4, Option.bind_some, if_neg (show ¬ (false = true) by decide), c_sign0 c4, Option.bind_some, if_neg (show ¬ (false = true) by decide), Option.bind_some]; exact done
    · rw [if_neg (show ¬ nI 13 = 0 by decide), if_neg (show ¬ nI 13 = 1 by decide), if_neg (show ¬ nI 13 = 2 by decide), if_neg (show ¬ nI 13 = 3 by decide), if_neg (show ¬ nI 13 = 4 by decide), if_neg (show ¬ nI 13 = 5 by decide), if_neg (show ¬ nI 13 = 6 by decide), if_neg (show ¬ nI 13 = 7 by decide), if_neg (show ¬ nI 13 = 8 by decide), if_neg (show ¬ nI 13 = 9 by decide), if_neg (show ¬ nI 13 = 10 by decide), if_neg (show ¬ nI 13 = 11 by decide), if_neg (show ¬ nI 13 = 12 by decide), c_sign0 c4, Option.bind_some, if_neg (show ¬ (false = true) by decide)]; exact done
