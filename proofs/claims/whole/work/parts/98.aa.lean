theorem bp_b (x : Int32) : x.toInt8.toInt32 &&& 255 = x &&& 255 := by
  apply Int32.toBitVec_inj.mp
  rw [Int32.toBitVec_and, Int32.toBitVec_and, Int8.toBitVec_toInt32, Int32.toBitVec_toInt8]
  apply BitVec.eq_of_getLsbD_eq
  intro i hi
  rw [BitVec.getLsbD_and, BitVec.getLsbD_and]
  have hm : ∀ i < 32, 8 ≤ i → (255 : Int32).toBitVec.getLsbD i = false := by decide
  rcases Nat.lt_or_ge i 8 with z | z
  · rw [BitVec.getLsbD_signExtend, BitVec.getLsbD_signExtend, if_pos z, if_pos hi]
    simp only [z, hi, decide_true, Bool.true_and]
  · rw [hm i hi z]; simp
/-- the tape: bytes with their signs; the reference keeps them without -/
def cT (s : uS) (xs : List Int32) : Prop := xs.length ≤ 6000 ∧ s.I 0 9 = nI xs.length ∧ ∀ i : Nat, i < xs.length → s.F 1 i = xs.getD i 0
def rT (s : uS) (xs : List Int32) : Prop := xs.length ≤ 6000 ∧ s.I 1079 5 = nI xs.length ∧ ∀ i : Nat, i < xs.length → s.F 1080 i = xs.getD i 0 &&& 255
def t_by (x : Int32) (k : Nat) : Int32 := (x >>> (nI (24 - 8 * k) &&& 31)).toInt8.toInt32
def t_four (xs : List Int32) (x : Int32) : List Int32 := xs ++ [t_by x 0] ++ [t_by x 1] ++ [t_by x 2] ++ [t_by x 3]
theorem c_tp1 {n k : Nat} {x : Int32} {s : uS} {xs : List Int32} (hk : k < 4) (h : cT s xs) (hl : xs.length < 6000) : fn_X11_addToTape_3 (n + 1) x (nI (24 - 8 * k)) s = fn_X11_addToTape_3 n x (nI (24 - 8 * k) + (-8)) (wI (wF s 1 xs.length (t_by x k)) 0 9 (nI (xs.length + 1))) ∧ cT (wI (wF s 1 xs.length (t_by x k)) 0 9 (nI (xs.length + 1))) (xs ++ [t_by x k]) := by
  obtain ⟨h1, h2, h3⟩ := h
  refine ⟨?_, by rw [List.length_append]; exact hl, by rw [wI_e, List.length_append]; rfl, fun i hi => ?_⟩
  · show fb_X11_addToTape_3 (fn_X11_addToTape_3 n) x (nI (24 - 8 * k)) s = _
    unfold fb_X11_addToTape_3
    rw [if_neg (nI_pos (by omega)), h2, if_neg (by rw [show (6000 : Int32) = nI 6000 by decide]; exact nI_ge hl (by decide)), iput_c (N := 6000) (by decide) (by decide) hl (by decide), Option.bind_some, wF_I, h2, nI_1, unar_21]
    rfl
  · rw [List.length_append] at hi
    have hi : i < xs.length + 1 := hi
    rw [wI_F]
    by_cases c : i = xs.length
    · rw [c, wF_e, getD_end]
    · rw [wF_o (fun e => c e.2), getD_app (by omega)]
      exact h3 i (by omega)
def c_tape4 (s : uS) (n : Nat) (x : Int32) : uS := wI (wF (wI (wF (wI (wF (wI (wF s 1 n (t_by x 0)) 0 9 (nI (n + 1))) 1 (n + 1) (t_by x 1)) 0 9 (nI (n + 1 + 1))) 1 (n + 1 + 1) (t_by x 2)) 0 9 (nI (n + 1 + 1 + 1))) 1 (n + 1 + 1 + 1) (t_by x 3)) 0 9 (nI (n + 1 + 1 + 1 + 1))
theorem c_add {s : uS} {xs : List Int32} (h : cT s xs) (hl : xs.length + 4 ≤ 6000) (x : Int32) : ∃ s1 : uS, fn_X11_addToTape x s = some s1 ∧ cT s1 (t_four xs x) ∧ ∀ f : Nat, f ≠ 9 → s1.I 0 f = s.I 0 f := by
  unfold fn_X11_addToTape
  obtain ⟨a1, b1⟩ := c_tp1 (n := 999999) (k := 0) (x := x) (by decide) h (by omega)
  obtain ⟨a2, b2⟩ := c_tp1 (n := 999998) (k := 1) (x := x) (by decide) b1 (by rw [List.length_append]; show xs.length + 1 < 6000; omega)
  obtain ⟨a3, b3⟩ := c_tp1 (n := 999997) (k := 2) (x := x) (by decide) b2 (by rw [List.length_append, List.length_append]; show xs.length + 1 + 1 < 6000; omega)
  obtain ⟨a4, b4⟩ := c_tp1 (n := 999996) (k := 3) (x := x) (by decide) b3 (by rw [List.length_append, List.length_append, List.length_append]; show xs.length + 1 + 1 + 1 < 6000; omega)
  refine ⟨_, ?_, b4, fun f hf => ?_⟩
  · show fn_X11_addToTape_3 (999999 + 1) x (nI (24 - 8 * 0)) s = _
    rw [a1]
    show fn_X11_addToTape_3 (999998 + 1) x (nI (24 - 8 * 1)) _ = _
    rw [a2]
    show fn_X11_addToTape_3 (999997 + 1) x (nI (24 - 8 * 2)) _ = _
    rw [a3]
    show fn_X11_addToTape_3 (999996 + 1) x (nI (24 - 8 * 3)) _ = _
    rw [a4]
    show fb_X11_addToTape_3 _ x (nI (24 - 8 * 3) + (-8)) _ = _
    unfold fb_X11_addToTape_3
    rw [if_pos (by decide)]
  · rw [wI_o (fun e => hf e.2), wF_I, wI_o (fun e => hf e.2), wF_I, wI_o (fun e => hf e.2), wF_I, wI_o (fun e => hf e.2), wF_I]
theorem t_four_len (xs : List Int32) (x : Int32) : (t_four xs x).length = xs.length + 4 := by
  unfold t_four
  simp only [List.length_append, List.length_singleton]
def t_feed (xs : List Int32) (a b c d e : Int32) : List Int32 := t_four (t_four (t_four (t_four (t_four xs a) b) c) d) e
theorem c_feed {s : uS} {pw : Bool} {xs : List Int32} (hp : s.I 0 16 = bI pw) (h : cT s xs) (a b c d e : Int32) : ∃ s1 : uS, fn_X11_feed a b c d e s = some (s1, pw && decide (xs.length ≤ 5980)) ∧ cT s1 (if pw = true ∧ xs.length ≤ 5980 then t_feed xs a b c d e else xs) ∧ ∀ f : Nat, f ≠ 9 → s1.I 0 f = s.I 0 f := by
  unfold fn_X11_feed
  rw [hp]
  cases pw with
  | false => rw [bI_ff, if_pos rfl, if_neg (fun e => absurd e.1 (by decide))]; exact ⟨s, rfl, h, fun _ _ => rfl⟩
  | true =>
    rw [bI_t, if_neg (by decide), h.2.1, show (5980 : Int32) = nI 5980 by decide]
    by_cases hl : xs.length ≤ 5980
    · rw [if_pos (nI_le hl (by decide)), if_pos ⟨rfl, hl⟩, Bool.true_and, decide_eq_true hl]
      obtain ⟨s1, e1, t1, f1⟩ := c_add h (by omega) a
      obtain ⟨s2, e2, t2, f2⟩ := c_add t1 (by rw [t_four_len]; omega) b
      obtain ⟨s3, e3, t3, f3⟩ := c_add t2 (by rw [t_four_len, t_four_len]; omega) c
      obtain ⟨s4, e4, t4, f4⟩ := c_add t3 (by rw [t_four_len, t_four_len, t_four_len]; omega) d
      obtain ⟨s5, e5, t5, f5⟩ := c_add t4 (by rw [t_four_len, t_four_len, t_four_len, t_four_len]; omega) e
      rw [e1, Option.bind_some, e2, Option.bind_some, e3, Option.bind_some, e4, Option.bind_some, e5]
      exact ⟨s5, rfl, t5, fun f hf => by rw [f5 f hf, f4 f hf, f3 f hf, f2 f hf, f1 f hf]⟩
    · rw [if_neg (nI_ge (by omega) (by have := h.1; omega)), if_neg (fun e => hl e.2), Bool.true_and, decide_eq_false hl]
      exact ⟨s, rfl, h, fun _ _ => rfl⟩
theorem r_tp1 {n k : Nat} {x : Int32} {s : uS} {len : Nat} (hk : k < 4) (h2 : s.I 1079 5 = nI len) (hl : len + 4 ≤ 6000) : fn_X12_lay_2 (n + 1) x (nI k) s = fn_X12_lay_2 n x (nI (k + 1)) (wF s 1080 (len + k) (t_by x k &&& 255)) := by
  show fb_X12_lay_2 (fn_X12_lay_2 n) x (nI k) s = _
  unfold fb_X12_lay_2
  have e : ∀ k, k < 4 → ((24 : Int32) - ((8 : Int32) * nI k)) &&& 31 = nI (24 - 8 * k) &&& 31 := by decide
  rw [if_neg (by rw [show (4 : Int32) = nI 4 by decide]; exact nI_ge hk (by decide)), h2, nI_add, iput_c (N := 6000) (by decide) (by decide) (by omega) (by decide), Option.bind_some, nI_1, unar_20, e k hk]
  unfold t_by
  rw [bp_b]
theorem r_lay {s : uS} {xs : List Int32} (h : rT s xs) (hl : xs.length + 4 ≤ 6000) (x : Int32) : ∃ s1 : uS, fn_X12_lay x s = some s1 ∧ rT s1 (t_four xs x) ∧ (∀ f : Nat, f ≠ 5 → s1.I 1079 f = s.I 1079 f) := by
  obtain ⟨h1, h2, h3⟩ := h
  unfold fn_X12_lay
  refine ⟨wI (wF (wF (wF (wF s 1080 (xs.length + 0) (t_by x 0 &&& 255)) 1080 (xs.length + 1) (t_by x 1 &&& 255)) 1080 (xs.length + 2) (t_by x 2 &&& 255)) 1080 (xs.length + 3) (t_by x 3 &&& 255)) 1079 5 (nI (xs.length + 4)), ?_, ⟨by rw [t_four_len]; exact hl, by rw [wI_e, t_four_len], fun i hi => ?_⟩, fun f hf => ?_⟩
  · show fn_X12_lay_2 (999995 + 1 + 1 + 1 + 1 + 1) x (nI 0) s = _
    rw [r_tp1 (by decide) h2 hl, r_tp1 (by decide) (by rw [wF_I]; exact h2) hl, r_tp1 (by decide) (by rw [wF_I, wF_I]; exact h2) hl, r_tp1 (by decide) (by rw [wF_I, wF_I, wF_I]; exact h2) hl]
    show fb_X12_lay_2 _ x (nI 4) _ = _
    unfold fb_X12_lay_2
    rw [if_pos (by decide), wF_I, wF_I, wF_I, wF_I, h2, show (4 : Int32) = nI 4 by decide, nI_add]
  · rw [t_four_len] at hi
    rw [wI_F]
    unfold t_four
    by_cases c3 : i = xs.length + 3
    · rw [c3, wF_e, show xs.length + 3 = (xs ++ [t_by x 0] ++ [t_by x 1] ++ [t_by x 2]).length by simp, getD_end]
    · rw [wF_o (fun e => c3 e.2), getD_app (by simp; omega)]
      by_cases c2 : i = xs.length + 2
      · rw [c2, wF_e, show xs.length + 2 = (xs ++ [t_by x 0] ++ [t_by x 1]).length by simp, getD_end]
      · rw [wF_o (fun e => c2 e.2), getD_app (by simp; omega)]
        by_cases c1 : i = xs.length + 1
        · rw [c1, wF_e, show xs.length + 1 = (xs ++ [t_by x 0]).length by simp, getD_end]
        · rw [wF_o (fun e => c1 e.2), getD_app (by simp; omega)]
          by_cases c0 : i = xs.length + 0
          · rw [c0, wF_e, show xs.length + 0 = xs.length from rfl, getD_end]
          · rw [wF_o (fun e => c0 e.2), getD_app (by omega)]
            exact h3 i (by omega)
  · rw [wI_o (fun e => hf e.2), wF_I, wF_I, wF_I, wF_I]
theorem r_feed {s : uS} {pw : Bool} {xs : List Int32} (hp : s.I 1079 0 = bI pw) (h : rT s xs) (a b c d e : Int32) : ∃ s1 : uS, fn_X12_feed a b c d e s = some (s1, pw && decide (xs.length ≤ 5980)) ∧ rT s1 (if pw = true ∧ xs.length ≤ 5980 then t_feed xs a b c d e else xs) ∧ ∀ f : Nat, f ≠ 5 → s1.I 1079 f = s.I 1079 f := by
  unfold fn_X12_feed
  rw [hp]
  cases pw with
  | false => rw [bI_ff, if_pos rfl, if_neg (fun e => absurd e.1 (by decide))]; exact ⟨s, rfl, h, fun _ _ => rfl⟩
  | true =>
    rw [bI_t, if_neg (by decide), h.2.1, show (20 : Int32) = nI 20 by decide, show (6000 : Int32) = nI 6000 by decide, nI_add]
    by_cases hl : xs.length ≤ 5980
    · rw [if_pos (nI_le (by omega) (by decide)), if_pos ⟨rfl, hl⟩, Bool.true_and, decide_eq_true hl]
      obtain ⟨s1, e1, t1, f1⟩ := r_lay h (by omega) a
      obtain ⟨s2, e2, t2, f2⟩ := r_lay t1 (by rw [t_four_len]; omega) b
      obtain ⟨s3, e3, t3, f3⟩ := r_lay t2 (by rw [t_four_len, t_four_len]; omega) c
      obtain ⟨s4, e4, t4, f4⟩ := r_lay t3 (by rw [t_four_len, t_four_len, t_four_len]; omega) d
      obtain ⟨s5, e5, t5, f5⟩ := r_lay t4 (by rw [t_four_len, t_four_len, t_four_len, t_four_len]; omega) e
      rw [e1, Option.bind_some, e2, Option.bind_some, e3, Option.bind_some, e4, Option.bind_some, e5]
      exact ⟨s5, rfl, t5, fun f hf => by rw [f5 f hf, f4 f hf, f3 f hf, f2 f hf, f1 f hf]⟩
    · rw [if_neg (nI_ge (by omega) (by have := h.1; omega)), if_neg (fun e => hl e.2), Bool.true_and, decide_eq_false hl]
      exact ⟨s, rfl, h, fun _ _ => rfl⟩
