/-! the lexers: next() on both sides -/
/-- what holds between tokens: both stand at p, no fault -/
def lxB (k fr : Nat) (x : List Nat) (ts : List (List Nat)) (bg p : Nat) (s t : uS) : Prop := lxC s k fr x p ∧ lxR t x p ∧ cTz s 8 2000 301 ts bg [] ∧ t.I 1079 37 = nI bg ∧ t.I 1079 40 = -1 ∧ (uCl s k).2 ≤ 10000 ∧ 976 ≤ k ∧ ts.length ≤ 300 ∧ bg ≤ p
theorem lx_next {k fr : Nat} {x : List Nat} {ts : List (List Nat)} {bg p : Nat} {s t : uS} (h : lxB k fr x ts bg p s t) : ∃ (s1 t1 : uS) (b e : Nat), p ≤ b ∧ fn_X2_next s = some s1 ∧ fn_X12_next t = some t1 ∧ out lnI' lqF s s1 ∧ out rnI (rqP bg) t t1 ∧ tok k fr x ts bg b e s1 t1 := by
  obtain ⟨g1, g2, g3, g4, g5, g6, g7, g8, g9⟩ := h
  have hx := g1.2.2.1
  have hfr := g1.2.2.2.1
  have hp := g1.2.2.2.2.2.2.2
  obtain ⟨s0, a1, a2, a3⟩ := c_skip uFu p s g1 (by show _ < p + 1000000; omega)
  obtain ⟨t0, b1, b2, b3⟩ := r_skip uFu p t g2 (by show _ < p + 1000000; omega)
  have hle := skx_le (x := x) (n := uFu) hp
  generalize hq : (skx x uFu p).2 = q at *
  have oA : out lnI' lqF s s0 := out_w a2 (fun k f z => by unfold sbI at z; unfold lnI'; omega) (fun _ _ z => z.elim)
  have oB : out rnI (rqP bg) t t0 := out_w b2 (fun k f z => by unfold rsI at z; unfold rnI; omega) (fun _ _ z => z.elim)
  have t29 : t0.I 1079 29 = nI x.length := by rw [b2.2.1 _ _ (by unfold rsI; omega)]; exact g2.1
  have t40 : t0.I 1079 40 = -1 := by rw [b2.2.1 _ _ (by unfold rsI; omega)]; exact g5
  have t37 : t0.I 1079 37 = nI bg := by rw [b2.2.1 _ _ (by unfold rsI; omega)]; exact g4
  have sz : cTz s0 8 2000 301 ts bg [] := g3.fr (a2.2.1 _ _ (by unfold sbI; omega)) (a2.2.1 _ _ (by unfold sbI; omega)) (a2.2.1 _ _ (by unfold sbI; omega)) (funext fun f => a2.2.2 _ _ (fun z => z)) (funext fun f => a2.2.2 _ _ (fun z => z)) (funext fun f => a2.2.2 _ _ (fun z => z))
  have hcl : (uCl s0 k).2 ≤ 10000 := by
    have : uCl s0 k = uCl s k := by unfold uCl; rw [a2.1.1]
    rw [this]; exact g6
  unfold fn_X2_next fn_X12_next fn_X2_skipBetween fn_X12_skip
  rw [a1, b1, Option.bind_some, g5, if_pos (show (-1 : Int32) < 0 by decide), Option.bind_some]
  have hI30 : t0.I 1079 30 = nI q := b3.2.2.2.2.1
  rcases a3 with ⟨ok, lc⟩ | ⟨bad, l6⟩
  · rw [ok]
    simp only [↓reduceIte]
    have hI8 : s0.I 7 8 = nI (fr + q) := lc.2.2.2.2.2.2.1
    rw [hI8, hI30]
    -- the states at the token's beginning
    have tk : tk0 k fr x ts bg q (wI s0 7 6 (nI (fr + q))) (wI t0 1079 32 (nI q)) := ⟨⟨lc.I (by decide), b3.fr (wI_o (by omega)) rfl ((wI_o (by omega)).trans hI30) (by omega), sz.fr (wI_o (by omega)) (wI_o (by omega)) (wI_o (by omega)) rfl rfl rfl, (wI_o (by omega)).trans t37, (wI_o (by omega)).trans t40, wI_e _ _ _ _, wI_e _ _ _ _⟩, hcl, g7, g8, by omega⟩
    have oA' : out lnI' lqF s (wI s0 7 6 (nI (fr + q))) := out_I oA (Or.inl ⟨rfl, by omega⟩)
    have oB' : out rnI (rqP bg) t (wI t0 1079 32 (nI q)) := out_I oB ⟨rfl, by omega⟩
    have lc' := tk.1.1
    have lr' := tk.1.2.1
    rw [r_tok lr', lc'.2.2.2.2.2.1, lc'.2.2.2.2.2.2.1]
    have h76 : (wI s0 7 6 (nI (fr + q))).I 7 6 = nI (fr + q) := wI_e _ _ _ _
    rw [h76]
    have fin : ∀ (A : Option uS) (B : Option (uS × Int32)), (∃ (s1 t1 t2 : uS) (v : Int32) (e : Nat), A = some s1 ∧ B = some (t1, v) ∧ fb_X12_next_34 v t1 = some t2 ∧ out lnI' lqF (wI s0 7 6 (nI (fr + q))) s1 ∧ out rnI (rqP bg) (wI t0 1079 32 (nI q)) t2 ∧ tok k fr x ts bg q e s1 t2) → ∃ (s1 t1 : uS) (b e : Nat), p ≤ b ∧ A = some s1 ∧ (B.bind fun r5 => fb_X12_next_34 r5.2 r5.1) = some t1 ∧ out lnI' lqF s s1 ∧ out rnI (rqP bg) t t1 ∧ tok k fr x ts bg b e s1 t1 := by
      rintro A B ⟨s1, t1, t2, v, e, z1, z2, z3, z4, z5, z6⟩
      exact ⟨s1, t2, q, e, hle.1, z1, by rw [z2, Option.bind_some]; exact z3, out_t oA' z4, out_t oB' z5, z6⟩
    by_cases c : q < x.length
    · have hb := lc'.by q
      rw [if_pos (nI_lt (by omega) (by omega)), lc'.1, Option.bind_some, lc'.at c, Option.bind_some, lc'.start (by omega), Option.bind_some, decide_eq_true c, Bool.true_and, if_pos c]
      by_cases w : isWs (x.getD q 0) = true
      · rw [if_pos w, if_pos w, bind_id]
        apply fin
        exact n_word tk w
      · rw [if_neg w, if_neg w]
        have e58 : sb (x.getD q 0) = (58 : Int32) ↔ x.getD q 0 = 58 := sb_e hb (by decide)
        by_cases d : x.getD q 0 = 58
        · rw [if_pos (e58.mpr d), if_pos d, nI_1, show fr + q + 1 = fr + (q + 1) by omega, lc'.start (by omega), Option.bind_some]
          by_cases f : q + 1 < x.length ∧ isWs (x.getD (q + 1) 0) = true
          · rw [decide_eq_true f.1, f.2, if_pos (show (true && true) = true from rfl), if_pos ⟨f.1, rfl⟩]
            apply fin
            obtain ⟨s1, t1, t2, e, z1, z2, z3, z4, z5, z6⟩ := n_tag tk f.1 f.2
            exact ⟨s1, t1, t2, 2, e, by rw [z1, Option.bind_some], by rw [z2, Option.bind_some], z3, z4, z5, z6⟩
          · have hf : ¬ (decide (q + 1 < x.length) && isWs (x.getD (q + 1) 0)) = true := by
              rw [Bool.and_eq_true, decide_eq_true_eq]; exact f
            rw [if_neg hf, if_neg f]
            apply fin
            have := n_119 tk c
            have nd : isDb (x.getD q 0) = false := by rw [d]; rfl
            have ns : decide (sgn (x.getD q 0)) = false := by rw [d]; decide
            rw [r_digit, Option.bind_some, iDig_N hb, nd, if_neg (show ¬ (false = true) by decide), if_neg (show ¬ nI (x.getD q 0) = 34 by rw [d]; decide), ns] at this
            exact this
        · rw [if_neg (fun z => d (e58.mp z)), if_neg d]
          apply fin
          exact n_119 tk c
    · rw [if_neg (nI_nlt (by omega) (by omega)), if_neg c]
      have hqx : q = x.length := by omega
      apply fin
      obtain ⟨⟨k1, k2, k3, k4, k5, k6, k7⟩, -, -, -, -⟩ := tk
      exact ⟨_, _, _, _, q, rfl, rfl, r_fin (by decide), out_I out_r (Or.inl ⟨rfl, by omega⟩), out_I out_r ⟨rfl, by omega⟩, Or.inl ⟨hqx, rfl, ⟨k1.I (by decide), k2.fr (wI_o (by omega)) rfl ((wI_o (by omega)).trans k2.2.2.2.2.1) (by omega), k3.fr (wI_o (by omega)) (wI_o (by omega)) (wI_o (by omega)) rfl rfl rfl, (wI_o (by omega)).trans k4, (wI_o (by omega)).trans k5, (wI_o (by omega)).trans k6, (wI_o (by omega)).trans k7⟩, wI_e _ _ _ _, wI_e _ _ _ _⟩⟩
  · rw [bad]
    simp only [Bool.false_eq_true, ↓reduceIte]
    rw [hI30]
    have o1 : out lnI' lqF s (wI s0 7 2 6) := out_I oA (Or.inl ⟨rfl, by omega⟩)
    refine ⟨_, _, q, q, hle.1, rfl, r_fin5 (q := q) (n := x.length) (wI_e _ _ _ _) ((wI_o (by omega)).trans t40) ((wI_o (by omega)).trans t29), o1, out_t (out_I oB ⟨rfl, by omega⟩) (out_w rBad_out (fun _ _ z => z) (fun _ _ z => z.elim)), Or.inr (Or.inr (Or.inr (Or.inr (Or.inr (Or.inr ⟨hle.2, by rw [o1.1.2.1]; exact g1.1, g1.2.1.fr o1.1.1 o1.1.2.2.2.2.1 (funext fun f => o1.2.2 _ _ (by unfold lqF; omega)), ?_, (wI_o (by omega)).trans l6, rBad_v.1, rBad_v.2, Or.inl (wI_e _ _ _ _)⟩)))))⟩
    rw [o1.2.1 _ _ (by unfold lnI'; omega)]
    exact g1.2.2.2.2.1
/-- the line of a fault, in the class -/
theorem c_lineL {k fr b : Nat} {x : List Nat} {s : uS} (h1 : s.R 7 1 = some k) (h2 : rdC s k fr x) (h6 : s.I 7 6 = nI (fr + b)) (hb : b ≤ x.length) : ∀ (n i : Nat), b < i + n → i ≤ b → fn_X2_line_7 n (nI (1 + lnc x i)) (nI (fr + i)) s = some (nI (1 + lnc x b)) := by
  have hf := h2.1
  intro n
  induction n with
  | zero => intro i a c; omega
  | succ n ih =>
    intro i a c
    unfold fn_X2_line_7 fb_X2_line_7
    rw [h6]
    by_cases d : b ≤ i
    · rw [if_pos (nI_le (by omega) (by omega)), show i = b by omega]
    · have e : sb (x.getD i 0) = (10 : Int32) ↔ x.getD i 0 = 10 := sb_e (h2.2.1 i) (by decide)
      have nx := ih (i + 1) (by omega) (by omega)
      rw [show lnc x (i + 1) = lnc x i + (if x.getD i 0 = 10 then 1 else 0) from rfl] at nx
      rw [if_neg (nI_ge (by omega) (by omega)), h1, Option.bind_some, h2.2.2 i (by omega), Option.bind_some, nI_1, nI_1, show fr + i + 1 = fr + (i + 1) by omega]
      by_cases f : x.getD i 0 = 10
      · rw [if_pos f] at nx
        rw [if_pos (e.mpr f)]
        exact nx
      · rw [if_neg f] at nx
        rw [if_neg (fun z => f (e.mp z))]
        exact nx
theorem c_lineAt {k fr b : Nat} {x : List Nat} {s : uS} (h1 : s.R 7 1 = some k) (h2 : rdC s k fr x) (h4 : s.I 7 4 = nI fr) (h6 : s.I 7 6 = nI (fr + b)) (hb : b ≤ x.length) (hx : x.length ≤ 2000) : fn_X2_line s = some (nI (1 + lnc x b)) := by
  have := c_lineL h1 h2 h6 hb uFu 0 (by show _ < 0 + 1000000; omega) (Nat.zero_le _)
  unfold fn_X2_line
  rw [h4]
  exact this
