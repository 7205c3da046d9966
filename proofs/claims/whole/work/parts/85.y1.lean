theorem wI_e (s : uS) (k f : Nat) (v : Int32) : (wI s k f v).I k f = v := if_pos ⟨rfl, rfl⟩
theorem wI_o {s : uS} {k f a b : Nat} {v : Int32} (h : ¬ (a = k ∧ b = f)) : (wI s k f v).I a b = s.I a b := if_neg h
theorem wF_e (s : uS) (k f : Nat) (v : Int32) : (wF s k f v).F k f = v := if_pos ⟨rfl, rfl⟩
theorem wF_o {s : uS} {k f a b : Nat} {v : Int32} (h : ¬ (a = k ∧ b = f)) : (wF s k f v).F a b = s.F a b := if_neg h
theorem wI_self {s : uS} {k f : Nat} {v : Int32} (h : s.I k f = v) : wI s k f v = s := by
  have e : uw2 s.I k f v = s.I := by
    funext a b
    unfold uw2
    by_cases c : a = k ∧ b = f
    · rw [if_pos c, c.1, c.2, h]
    · rw [if_neg c]
  show (s.c, uw2 s.I k f v, s.R, s.F, s.L, s.P, s.n, s.m) = s
  rw [e]
  rfl
theorem bI_t : bI true = 1 := rfl
theorem bI_ff : bI false = 0 := rfl
/-- power, day, commits, cut: class and reference -/
def cN (s : uS) (pw : Bool) (dy cm ct : Nat) : Prop := s.I 0 16 = bI pw ∧ s.I 0 13 = nI dy ∧ s.I 0 14 = nI cm ∧ s.I 0 15 = nI ct ∧ ct ≤ 1000
def rN (s : uS) (pw : Bool) (dy cm ct : Nat) : Prop := s.I 1079 0 = bI pw ∧ s.I 1079 1 = nI dy ∧ s.I 1079 2 = nI cm ∧ s.I 1079 3 = nI ct ∧ ct ≤ 1000
/-- cut -/
theorem c_cut {s : uS} {pw : Bool} {dy cm ct : Nat} (h : cN s pw dy cm ct) (x : Int32) : fn_X11_cut x s = some (if 0 ≤ x ∧ x ≤ 1000 then (wI s 0 15 x, true) else (s, false)) := by
  unfold fn_X11_cut
  by_cases c : x < 0
  · rw [if_pos c, if_neg (fun e => absurd c (Int32.not_lt.mpr e.1))]
  · rw [if_neg c]
    by_cases c2 : x ≤ 1000
    · rw [if_pos c2, if_pos ⟨Int32.not_lt.mp c, c2⟩]
    · rw [if_neg c2, if_neg (fun e => c2 e.2)]
theorem r_cut {s : uS} {pw : Bool} {dy cm ct : Nat} (h : rN s pw dy cm ct) (x : Int32) : fn_X12_cut x s = some (if 0 ≤ x ∧ x ≤ 1000 then (wI s 1079 3 x, true) else (s, false)) := by
  unfold fn_X12_cut
  by_cases c : x < 0
  · rw [if_pos c, if_neg (fun e => absurd c (Int32.not_lt.mpr e.1))]
  · rw [if_neg c]
    by_cases c2 : x ≤ 1000
    · rw [if_pos c2, if_pos ⟨Int32.not_lt.mp c, c2⟩]
    · rw [if_neg c2, if_neg (fun e => c2 e.2)]
/-- start -/
theorem c_start {s : uS} {pw : Bool} {dy cm ct : Nat} (h : cN s pw dy cm ct) : fn_X11_start s = some (if pw = true then (s, -1) else (wI s 0 16 1, nI cm)) := by
  unfold fn_X11_start
  rw [h.1]
  cases pw with
  | false => rw [bI_ff, if_pos rfl, if_neg (by decide), wI_I, if_neg (by decide), h.2.2.1]
  | true => rw [bI_t, if_neg (by decide), if_pos rfl]
theorem r_start {s : uS} {pw : Bool} {dy cm ct : Nat} (h : rN s pw dy cm ct) : fn_X12_start s = some (if pw = true then (s, -1) else (wI s 1079 0 1, nI cm)) := by
  unfold fn_X12_start
  rw [h.1]
  cases pw with
  | false => rw [bI_ff, if_pos rfl, if_neg (by decide), wI_I, if_neg (by decide), h.2.2.1]
  | true => rw [bI_t, if_neg (by decide), if_pos rfl]
/-- a commit that is done -/
theorem c_commit {s : uS} {pw : Bool} {dy cm ct : Nat} (h : cN s pw dy cm ct) (h1 : ct ≠ 1) : fn_X11_commit s = some (wI (wI s 0 15 (nI (ct - 1))) 0 14 (nI (cm + 1)), true) := by
  obtain ⟨-, -, h3, h4, h5⟩ := h
  unfold fn_X11_commit
  rw [h4]
  have e1 : ¬ nI ct = 1 := fun e => h1 ((nI_eq (a := ct) (b := 1) (by omega) (by decide)).mp e)
  have e2 : (if (0 : Int32) < nI ct - 1 then nI ct - 1 else (0 : Int32)) = nI (ct - 1) := by
    by_cases h0 : ct = 0
    · subst h0; decide
    · obtain ⟨n, rfl⟩ : ∃ n, ct = n + 1 := ⟨ct - 1, by omega⟩
      rw [nI_pred, if_pos (by rw [← nI_0]; exact nI_lt (by omega) (by omega))]
      rfl
  rw [if_neg e1, e2, wI_I, if_neg (by decide), h3, nI_1]
theorem r_commit {s : uS} {pw : Bool} {dy cm ct : Nat} (h : rN s pw dy cm ct) (h1 : ct ≠ 1) : fn_X12_commit s = some (wI (wI s 1079 3 (nI (ct - 1))) 1079 2 (nI (cm + 1)), true) := by
  obtain ⟨-, -, h3, h4, h5⟩ := h
  unfold fn_X12_commit fb_X12_commit_54
  rw [h4]
  by_cases h0 : ct = 0
  · subst h0
    rw [if_pos (by decide), h3, nI_1, wI_self (k := 1079) (f := 3) (v := nI (0 - 1)) h4]
  · obtain ⟨n, rfl⟩ : ∃ n, ct = n + 1 := ⟨ct - 1, by omega⟩
    rw [if_neg (nI_nle (by omega) (by omega)), nI_pred, wI_e, if_neg (nI_ne0 (by omega) (by omega)), wI_o (by decide), h3, nI_1]
    rfl
/-- the power goes: what is left of sessions -/
def c_rst (s : uS) (k : Nat) : uS := wI (wI (wI (wI (wI s (k + 1) 3 0) (k + 1) 4 0) (k + 1) 5 0) k 4 0) k 5 0
def c_cls (s : uS) : uS := wI (wI (wI (wI (wI (wI (wI (wI (wI (wI (wI s 1042 4 0) 1042 10 0) 1042 9 0) 1042 7 0) 1042 8 0) 1043 3 0) 1043 4 0) 1043 5 0) 1047 3 0) 1047 4 0) 1047 5 0
def c_lose (s : uS) : uS := c_rst (c_rst (c_rst (c_rst (c_cls (wI s 0 16 0)) 978) 994) 1010) 1026
theorem c_close (s : uS) : fn_X0_close s = some (c_cls s) := rfl
theorem c_reset (k : Nat) (s : uS) : fn_X8_reset k s = some (c_rst s k) := rfl
theorem pgt_ses {s : uS} {u : Nat} (h : u < 4) : pgt 25 s 3 (nI u) = some (978 + 16 * u) := by
  rw [pgt_c (N := 4) (by decide) (by decide) h (by decide)]
  unfold uP
  rw [if_neg (by rw [uCl_c (by decide)]; decide)]
  unfold uPc
  rw [if_neg (by decide), if_pos rfl, if_pos h]
theorem pgt_usr {s : uS} {u : Nat} (h : u < 4) : pgt 26 s 4 (nI u) = some (985 + 16 * u) := by
  rw [pgt_c (N := 4) (by decide) (by decide) h (by decide)]
  unfold uP
  rw [if_neg (by rw [uCl_c (by decide)]; decide)]
  unfold uPc
  rw [if_neg (by decide), if_neg (by decide), if_pos rfl, if_pos h]
theorem pgt_que {s : uS} {u : Nat} (h : u < 5) : pgt 24 s 2 (nI u) = some (qk u) := by
  rw [pgt_c (N := 5) (by decide) (by decide) h (by decide)]
  unfold uP
  rw [if_neg (by rw [uCl_c (by decide)]; decide)]
  unfold uPc qk
  rw [if_pos rfl]
  by_cases h4 : u < 4
  · rw [if_pos h4, if_pos h4]
  · rw [if_neg h4, if_neg h4, if_pos (by omega)]
theorem pgt_nod {s : uS} {j : Nat} (h : j < 320) : pgt 28 s 13 (nI j) = some (16 + 3 * j) := by
  rw [pgt_c (N := 320) (by decide) (by decide) h (by decide)]
  unfold uP
  rw [if_neg (by rw [uCl_c (by decide)]; decide)]
  unfold uPc
  rw [if_neg (by decide), if_neg (by decide), if_neg (by decide), if_pos rfl, if_pos h]
theorem so_ses {u : Nat} (h : u < 4) : uSo (978 + 16 * u) 8 := by
  have : ∀ u, u < 4 → uSo (978 + 16 * u) 8 := by decide +kernel
  exact this u h
theorem so_usr {u : Nat} (h : u < 4) : uSo (985 + 16 * u) 10 := by
  have : ∀ u, u < 4 → uSo (985 + 16 * u) 10 := by decide +kernel
  exact this u h
theorem so_nod {j : Nat} (h : j < 320) : uSo (16 + 3 * j) 3 := by
  have : ∀ j, j < 320 → uSo (16 + 3 * j) 3 := by decide +kernel
  exact this j h
theorem c_lose_l {n u : Nat} {s : uS} (h : u < 4) : fn_X11_losePower_14 (n + 1) (nI u) s = fn_X11_losePower_14 n (nI (u + 1)) (c_rst s (978 + 16 * u)) := by
  show fb_X11_losePower_14 (fn_X11_losePower_14 n) (nI u) s = _
  unfold fb_X11_losePower_14
  rw [if_neg (by rw [show (4 : Int32) = nI 4 by decide]; exact nI_ge h (by decide)), pgt_ses h, Option.bind_some, if_pos (so_ses h), c_reset, Option.bind_some, nI_1]
theorem c_losep (s : uS) : fn_X11_losePower s = some (c_lose s) := by
  unfold fn_X11_losePower
  rw [c_close, Option.bind_some]
  show fn_X11_losePower_14 (999995 + 1 + 1 + 1 + 1 + 1) (nI 0) _ = _
  rw [c_lose_l (by decide), c_lose_l (by decide), c_lose_l (by decide), c_lose_l (by decide)]
  show fb_X11_losePower_14 _ _ _ = _
  unfold fb_X11_losePower_14
  rw [if_pos (by decide)]
  rfl
theorem c_cutoff {s : uS} {pw : Bool} {dy cm : Nat} (h : cN s pw dy cm 1) : fn_X11_commit s = some (c_lose (wI s 0 15 0), false) := by
  unfold fn_X11_commit
  rw [h.2.2.2.1, if_pos (by decide), c_losep]
  rfl
def r_frs (s : uS) (u : Nat) : uS := wF (wF (wF (wF s 1156 u 0) 1157 u 0) 1160 u 0) 1166 u 0
theorem r_fresh {s : uS} {u : Nat} (h : u < 4) : fn_X12_fresh (nI u) s = some (r_frs s u) := by
  unfold fn_X12_fresh
  rw [iput_c (N := 4) (by decide) (by decide) h (by decide), Option.bind_some, iput_c (N := 4) (by decide) (by decide) h (by decide), Option.bind_some, iput_c (N := 4) (by decide) (by decide) h (by decide), Option.bind_some, iput_c (N := 4) (by decide) (by decide) h (by decide), Option.bind_some]
  rfl
def r_lose (s : uS) : uS := r_frs (r_frs (r_frs (r_frs (wI (wI (wI s 1079 3 0) 1079 0 0) 1079 113 0) 0) 1) 2) 3
theorem r_lose_l {n u : Nat} {s : uS} (h : u < 4) : fn_X12_commit_36 (n + 1) (nI u) s = fn_X12_commit_36 n (nI (u + 1)) (r_frs s u) := by
  show fb_X12_commit_36 (fn_X12_commit_36 n) (nI u) s = _
  unfold fb_X12_commit_36
  rw [if_neg (by rw [show (4 : Int32) = nI 4 by decide]; exact nI_ge h (by decide)), r_fresh h, Option.bind_some, nI_1]
theorem r_cutoff {s : uS} {pw : Bool} {dy cm : Nat} (h : rN s pw dy cm 1) : fn_X12_commit s = some (r_lose s, false) := by
  unfold fn_X12_commit
  rw [h.2.2.2.1, if_neg (by decide), show nI 1 - 1 = 0 by decide, wI_e, if_pos rfl]
  show fn_X12_commit_36 (999995 + 1 + 1 + 1 + 1 + 1) (nI 0) _ = _
  rw [r_lose_l (by decide), r_lose_l (by decide), r_lose_l (by decide), r_lose_l (by decide)]
  show fb_X12_commit_36 _ _ _ = _
  unfold fb_X12_commit_36
  rw [if_pos (by decide)]
  rfl
