theorem wI_c (s : uS) (k f : Nat) (v : Int32) : (wI s k f v).c = s.c := rfl
theorem wI_I (s : uS) (k f : Nat) (v : Int32) (a b : Nat) : (wI s k f v).I a b = if a = k ∧ b = f then v else s.I a b := rfl
theorem wI_R (s : uS) (k f : Nat) (v : Int32) : (wI s k f v).R = s.R := rfl
theorem wI_F (s : uS) (k f : Nat) (v : Int32) : (wI s k f v).F = s.F := rfl
theorem wI_L (s : uS) (k f : Nat) (v : Int32) : (wI s k f v).L = s.L := rfl
theorem wI_P (s : uS) (k f : Nat) (v : Int32) : (wI s k f v).P = s.P := rfl
theorem wI_n (s : uS) (k f : Nat) (v : Int32) : (wI s k f v).n = s.n := rfl
theorem wI_m (s : uS) (k f : Nat) (v : Int32) : (wI s k f v).m = s.m := rfl
theorem wR_c (s : uS) (k f : Nat) (v : Option Nat) : (wR s k f v).c = s.c := rfl
theorem wR_I (s : uS) (k f : Nat) (v : Option Nat) : (wR s k f v).I = s.I := rfl
theorem wR_R (s : uS) (k f : Nat) (v : Option Nat) (a b : Nat) : (wR s k f v).R a b = if a = k ∧ b = f then v else s.R a b := rfl
theorem wR_F (s : uS) (k f : Nat) (v : Option Nat) : (wR s k f v).F = s.F := rfl
theorem wR_L (s : uS) (k f : Nat) (v : Option Nat) : (wR s k f v).L = s.L := rfl
theorem wR_P (s : uS) (k f : Nat) (v : Option Nat) : (wR s k f v).P = s.P := rfl
theorem wR_n (s : uS) (k f : Nat) (v : Option Nat) : (wR s k f v).n = s.n := rfl
theorem wR_m (s : uS) (k f : Nat) (v : Option Nat) : (wR s k f v).m = s.m := rfl
theorem wF_c (s : uS) (k f : Nat) (v : Int32) : (wF s k f v).c = s.c := rfl
theorem wF_I (s : uS) (k f : Nat) (v : Int32) : (wF s k f v).I = s.I := rfl
theorem wF_R (s : uS) (k f : Nat) (v : Int32) : (wF s k f v).R = s.R := rfl
theorem wF_F (s : uS) (k f : Nat) (v : Int32) (a b : Nat) : (wF s k f v).F a b = if a = k ∧ b = f then v else s.F a b := rfl
theorem wF_L (s : uS) (k f : Nat) (v : Int32) : (wF s k f v).L = s.L := rfl
theorem wF_P (s : uS) (k f : Nat) (v : Int32) : (wF s k f v).P = s.P := rfl
theorem wF_n (s : uS) (k f : Nat) (v : Int32) : (wF s k f v).n = s.n := rfl
theorem wF_m (s : uS) (k f : Nat) (v : Int32) : (wF s k f v).m = s.m := rfl
theorem wL_c (s : uS) (k f : Nat) (v : Int64) : (wL s k f v).c = s.c := rfl
theorem wL_I (s : uS) (k f : Nat) (v : Int64) : (wL s k f v).I = s.I := rfl
theorem wL_R (s : uS) (k f : Nat) (v : Int64) : (wL s k f v).R = s.R := rfl
theorem wL_F (s : uS) (k f : Nat) (v : Int64) : (wL s k f v).F = s.F := rfl
theorem wL_L (s : uS) (k f : Nat) (v : Int64) (a b : Nat) : (wL s k f v).L a b = if a = k ∧ b = f then v else s.L a b := rfl
theorem wL_P (s : uS) (k f : Nat) (v : Int64) : (wL s k f v).P = s.P := rfl
theorem wL_n (s : uS) (k f : Nat) (v : Int64) : (wL s k f v).n = s.n := rfl
theorem wL_m (s : uS) (k f : Nat) (v : Int64) : (wL s k f v).m = s.m := rfl
theorem wP_c (s : uS) (k f : Nat) (v : Option Nat) : (wP s k f v).c = s.c := rfl
theorem wP_I (s : uS) (k f : Nat) (v : Option Nat) : (wP s k f v).I = s.I := rfl
theorem wP_R (s : uS) (k f : Nat) (v : Option Nat) : (wP s k f v).R = s.R := rfl
theorem wP_F (s : uS) (k f : Nat) (v : Option Nat) : (wP s k f v).F = s.F := rfl
theorem wP_L (s : uS) (k f : Nat) (v : Option Nat) : (wP s k f v).L = s.L := rfl
theorem wP_P (s : uS) (k f : Nat) (v : Option Nat) (a b : Nat) : (wP s k f v).P a b = if a = k ∧ b = f then v else s.P a b := rfl
theorem wP_n (s : uS) (k f : Nat) (v : Option Nat) : (wP s k f v).n = s.n := rfl
theorem wP_m (s : uS) (k f : Nat) (v : Option Nat) : (wP s k f v).m = s.m := rfl
theorem wFs_c (s : uS) (k : Nat) (g : Nat → Int32) : (wFs s k g).c = s.c := rfl
theorem wFs_I (s : uS) (k : Nat) (g : Nat → Int32) : (wFs s k g).I = s.I := rfl
theorem wFs_R (s : uS) (k : Nat) (g : Nat → Int32) : (wFs s k g).R = s.R := rfl
theorem wFs_F (s : uS) (k : Nat) (g : Nat → Int32) (a : Nat) : (wFs s k g).F a = if a = k then g else s.F a := rfl
theorem wFs_L (s : uS) (k : Nat) (g : Nat → Int32) : (wFs s k g).L = s.L := rfl
theorem wFs_P (s : uS) (k : Nat) (g : Nat → Int32) : (wFs s k g).P = s.P := rfl
theorem wFs_n (s : uS) (k : Nat) (g : Nat → Int32) : (wFs s k g).n = s.n := rfl
theorem wFs_m (s : uS) (k : Nat) (g : Nat → Int32) : (wFs s k g).m = s.m := rfl
theorem uIs_c {s : uS} {k t N : Nat} (hk : k < 1171) (hc : ucl k = (t, N)) : uIs s k t ∧ (uCl s k).2 = N := ⟨⟨Or.inl hk, by rw [uCl_c hk, hc]⟩, by rw [uCl_c hk, hc]⟩
theorem iget_c {s : uS} {t k N i : Nat} (hk : k < 1171) (hc : ucl k = (t, N)) (hi : i < N) (hN : N < 2 ^ 31) : iget t s k (nI i) = some (s.F k i) := by
  obtain ⟨h1, h2⟩ := uIs_c (s := s) hk hc
  unfold iget
  rw [if_pos ⟨h1, by show ¬ (nI i < 0 ∨ (uCl s k).2 ≤ _); rw [h2]; exact nI_in hi hN⟩, nI_clamp (by omega)]
theorem iput_c {s : uS} {t k N i : Nat} {v : Int32} (hk : k < 1171) (hc : ucl k = (t, N)) (hi : i < N) (hN : N < 2 ^ 31) : iput t s k (nI i) v = some (wF s k i (unar t v)) := by
  obtain ⟨h1, h2⟩ := uIs_c (s := s) hk hc
  unfold iput
  rw [if_pos ⟨h1, by show ¬ (nI i < 0 ∨ (uCl s k).2 ≤ _); rw [h2]; exact nI_in hi hN⟩, nI_clamp (by omega)]
theorem lget_c {s : uS} {k N i : Nat} (hk : k < 1171) (hc : ucl k = (23, N)) (hi : i < N) (hN : N < 2 ^ 31) : lget s k (nI i) = some (s.L k i) := by
  obtain ⟨h1, h2⟩ := uIs_c (s := s) hk hc
  unfold lget
  rw [if_pos ⟨h1, by show ¬ (nI i < 0 ∨ (uCl s k).2 ≤ _); rw [h2]; exact nI_in hi hN⟩, nI_clamp (by omega)]
theorem lput_c {s : uS} {k N i : Nat} {v : Int64} (hk : k < 1171) (hc : ucl k = (23, N)) (hi : i < N) (hN : N < 2 ^ 31) : lput s k (nI i) v = some (wL s k i v) := by
  obtain ⟨h1, h2⟩ := uIs_c (s := s) hk hc
  unfold lput
  rw [if_pos ⟨h1, by show ¬ (nI i < 0 ∨ (uCl s k).2 ≤ _); rw [h2]; exact nI_in hi hN⟩, nI_clamp (by omega)]
theorem pgt_c {s : uS} {t k N i : Nat} (hk : k < 1171) (hc : ucl k = (t, N)) (hi : i < N) (hN : N < 2 ^ 31) : pgt t s k (nI i) = uP s k i := by
  obtain ⟨h1, h2⟩ := uIs_c (s := s) hk hc
  unfold pgt
  rw [if_pos ⟨h1, by show ¬ (nI i < 0 ∨ (uCl s k).2 ≤ _); rw [h2]; exact nI_in hi hN⟩, nI_clamp (by omega)]
theorem ulen_c {s : uS} {t k N : Nat} (hk : k < 1171) (hc : ucl k = (t, N)) (ht : 20 ≤ t ∧ t < 29) : ulen s k = some (nI N) := by
  unfold ulen
  rw [if_pos ⟨Or.inl hk, by rw [uCl_c hk, hc]; exact ht⟩, uCl_c hk, hc]
theorem stget_c {w : List Nat} {i : Nat} (hi : i < w.length) (hN : w.length < 2 ^ 31) : stget w (nI i) = some (nI (w.getD i 0)) := by
  unfold stget
  rw [if_neg (nI_in hi hN), nI_clamp (by omega)]
theorem unar_21 (x : Int32) : unar 21 x.toInt8.toInt32 = x.toInt8.toInt32 := by
  unfold unar
  rw [if_pos rfl, pk_vb]
theorem unar_20 (x : Int32) : unar 20 x = x := rfl
theorem u10k : (10000 : Int32) = nI 10000 := by decide
/-- the five queues of the class -/
def qk (u : Nat) : Nat := if u < 4 then 976 + 16 * u else 1040
theorem qk_so {u : Nat} (h : u < 5) : uSo (qk u) 5 ∧ ucl (qk u + 1) = (21, 10000) ∧ qk u + 1 < 1079 := by
  have : ∀ u, u < 5 → uSo (qk u) 5 ∧ ucl (qk u + 1) = (21, 10000) ∧ qk u + 1 < 1079 := by decide +kernel
  exact this u h
/-- a queue of the class: what waits -/
def cQ (s : uS) (u : Nat) (xs : List Int32) : Prop := ∃ fi : Nat, fi < 10000 ∧ xs.length ≤ 10000 ∧ s.I (qk u) 1 = nI fi ∧ s.I (qk u) 2 = nI xs.length ∧ ∀ j : Nat, j < xs.length → s.F (qk u + 1) ((fi + j) % 10000) = xs.getD j 0
/-- a queue of the reference -/
def rQ (s : uS) (u : Nat) (xs : List Int32) : Prop := xs.length ≤ 10000 ∧ s.F 1086 u = nI xs.length ∧ ∀ j : Nat, j < xs.length → s.F (1081 + u) j = xs.getD j 0
theorem cQ.fr {s s1 : uS} {u : Nat} {xs : List Int32} (h : cQ s u xs) (h1 : s1.I (qk u) = s.I (qk u)) (h2 : s1.F (qk u + 1) = s.F (qk u + 1)) : cQ s1 u xs := by
  obtain ⟨fi, a, b, c, d, e⟩ := h
  exact ⟨fi, a, b, by rw [h1]; exact c, by rw [h1]; exact d, by rw [h2]; exact e⟩
theorem rQ.fr {s s1 : uS} {u : Nat} {xs : List Int32} (h : rQ s u xs) (h1 : s1.F 1086 = s.F 1086) (h2 : s1.F (1081 + u) = s.F (1081 + u)) : rQ s1 u xs := by
  obtain ⟨a, b, c⟩ := h
  exact ⟨a, by rw [h1]; exact b, by rw [h2]; exact c⟩
theorem getD_app {xs : List Int32} {v : Int32} {j : Nat} (h : j < xs.length) : (xs ++ [v]).getD j 0 = xs.getD j 0 := by
  rw [List.getD_eq_getElem?_getD, List.getD_eq_getElem?_getD, List.getElem?_append_left h]
theorem getD_end {xs : List Int32} {v : Int32} : (xs ++ [v]).getD xs.length 0 = v := by
  rw [List.getD_eq_getElem?_getD, List.getElem?_append_right (Nat.le_refl _), Nat.sub_self]
  rfl
theorem c_put {s : uS} {u : Nat} {xs : List Int32} (hu : u < 5) (h : cQ s u xs) (x : Int32) : ∃ s1 : uS, fn_X5_put (qk u) x s = some s1 ∧ cQ s1 u (q_add xs x) := by
  obtain ⟨fi, a, b, c, d, e⟩ := h
  obtain ⟨-, hc, hl⟩ := qk_so hu
  unfold fn_X5_put q_add
  rw [d, c, u10k]
  by_cases hx : xs.length < 10000
  · rw [if_neg (nI_ge hx (by decide)), if_pos hx, nI_add, pk_rem (by omega) (by decide) (by decide), iput_c (by omega) hc (Nat.mod_lt _ (by decide)) (by decide)]
    refine ⟨_, rfl, fi, a, by rw [List.length_append]; exact hx, ?_, ?_, ?_⟩
    · rw [wI_I, if_neg (by omega), wF_I]; exact c
    · rw [wI_I, if_pos ⟨rfl, rfl⟩, wF_I, d, nI_1, List.length_append]; rfl
    · intro j hj
      rw [List.length_append] at hj
      have hj : j < xs.length + 1 := hj
      rw [wI_F, wF_F, unar_21]
      by_cases hje : j = xs.length
      · subst hje
        rw [if_pos ⟨rfl, rfl⟩, getD_end]
      · rw [if_neg (by omega), getD_app (by omega)]
        exact e j (by omega)
  · rw [if_pos (nI_le (by omega) (by omega)), if_neg hx]
    exact ⟨s, rfl, fi, a, b, c, d, e⟩
/-- a text behind what waits -/
def q_tell (xs : List Int32) (w : List Nat) : List Int32 := w.foldl (fun xs b => q_add xs (nI b)) xs
theorem drop_c {w : List Nat} {i : Nat} (h : i < w.length) : w.drop i = w.getD i 0 :: w.drop (i + 1) := by
  rw [List.drop_eq_getElem_cons h, List.getD_eq_getElem?_getD, List.getElem?_eq_getElem h]
  rfl
theorem c_text {u : Nat} {w : List Nat} (hu : u < 5) (hw : w.length < 2 ^ 30) : ∀ (n i : Nat) (s : uS) (xs : List Int32), w.length < i + n → i ≤ w.length → cQ s u xs → ∃ s1 : uS, fn_X5_text_2 n (qk u) w (nI i) s = some s1 ∧ cQ s1 u (q_tell xs (w.drop i)) := by
  intro n
  induction n with
  | zero => intro i s xs h1 h2 h; omega
  | succ n ih =>
    intro i s xs h1 h2 h
    show ∃ s1 : uS, fb_X5_text_2 (fn_X5_text_2 n) (qk u) w (nI i) s = some s1 ∧ _
    unfold fb_X5_text_2
    by_cases hi : i < w.length
    · obtain ⟨s2, e2, q2⟩ := c_put hu h (nI (w.getD i 0))
      rw [if_neg (nI_ge hi (by omega)), stget_c hi (by omega), Option.bind_some, e2, Option.bind_some, nI_1]
      obtain ⟨s3, e3, q3⟩ := ih (i + 1) s2 _ (by omega) (by omega) q2
      refine ⟨s3, e3, ?_⟩
      rw [drop_c hi]
      exact q3
    · rw [if_pos (nI_le (by omega) (by omega)), List.drop_of_length_le (by omega)]
      exact ⟨s, rfl, h⟩
theorem c_tell {s : uS} {u : Nat} {xs : List Int32} {w : List Nat} (hu : u < 5) (hw : w.length < 900000) (h : cQ s u xs) : ∃ s1 : uS, fn_X5_text (qk u) w s = some s1 ∧ cQ s1 u (q_tell xs w) := by
  obtain ⟨s1, e1, q1⟩ := c_text (w := w) hu (by omega) uFu 0 s xs (by show w.length < 0 + 1000000; omega) (Nat.zero_le _) h
  exact ⟨s1, e1, q1⟩
def q_line (xs : List Int32) (w : List Nat) : List Int32 := q_add (q_add (q_tell xs w) 13) 10
theorem c_line {s : uS} {u : Nat} {xs : List Int32} {w : List Nat} (hu : u < 5) (hw : w.length < 900000) (h : cQ s u xs) : ∃ s1 : uS, fn_X5_line (qk u) w s = some s1 ∧ cQ s1 u (q_line xs w) := by
  unfold fn_X5_line
  obtain ⟨s1, e1, q1⟩ := c_tell hu hw h
  obtain ⟨s2, e2, q2⟩ := c_put hu q1 13
  obtain ⟨s3, e3, q3⟩ := c_put hu q2 10
  rw [e1, Option.bind_some, e2, Option.bind_some, e3]
  exact ⟨s3, rfl, q3⟩
theorem r_say {s : uS} {u : Nat} {xs : List Int32} (hu : u < 5) (h : rQ s u xs) (x : Int32) : ∃ s1 : uS, fn_X12_say (nI u) x s = some s1 ∧ rQ s1 u (q_add xs x) ∧ ∀ v : Nat, v < 5 → v ≠ u → ∀ ys, rQ s v ys → rQ s1 v ys := by
  obtain ⟨a, b, c⟩ := h
  unfold fn_X12_say q_add
  have hb : iget 20 s 1086 (nI u) = some (nI xs.length) := by rw [iget_c (by decide) (N := 5) (by decide) hu (by decide), b]
  rw [hb, Option.bind_some, u10k]
  by_cases hx : xs.length < 10000
  · rw [if_neg (fun e => by have := (nI_eq (by omega) (by decide)).mp e; omega), if_pos hx, iput_c (by decide) (N := 5) (by decide) hu (by decide), Option.bind_some, unar_20]
    have fin : ∀ r : Nat, r = 1081 + u → (iput 21 (wF s 1086 u (nI xs.length + 1)) r (nI xs.length) x.toInt8.toInt32).bind (fun s6 => some s6) = some (wF (wF s 1086 u (nI (xs.length + 1))) r xs.length x.toInt8.toInt32) := by
      intro r hr
      have hcl : ∀ u, u < 5 → ucl (1081 + u) = (21, 10000) := by decide
      rw [iput_c (N := 10000) (by omega) (by rw [hr]; exact hcl u hu) hx (by decide), Option.bind_some, unar_21, nI_1]
    have hres : ∀ s1 : uS, s1 = wF (wF s 1086 u (nI (xs.length + 1))) (1081 + u) xs.length x.toInt8.toInt32 → rQ s1 u (xs ++ [x.toInt8.toInt32]) ∧ ∀ v : Nat, v < 5 → v ≠ u → ∀ ys, rQ s v ys → rQ s1 v ys := by
      intro s1 e1
      subst e1
      refine ⟨⟨by rw [List.length_append]; exact hx, ?_, ?_⟩, ?_⟩
      · rw [wF_F, if_neg (by omega), wF_F, if_pos ⟨rfl, rfl⟩, List.length_append]; rfl
      · intro j hj
        rw [List.length_append] at hj
        have hj : j < xs.length + 1 := hj
        rw [wF_F]
        by_cases hje : j = xs.length
        · rw [if_pos ⟨rfl, hje⟩, hje, getD_end]
        · rw [if_neg (fun e => hje e.2), wF_F, if_neg (by omega), getD_app (by omega)]
          exact c j (by omega)
      · intro v hv hne ys hy
        obtain ⟨p1, p2, p3⟩ := hy
        refine ⟨p1, ?_, ?_⟩
        · rw [wF_F, if_neg (by omega), wF_F, if_neg (by omega)]; exact p2
        · intro j hj
          rw [wF_F, if_neg (by omega), wF_F, if_neg (by omega)]; exact p3 j hj
    rcases (show u = 0 ∨ u = 1 ∨ u = 2 ∨ u = 3 ∨ u = 4 by omega) with e | e | e | e | e <;> subst e
    · rw [if_pos (by decide), fin 1081 rfl]; exact ⟨_, rfl, hres _ rfl⟩
    · rw [if_neg (by decide), if_pos (by decide), fin 1082 rfl]; exact ⟨_, rfl, hres _ rfl⟩
    · rw [if_neg (by decide), if_neg (by decide), if_pos (by decide), fin 1083 rfl]; exact ⟨_, rfl, hres _ rfl⟩
    · rw [if_neg (by decide), if_neg (by decide), if_neg (by decide), if_pos (by decide), fin 1084 rfl]; exact ⟨_, rfl, hres _ rfl⟩
    · rw [if_neg (by decide), if_neg (by decide), if_neg (by decide), if_neg (by decide), fin 1085 rfl]; exact ⟨_, rfl, hres _ rfl⟩
  · rw [if_pos (by rw [show xs.length = 10000 by omega]), if_neg hx]
    exact ⟨s, rfl, ⟨a, b, c⟩, fun v _ _ ys h => h⟩
theorem r_text {u : Nat} {w : List Nat} (hu : u < 5) (hw : w.length < 2 ^ 30) : ∀ (n i : Nat) (s : uS) (xs : List Int32), w.length < i + n → i ≤ w.length → rQ s u xs → ∃ s1 : uS, fn_X12_tell_2 n (nI u) w (nI i) s = some s1 ∧ rQ s1 u (q_tell xs (w.drop i)) ∧ ∀ v : Nat, v < 5 → v ≠ u → ∀ ys, rQ s v ys → rQ s1 v ys := by
  intro n
  induction n with
  | zero => intro i s xs h1 h2 h; omega
  | succ n ih =>
    intro i s xs h1 h2 h
    show ∃ s1 : uS, fb_X12_tell_2 (fn_X12_tell_2 n) (nI u) w (nI i) s = some s1 ∧ _
    unfold fb_X12_tell_2
    by_cases hi : i < w.length
    · obtain ⟨s2, e2, q2, o2⟩ := r_say hu h (nI (w.getD i 0))
      rw [if_neg (nI_ge hi (by omega)), stget_c hi (by omega), Option.bind_some, e2, Option.bind_some, nI_1]
      obtain ⟨s3, e3, q3, o3⟩ := ih (i + 1) s2 _ (by omega) (by omega) q2
      refine ⟨s3, e3, ?_, fun v hv hne ys hy => o3 v hv hne ys (o2 v hv hne ys hy)⟩
      rw [drop_c hi]
      exact q3
    · rw [if_pos (nI_le (by omega) (by omega)), List.drop_of_length_le (by omega)]
      exact ⟨s, rfl, h, fun v _ _ ys hy => hy⟩
theorem r_tell {s : uS} {u : Nat} {xs : List Int32} {w : List Nat} (hu : u < 5) (hw : w.length < 900000) (h : rQ s u xs) : ∃ s1 : uS, fn_X12_tell (nI u) w s = some s1 ∧ rQ s1 u (q_tell xs w) ∧ ∀ v : Nat, v < 5 → v ≠ u → ∀ ys, rQ s v ys → rQ s1 v ys := by
  obtain ⟨s1, e1, q1, o1⟩ := r_text (w := w) hu (by omega) uFu 0 s xs (by show w.length < 0 + 1000000; omega) (Nat.zero_le _) h
  exact ⟨s1, e1, q1, o1⟩
theorem r_line {s : uS} {u : Nat} {xs : List Int32} {w : List Nat} (hu : u < 5) (hw : w.length < 900000) (h : rQ s u xs) : ∃ s1 : uS, fn_X12_line (nI u) w s = some s1 ∧ rQ s1 u (q_line xs w) ∧ ∀ v : Nat, v < 5 → v ≠ u → ∀ ys, rQ s v ys → rQ s1 v ys := by
  unfold fn_X12_line
  obtain ⟨s1, e1, q1, o1⟩ := r_tell hu hw h
  obtain ⟨s2, e2, q2, o2⟩ := r_say hu q1 13
  obtain ⟨s3, e3, q3, o3⟩ := r_say hu q2 10
  rw [e1, Option.bind_some, e2, Option.bind_some, e3]
  exact ⟨s3, rfl, q3, fun v hv hne ys hy => o3 v hv hne ys (o2 v hv hne ys (o1 v hv hne ys hy))⟩

