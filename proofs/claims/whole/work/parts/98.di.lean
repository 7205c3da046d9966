/-! a command begins: the class -/
def stC (v N : Nat) (σ : List (Nat × Nat)) : List (Nat × Nat) := if v = 0 then (5, N) :: (2, N) :: (4, 0) :: σ else if v ≤ 2 then (13, 59) :: σ else if v = 3 then (8, N) :: (13, 59) :: σ else if v = 4 then (8, N) :: (10, 12 * N + 3) :: (13, 59) :: σ else if v = 5 then (8, N) :: (10, 12 * N + 4) :: (13, 59) :: σ else if v = 6 then (10, 12 * N + 5) :: (13, 59) :: σ else if v ≤ 9 then (11, 12 * N + 2) :: (13, 59) :: σ else (8, N) :: (10, 12 * N + 5) :: (13, 59) :: σ
theorem stC_len {v N : Nat} {σ : List (Nat × Nat)} : (stC v N σ).length ≤ σ.length + 3 := by
  unfold stC
  repeat' split
  all_goals (simp only [List.length_cons]; omega)
theorem stC_V {v N : Nat} {σ : List (Nat × Nat)} (h : stV σ) (hN : N < 320) : stV (stC v N σ) := by
  have a := h.ps (a := 13) (c := 59) (by decide) (by decide) (by decide)
  unfold stC
  repeat' split
  · exact ((h.ps (by decide) (by omega) (by omega)).ps (by decide) (by omega) (by omega)).ps (by decide) (by omega) (by omega)
  · exact a
  · exact a.ps (by decide) (by omega) (by omega)
  · exact (a.ps (by decide) (by omega) (by omega)).ps (by decide) (by omega) (by omega)
  · exact (a.ps (by decide) (by omega) (by omega)).ps (by decide) (by omega) (by omega)
  · exact a.ps (by decide) (by omega) (by omega)
  · exact a.ps (by decide) (by omega) (by omega)
  · exact (a.ps (by decide) (by omega) (by omega)).ps (by decide) (by omega) (by omega)
theorem c_188 {s : uS} {v n N : Nat} (hv : v < 26) (h : s.I 6 5 = nI n) (hn : n < 120) : fb_X4_startCommand_188 (nI v) (nI N) s = if TKn.getD v 0 = 0 then some (s, 1) else some (psh s n (nI 8) (nI N), 1) := by
  unfold fb_X4_startCommand_188
  rw [tg_2 hv, Option.bind_some]
  have : TKn.getD v 0 < 1024 := by
    have : ∀ v : Fin 26, TKn.getD v.val 0 < 1024 := by decide
    exact this ⟨v, hv⟩
  by_cases z : TKn.getD v 0 = 0
  · rw [if_pos (by rw [z]; rfl), if_pos z]
  · rw [if_neg (show ¬ nI (TKn.getD v 0) = 0 from nI_ne (b := 0) (by omega) (by decide) z), if_neg z, show fn_X4_push 8 (nI N) s = some (psh s n (nI 8) (nI N)) from c_push h hn, Option.bind_some]
theorem c_cmd1 {s : uS} {v : Nat} {σ : List (Nat × Nat)} {N cn ob rq : Nat} (hm : pm σ N cn ob rq s) (hN : N < 320) (hl : σ.length < 100) (hcn : cn ≤ 100) (hrq : rq < 256) (hv : v ≤ 11) : ((v = 11 ∨ cn = 100 ∨ ¬ rq &&& NKn.getD v 0 = NKn.getD v 0) → fb_X4_startCommand_23 (if v = 11 then -1 else nI v) s = some (s, 0)) ∧ (¬ (v = 11 ∨ cn = 100 ∨ ¬ rq &&& NKn.getD v 0 = NKn.getD v 0) → ∃ S : uS, fb_X4_startCommand_23 (if v = 11 then -1 else nI v) s = some (S, 1) ∧ nwN (stC v N σ) N (cn + 1) ob rq (nI v) (nI 0) (nI 0) s S) := by
  unfold fb_X4_startCommand_23
  by_cases c1 : v = 11
  · rw [if_pos c1, if_pos (show (-1 : Int32) < 0 by decide)]
    exact ⟨fun _ => rfl, fun z => absurd (Or.inl c1) z⟩
  rw [if_neg c1, if_neg (show ¬ nI v < (0 : Int32) from nI_nlt (b := 0) (Nat.zero_le _) (by omega)), hm.2.2.2.1]
  by_cases c2 : cn = 100
  · rw [if_pos (show nI cn = 100 by rw [c2]; rfl)]
    exact ⟨fun _ => rfl, fun z => absurd (Or.inr (Or.inl c2)) z⟩
  rw [if_neg (show ¬ nI cn = 100 from nI_ne (b := 100) (by omega) (by decide) c2), tg_0 (v := v) (by omega), Option.bind_some, c_lack hm.2.2.2.2.2 hrq (NK_lt (by omega)), Option.bind_some]
  by_cases c4 : rq &&& NKn.getD v 0 = NKn.getD v 0
  · refine ⟨fun z => absurd z (by rintro (z | z | z); exact c1 z; exact c2 z; exact z c4), fun _ => ?_⟩
    rw [decide_eq_false (fun z => z c4), if_neg (by decide), nI_1 cn]
    have hm0 : pm σ N (cn + 1) ob rq (wI s 6 6 (nI (cn + 1))) := by
      obtain ⟨h1, h2, h3, h4, h5, h6⟩ := hm
      refine ⟨(wI_o (by omega)).trans h1, stk.fr h2 (fun j hj => ⟨rfl, rfl⟩), (wI_o (by omega)).trans h3, wI_e _ _ _ _, (wI_o (by omega)).trans h5, (wI_o (by omega)).trans h6⟩
    obtain ⟨S, q1, q2⟩ := c_new (cn := cn) (κ := nI v) (p := 0) (d := 0) (s := s) hm0 (out_I out_r (Or.inl rfl)) hN
    have h5 : S.I 6 5 = nI σ.length := q2.h5
    rw [q1, Option.bind_some]
    dsimp only
    by_cases d0 : v = 0
    · rw [if_pos (by rw [d0]; rfl)]
      have g1 := q2.ps 4 0
      have g2 := g1.ps 2 N
      have g3 := g2.ps 5 N
      rw [show fn_X4_push 4 0 S = some (psh S σ.length (nI 4) (nI 0)) from c_push h5 (by omega), Option.bind_some, show fn_X4_push 2 (nI N) (psh S σ.length (nI 4) (nI 0)) = some (psh _ _ (nI 2) (nI N)) from c_push g1.h5 (by show σ.length + 1 < 120; omega), Option.bind_some, show fn_X4_push 5 (nI N) (psh (psh S σ.length (nI 4) (nI 0)) ((4, 0) :: σ).length (nI 2) (nI N)) = some (psh _ _ (nI 5) (nI N)) from c_push g2.h5 (by show σ.length + 1 + 1 < 120; omega), Option.bind_some]
      refine ⟨_, rfl, ?_⟩
      rw [show stC v N σ = (5, N) :: (2, N) :: (4, 0) :: σ by rw [d0]; rfl]; exact g3
    rw [if_neg (show ¬ nI v = 0 from nI_ne (b := 0) (by omega) (by decide) d0)]
    have g1 := q2.ps 13 59
    rw [show fn_X4_push 13 59 S = some (psh S σ.length (nI 13) (nI 59)) from c_push h5 (by omega), Option.bind_some]
    have hl1 : ((13, 59) :: σ).length < 120 := by simp only [List.length_cons]; omega
    have hs : v = 1 ∨ v = 2 ∨ v = 3 ∨ v = 4 ∨ v = 5 ∨ v = 6 ∨ v = 7 ∨ v = 8 ∨ v = 9 ∨ v = 10 := by omega
    have L : ∀ (a l : Nat), ∃ S2 : uS, fn_X4_pushList (nI a) (nI N) (nI l) (psh S σ.length (nI 13) (nI 59)) = some S2 ∧ nwN ((a, 12 * N + l) :: (13, 59) :: σ) N (cn + 1) ob rq (nI v) 0 0 s S2 := fun a l => ⟨_, c_pushL g1.h5 hl1, g1.ps a (12 * N + l)⟩
    have E : ∀ (σ' : List (Nat × Nat)) (S2 : uS), σ'.length < 110 → nwN σ' N (cn + 1) ob rq (nI v) 0 0 s S2 → ∃ S3 : uS, fb_X4_startCommand_188 (nI v) (nI N) S2 = some (S3, 1) ∧ nwN (if TKn.getD v 0 = 0 then σ' else (8, N) :: σ') N (cn + 1) ob rq (nI v) 0 0 s S3 := by
      intro σ' S2 hl g
      rw [c_188 (by omega) g.h5 (by omega)]
      by_cases z : TKn.getD v 0 = 0
      · rw [if_pos z, if_pos z]; exact ⟨_, rfl, g⟩
      · rw [if_neg z, if_neg z]; exact ⟨_, rfl, g.ps 8 N⟩
    rcases hs with z | z | z | z | z | z | z | z | z | z
    · subst z; obtain ⟨S3, w1, w2⟩ := E _ _ (by simp only [List.length_cons]; omega) g1
      exact ⟨S3, w1, w2⟩
    · subst z; obtain ⟨S3, w1, w2⟩ := E _ _ (by simp only [List.length_cons]; omega) g1
      exact ⟨S3, w1, w2⟩
    · subst z; obtain ⟨S3, w1, w2⟩ := E _ _ (by simp only [List.length_cons]; omega) g1
      exact ⟨S3, w1, w2⟩
    · subst z; obtain ⟨S2, y1, y2⟩ := L 10 3
      obtain ⟨S3, w1, w2⟩ := E _ _ (by simp only [List.length_cons]; omega) y2
      exact ⟨S3, by rw [if_pos (show nI 4 = 4 from rfl), show fn_X4_pushList 10 (nI N) 3 _ = some S2 from y1, Option.bind_some]; exact w1, w2⟩
    · subst z; obtain ⟨S2, y1, y2⟩ := L 10 4
      obtain ⟨S3, w1, w2⟩ := E _ _ (by simp only [List.length_cons]; omega) y2
      exact ⟨S3, by rw [if_neg (by decide), if_pos (show nI 5 = 5 from rfl), show fn_X4_pushList 10 (nI N) 4 _ = some S2 from y1, Option.bind_some]; exact w1, w2⟩
    · subst z; obtain ⟨S2, y1, y2⟩ := L 10 5
      obtain ⟨S3, w1, w2⟩ := E _ _ (by simp only [List.length_cons]; omega) y2
      exact ⟨S3, by rw [if_neg (by decide), if_neg (by decide), if_pos (show nI 6 = 6 from rfl), show fn_X4_pushList 10 (nI N) 5 _ = some S2 from y1, Option.bind_some]; exact w1, w2⟩
    · subst z; obtain ⟨S2, y1, y2⟩ := L 11 2
      obtain ⟨S3, w1, w2⟩ := E _ _ (by simp only [List.length_cons]; omega) y2
      exact ⟨S3, by rw [if_neg (by decide), if_neg (by decide), if_neg (by decide), if_pos (show nI 7 = 7 from rfl), show fn_X4_pushList 11 (nI N) 2 _ = some S2 from y1, Option.bind_some]; exact w1, w2⟩
    · subst z; obtain ⟨S2, y1, y2⟩ := L 11 2
      obtain ⟨S3, w1, w2⟩ := E _ _ (by simp only [List.length_cons]; omega) y2
      exact ⟨S3, by rw [if_neg (by decide), if_neg (by decide), if_neg (by decide), if_neg (by decide), if_pos (show nI 8 = 8 from rfl), show fn_X4_pushList 11 (nI N) 2 _ = some S2 from y1, Option.bind_some]; exact w1, w2⟩
    · subst z; obtain ⟨S2, y1, y2⟩ := L 11 2
      obtain ⟨S3, w1, w2⟩ := E _ _ (by simp only [List.length_cons]; omega) y2
      exact ⟨S3, by rw [if_neg (by decide), if_neg (by decide), if_neg (by decide), if_neg (by decide), if_neg (by decide), if_pos (show nI 9 = 9 from rfl), show fn_X4_pushList 11 (nI N) 2 _ = some S2 from y1, Option.bind_some]; exact w1, w2⟩
    · subst z; obtain ⟨S2, y1, y2⟩ := L 10 5
      obtain ⟨S3, w1, w2⟩ := E _ _ (by simp only [List.length_cons]; omega) y2
      exact ⟨S3, by rw [if_neg (by decide), if_neg (by decide), if_neg (by decide), if_neg (by decide), if_neg (by decide), if_neg (by decide), if_pos (show nI 10 = 10 from rfl), show fn_X4_pushList 10 (nI N) 5 _ = some S2 from y1, Option.bind_some]; exact w1, w2⟩
  · rw [decide_eq_true c4, if_pos rfl]
    exact ⟨fun _ => rfl, fun z => absurd (Or.inr (Or.inr c4)) z⟩
