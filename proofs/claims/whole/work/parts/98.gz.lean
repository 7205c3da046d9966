/-! all recipients of a message -/
def dOuK (dy : Nat) (tx snd : List Nat) (rcs : List (List Nat)) (us : List Nat) (s t s1 t1 : uS) (b : Bool) (k : Nat) : Prop := ∃ s' t' : uS, dM dy tx snd rcs us s' t' ∧ sW cS s s' ∧ s'.I 0 9 = s.I 0 9 ∧ tY t t' ∧ s'.n ≤ s.n + 20 * k ∧ s'.m ≤ s.m + 11000 * k ∧ ((b = true ∧ s1 = s' ∧ t1 = t') ∨ (b = false ∧ pLost s' t' s1 t1))
theorem lose_16 (s : uS) : (c_lose s).I 0 16 = 0 := by
  simp only [c_lose, c_rst, c_cls, wI_I]
  simp
theorem h11 {a b c d : Nat} (h1 : a ≤ b + 11000 * d) (h2 : b ≤ c + 11000) : a ≤ c + 11000 * (d + 1) := by
  rw [Nat.mul_succ]
  generalize 11000 * d = D at *
  omega
theorem h11a {a d : Nat} (h : a + 11000 * (d + 1) ≤ 7302250) : a + 11000 ≤ 7302250 := by
  rw [Nat.mul_succ] at h
  exact Nat.le_trans (Nat.add_le_add_left (Nat.le_add_left _ _) a) h
theorem h11b {a b d : Nat} (h : a + 11000 * (d + 1) ≤ 7302250) (h2 : b ≤ a + 11000) : b + 11000 * d ≤ 7302250 := by
  rw [Nat.mul_succ] at h
  generalize 11000 * d = D at *
  omega
theorem h11c {a c d : Nat} (h : a ≤ c + 11000) : a ≤ c + 11000 * (d + 1) := by
  rw [Nat.mul_succ]
  exact Nat.le_trans h (Nat.add_le_add_left (Nat.le_add_left _ _) c)
theorem t_dlv {dy : Nat} {tx snd : List Nat} {rcs : List (List Nat)} {us : List Nat} (hE : crE tx) (as_ : adO snd) (hd : dlS rcs us) : ∀ (d N ri : Nat) (s t : uS), ri + d = rcs.length → d + 2 ≤ N → dM dy tx snd rcs us s t → s.n + 20 * d ≤ 600000 → s.m + 11000 * d ≤ 7302250 → ∃ (s1 t1 : uS) (b : Bool), fn_X11_deliver_20 N (nI rcs.length) (nI ri) s = fb_X11_deliver_181 s1 ∧ fn_X12_dataLine_57 N true (nI ri) t = fb_X12_dataLine_81 b t1 ∧ dOuK dy tx snd rcs us s t s1 t1 b d := by
  intro d
  induction d with
  | zero =>
    intro N ri s t h1 h2 h hn2 hm2
    obtain ⟨M, rfl⟩ : ∃ M, N = M + 1 := ⟨N - 1, by omega⟩
    have hr4 := h.2.2.2.2.2.2.2.2.2.2.1
    have h117 := h.2.2.2.2.2.2.2.2.2.2.2.1
    refine ⟨s, t, true, ?_, ?_, s, t, h, sW_r, rfl, ⟨Nat.le_refl _, fun _ _ => rfl, fun _ _ => ⟨rfl, rfl⟩⟩, Nat.le_refl _, Nat.le_refl _, Or.inl ⟨rfl, rfl, rfl⟩⟩
    · show fb_X11_deliver_20 (fn_X11_deliver_20 M) (nI rcs.length) (nI ri) s = _
      unfold fb_X11_deliver_20
      rw [if_pos (nI_le (by omega) (by omega))]
    · show fb_X12_dataLine_57 (fn_X12_dataLine_57 M) true (nI ri) t = _
      unfold fb_X12_dataLine_57
      rw [h117, if_pos (nI_le (by omega) (by omega))]
  | succ d ih =>
    intro N ri s t h1 h2 h hn2 hm2
    obtain ⟨M, rfl⟩ : ∃ M, N = M + 1 := ⟨N - 1, by omega⟩
    have hr4 := h.2.2.2.2.2.2.2.2.2.2.1
    have h117 := h.2.2.2.2.2.2.2.2.2.2.2.1
    have hi : ri < rcs.length := by omega
    obtain ⟨s1, t1, b, a1, a2, s', t', a3, a4, a5, a6, a7, a8, a9⟩ := t_one (fn_X11_deliver_20 M) h hE as_ hd hi (by omega) (h11a hm2)
    have cl : fn_X11_deliver_20 (M + 1) (nI rcs.length) (nI ri) s = fn_X11_deliver_20 M (nI rcs.length) (nI (ri + 1)) s1 := a1
    have re : fn_X12_dataLine_57 (M + 1) true (nI ri) t = fn_X12_dataLine_57 M b (nI (ri + 1)) t1 := by
      show fb_X12_dataLine_57 (fn_X12_dataLine_57 M) true (nI ri) t = _
      unfold fb_X12_dataLine_57
      rw [h117, if_neg (nI_ge hi (by omega)), if_pos rfl, a2, Option.bind_some, nI_1]
    rw [cl, re]
    rcases a9 with ⟨rfl, rfl, rfl⟩ | ⟨rfl, hp⟩
    · obtain ⟨s2, t2, b2, c1, c2, s'', t'', c3, c4, c5, c6, c7, c8, c9⟩ := ih M (ri + 1) s1 t1 (by omega) (by omega) a3 (by omega) (h11b hm2 a8)
      exact ⟨s2, t2, b2, c1, c2, s'', t'', c3, sW_t a4 c4, c5.trans a5, tY_t a6 c6, by omega, h11 c8 a8, c9⟩
    · obtain ⟨M', rfl⟩ : ∃ M', M = M' + 1 := ⟨M - 1, by omega⟩
      refine ⟨s1, t1, false, ?_, ?_, s', t', a3, a4, a5, a6, by omega, h11c a8, Or.inr ⟨rfl, hp⟩⟩
      · show fb_X11_deliver_20 (fn_X11_deliver_20 M') (nI rcs.length) (nI (ri + 1)) s1 = _
        unfold fb_X11_deliver_20
        have h16 : s1.I 0 16 = 0 := by rw [hp.2.1]; exact lose_16 _
        rw [h16, if_pos rfl, ite_self]
      · show fb_X12_dataLine_57 (fn_X12_dataLine_57 M') false (nI (ri + 1)) t1 = _
        unfold fb_X12_dataLine_57
        rw [if_neg (show ¬ false = true by decide), ite_self]
