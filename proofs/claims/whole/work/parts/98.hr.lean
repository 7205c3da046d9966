/-! the delivery's loop over bytes -/
theorem mDd.w {dy Bn Bm Bn1 Bm1 : Nat} {s0 t0 s t s1 t1 : uS} (h : mDd dy Bn Bm s t s1 t1) (h1 : sW gC s0 s) (h2 : gT t0 t) (hn : Bn ≤ Bn1) (hm : Bm ≤ Bm1) : mDd dy Bn1 Bm1 s0 t0 s1 t1 := by
  obtain ⟨s', t', s2, t2, a1, a2, a3, a4, a5, a6, a7, a8, a9⟩ := h
  exact ⟨s', t', s2, t2, a1, a2, a3, a4, sW_t h1 a5, gT_t h2 a6, Nat.le_trans a7 hn, Nat.le_trans a8 hm, a9⟩
theorem mDd.p {dy Bn Bm : Nat} {s t s1 t1 : uS} (h : mDd dy Bn Bm s t s1 t1) : s1.I 0 16 = 0 := by
  obtain ⟨s', t', s2, t2, a1, a2, a3, a4, a5, a6, a7, a8, a9, a10, a11, a12, a13⟩ := h
  rw [a12, (cFg_o s2).2.1 _ _ (by unfold fgI; omega), a10]
  exact lose_pw _
theorem rm4 {m κ κ1 d B m1 : Nat} (h : m + 550 * (κ + (d + 1)) ≤ B) (h1 : m1 + 550 * κ1 ≤ m + 550 * (κ + 1)) : m1 + 550 * (κ1 + d) ≤ B := by
  rw [Nat.mul_add] at h h1 ⊢
  rw [Nat.mul_add] at h
  generalize 550 * κ = A at *
  generalize 550 * κ1 = C at *
  generalize 550 * d = D at *
  generalize 550 * 1 = E at *
  omega
theorem rm5 {m κ d B : Nat} (h : m + 550 * (κ + d) ≤ B) : m + 550 * κ ≤ B := Nat.le_trans (Nat.add_le_add_left (Nat.mul_le_mul_left 550 (Nat.le_add_right _ _)) m) h
theorem ml_loop {N : Nat} (hN : N ≤ 6000) {bs : List Nat} (h8 : bys bs) {s0 t0 : uS} (hs0 : 1171 ≤ s0.n) (hcb : ∀ i : Nat, i < N → s0.F 1 i = sb (bs.getD i 0)) (hrb : ∀ i : Nat, i < N → t0.F 1080 i = nI (bs.getD i 0)) {dy Bn Bm Bt : Nat} (hBn : Bn ≤ 600000) (hBm : Bm ≤ 7302250) (hBt : Bt < 2 ^ 29 - 10) : ∀ (n i : Nat) (s t : uS) (κ τ : Nat), N + 1 < i + n → i ≤ N → mJ dy κ τ s t → sW gC s0 s → gT t0 t → s.n + (κ + (N - i)) ≤ Bn → s.m + 550 * (κ + (N - i)) ≤ Bm → τ + 2 * (N - i) ≤ Bt → ∃ (s1 t1 : uS) (k : Nat), fn_X11_mail_33 n (nI N) (nI i) s = some (wI s1 0 9 0, nI k) ∧ fn_X12_mail_35 n (nI N) (nI i) t = some (t1, nI k) ∧ ((∃ κ1 τ1 : Nat, mJ dy κ1 τ1 s1 t1 ∧ sW gC s0 s1 ∧ gT t0 t1 ∧ s1.n + κ1 ≤ Bn ∧ s1.m + 550 * κ1 ≤ Bm ∧ τ1 ≤ Bt) ∨ mDd dy Bn Bm s0 t0 s1 t1) := by
  intro n
  induction n with
  | zero => intro i s t κ τ a b; omega
  | succ n ih =>
    intro i s t κ τ a b hJ hs ht hn hm hτ
    unfold fn_X11_mail_33 fb_X11_mail_33 fn_X12_mail_35 fb_X12_mail_35
    by_cases c : N ≤ i
    · rw [if_pos (nI_le c (by omega)), if_pos (nI_le c (by omega)), show i = N by omega]
      exact ⟨s, t, N, rfl, rfl, Or.inl ⟨κ, τ, hJ, hs, ht, Nat.le_trans (Nat.add_le_add_left (Nat.le_add_right _ _) _) hn, rm5 hm, by omega⟩⟩
    · have hpw : ¬ s.I 0 16 = 0 := by
        obtain ⟨cm, ct, z, -⟩ := hJ.1.2.1
        rw [z.1]; decide
      have hb := h8 i
      have hfs : s.F 1 i = sb (bs.getD i 0) := by
        rw [(hs.2 1 (by omega) (Or.inl rfl)).2.2.2.1]
        exact hcb i (by omega)
      have hft : t.F 1080 i = nI (bs.getD i 0) := by
        rw [ht.2.2 1080 (Or.inl rfl)]
        exact hrb i (by omega)
      have eN : N - i = N - (i + 1) + 1 := by omega
      rw [eN] at hn hm hτ
      rw [if_neg (nI_ge (by omega) (by omega)), if_neg (show ¬ (6000 : Int32) ≤ nI i from nI_ge (show i < 6000 by omega) (by decide)), if_neg hpw, if_neg (nI_ge (by omega) (by omega)), g_1 (show i < 6000 by omega), Option.bind_some, hfs, sb_and hb, nI_1]
      obtain ⟨s1, t1, b1, e1, e2, e3⟩ := t_mby (fun s => fn_X11_mail_33 n (nI N) (nI (i + 1)) s) hJ hb (by omega) (Nat.le_trans (rm5 hm) hBm) (by omega)
      have e1' : ((fn_X0_take (nI (bs.getD i 0)) s).bind fun r6 => if r6.2 = 1 then ((fn_X0_answerLine r6.1).bind fun s12 => fn_X11_mail_33 n (nI N) (nI (i + 1)) s12) else (if r6.2 = 2 then ((fn_X11_deliver r6.1).bind fun s10 => fn_X11_mail_33 n (nI N) (nI (i + 1)) s10) else (fn_X11_mail_33 n (nI N) (nI (i + 1)) r6.1))) = fn_X11_mail_33 n (nI N) (nI (i + 1)) s1 := e1
      rw [e1']
      have er : ∀ X : Option (uS × Int32), X = (if (t.I 1079 113) = 0 then (fn_X12_mail_35 n (nI N) (nI (i + 1)) t) else ((iget 20 t 1080 (nI i)).bind fun v3 => (fn_X12_mailIn v3 t).bind fun r5 => if r5.2 = true then (fn_X12_mail_35 n (nI N) (nI (i + 1)) r5.1) else (some (r5.1, nI (i + 1))))) → X = if b1 = true then fn_X12_mail_35 n (nI N) (nI (i + 1)) t1 else some (t1, nI (i + 1)) := by
        intro X hX
        rw [hX]
        rcases e2 with ⟨y1, y2, y3⟩ | ⟨y1, y2⟩
        · rw [if_pos y1, y3, if_pos rfl, y2]
        · rw [if_neg y1, g_1080 (by omega), Option.bind_some, hft, y2, Option.bind_some]
      rw [er _ rfl]
      rcases e3 with ⟨rfl, κ1, y1, y2, y3, y4, y5⟩ | ⟨rfl, y1⟩
      · rw [if_pos rfl]
        obtain ⟨s2, t2, k, r1, r2, r3⟩ := ih (i + 1) s1 t1 κ1 (τ + 2) (by omega) (by omega) y1 (sW_t hs y2) (gT_t ht y3) (by omega) (rm4 hm y5) (by omega)
        exact ⟨s2, t2, k, r1, r2, r3⟩
      · rw [if_neg (by decide)]
        refine ⟨s1, t1, i + 1, ?_, rfl, Or.inr (y1.w hs ht (by omega) (rm5 hm))⟩
        cases n with
        | zero => omega
        | succ n =>
          unfold fn_X11_mail_33 fb_X11_mail_33
          by_cases g : N ≤ i + 1
          · rw [if_pos (nI_le g (by omega))]
          · rw [if_neg (nI_ge (by omega) (by omega)), if_neg (show ¬ (6000 : Int32) ≤ nI (i + 1) from nI_ge (show i + 1 < 6000 by omega) (by decide)), if_pos y1.p]
