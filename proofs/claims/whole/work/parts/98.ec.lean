/-! patterns: the class -/
def stI (f : Nat) : Option Nat → Int32
  | none => -1
  | some q => nI (f + q)
theorem c_p238 {s : uS} {k0 ix k4 f1 f2 : Nat} {k v : List Nat} (hb : rdC s k4 f2 k) (hto : iget 20 s (k0 + 3) (nI ix) = some (nI (f1 + v.length))) (h1 : f1 + v.length ≤ 20000) (h2 : f2 + k.length ≤ 20000) : ∀ (d N p : Nat), p + d = k.length → d + 1 ≤ N → ∃ b : Bool, fn_X3_isPattern_238 N k0 (nI ix) k4 (nI (f2 + k.length)) (nI (f1 + v.length)) (nI (f2 + p)) s = some b ∧ (b = true ↔ gA k v v.length p) := by
  intro d
  induction d with
  | zero =>
    intro N p hp hN
    obtain ⟨n1, rfl⟩ : ∃ n1, N = n1 + 1 := ⟨N - 1, by omega⟩
    refine ⟨true, ?_, by rw [gA_end (by omega)]; simp⟩
    show fb_X3_isPattern_238 _ k0 (nI ix) k4 (nI (f2 + k.length)) (nI (f1 + v.length)) (nI (f2 + p)) s = _
    unfold fb_X3_isPattern_238 fb_X3_isPattern_261
    rw [if_pos (nI_le (by omega) (by omega)), if_pos (by rw [show p = k.length by omega]), hto, Option.bind_some, if_pos rfl]
  | succ d ih =>
    intro N p hp hN
    obtain ⟨n1, rfl⟩ : ∃ n1, N = n1 + 1 := ⟨N - 1, by omega⟩
    have hk := hb.2.1 p
    show ∃ b : Bool, fb_X3_isPattern_238 (fn_X3_isPattern_238 n1) k0 (nI ix) k4 (nI (f2 + k.length)) (nI (f1 + v.length)) (nI (f2 + p)) s = some b ∧ _
    unfold fb_X3_isPattern_238 fb_X3_isPattern_261
    rw [if_neg (nI_ge (by omega) (by omega)), hb.2.2 p (by omega), Option.bind_some]
    by_cases z : k.getD p 0 = 42
    · rw [if_pos (show sb (k.getD p 0) = 42 from (sb_e hk (by decide)).mpr z), nI_1]
      obtain ⟨b, e1, e2⟩ := ih n1 (p + 1) (by omega) (by omega)
      refine ⟨b, e1, e2.trans ?_⟩
      rw [gA_star (p := p) (by omega) z]
      refine ⟨fun y => ⟨_, Nat.le_refl _, Nat.le_refl _, y⟩, fun ⟨j, y1, y2, y3⟩ => ?_⟩
      rw [show v.length = j by omega]; exact y3
    · rw [if_neg (show ¬ sb (k.getD p 0) = 42 from fun y => z ((sb_e hk (by decide)).mp y)), if_neg (nI_ne (by omega) (by omega) (by omega))]
      refine ⟨false, rfl, ?_⟩
      rw [gA_tok (by omega) z]
      simp
theorem c_p57 {s : uS} {K : Nat → Int32 → Nat → Int32 → Int32 → Int32 → Int32 → Int32 → Int32 → Int32 → uS → Option Bool} {k0 ix k4 f1 f2 i p : Nat} {k v : List Nat} {x8 x9 x10 x11 : Int32} (ha : rdC s (k0 + 1) f1 v) (hb : rdC s k4 f2 k) (hto : iget 20 s (k0 + 3) (nI ix) = some (nI (f1 + v.length))) (h1 : f1 + v.length ≤ 20000) (h2 : f2 + k.length ≤ 20000) (hi : i < v.length) (hp : p ≤ k.length) (hx : ¬ x10 ≤ x11) : fb_X3_isPattern_57 K k0 (nI ix) k4 (nI (f2 + k.length)) (nI (f1 + i)) (nI (f2 + p)) x8 x9 x10 x11 s = if k.length ≤ p then fb_X3_isPattern_211 K k0 (nI ix) k4 (nI (f2 + k.length)) x8 x9 x10 x11 s else if k.getD p 0 = 42 then K k0 (nI ix) k4 (nI (f2 + k.length)) (nI (f1 + i)) (nI (f2 + (p + 1))) (nI (f2 + (p + 1))) (nI (f1 + i)) x10 (x11 + 1) s else if mtp k p (v.getD i 0) = true then K k0 (nI ix) k4 (nI (f2 + k.length)) (nI (f1 + (i + 1))) (nI (f2 + nxp k p)) x8 x9 x10 (x11 + 1) s else fb_X3_isPattern_211 K k0 (nI ix) k4 (nI (f2 + k.length)) x8 x9 x10 x11 s := by
  have hv := ha.2.1 i
  have hk := hb.2.1 p
  have hk1 := hb.2.1 (p + 1)
  have e1 : ∀ j : Nat, nI (f1 + j) + 1 = nI (f1 + (j + 1)) := fun j => by rw [nI_1]; rfl
  have e2 : ∀ j : Nat, nI (f2 + j) + 1 = nI (f2 + (j + 1)) := fun j => by rw [nI_1]; rfl
  unfold fb_X3_isPattern_57
  rw [if_neg hx, hto, Option.bind_some, if_neg (nI_ge (by omega) (by omega)), e2]
  have A115 : ∀ sg : Nat, sg < k.length ∨ k.length ≤ p → fb_X3_isPattern_115 K k0 (nI ix) k4 (nI (f2 + k.length)) (nI (f1 + i)) (nI (f2 + p)) x8 x9 x10 x11 (nI (f2 + sg)) s = if k.length ≤ p then fb_X3_isPattern_211 K k0 (nI ix) k4 (nI (f2 + k.length)) x8 x9 x10 x11 s else if k.getD p 0 = 42 then K k0 (nI ix) k4 (nI (f2 + k.length)) (nI (f1 + i)) (nI (f2 + (p + 1))) (nI (f2 + (p + 1))) (nI (f1 + i)) x10 (x11 + 1) s else if k.getD p 0 = 63 ∨ k.getD sg 0 = v.getD i 0 then K k0 (nI ix) k4 (nI (f2 + k.length)) (nI (f1 + (i + 1))) (nI (f2 + (sg + 1))) x8 x9 x10 (x11 + 1) s else fb_X3_isPattern_211 K k0 (nI ix) k4 (nI (f2 + k.length)) x8 x9 x10 x11 s := by
    intro sg hs
    unfold fb_X3_isPattern_115 fb_X3_isPattern_139 fb_X3_isPattern_172 fb_X3_isPattern_199
    by_cases z : k.length ≤ p
    · have c : nI (f2 + k.length) ≤ nI (f2 + p) := nI_le (by omega) (by omega)
      rw [if_pos c, if_pos c, if_neg (show ¬ false = true by decide), if_pos c, if_pos z]
    · have c : ¬ nI (f2 + k.length) ≤ nI (f2 + p) := nI_ge (by omega) (by omega)
      have hsg := hb.2.1 sg
      rw [if_neg c, if_neg z, hb.2.2 p (by omega), Option.bind_some]
      by_cases y : k.getD p 0 = 63
      · rw [if_pos (show sb (k.getD p 0) = 63 from (sb_e hk (by decide)).mpr y), if_neg c, Option.bind_some, if_neg (show ¬ sb (k.getD p 0) = 42 from fun w => by have := (sb_e hk (c := 42) (by decide)).mp w; omega), if_pos rfl, if_neg (by omega), if_pos (Or.inl y), e1, e2]
      · rw [if_neg (show ¬ sb (k.getD p 0) = 63 from fun w => y ((sb_e hk (by decide)).mp w)), if_neg c, Option.bind_some]
        by_cases w : k.getD p 0 = 42
        · rw [if_pos (show sb (k.getD p 0) = 42 from (sb_e hk (by decide)).mpr w), if_pos w, e2]
        · rw [if_neg (show ¬ sb (k.getD p 0) = 42 from fun u => w ((sb_e hk (by decide)).mp u)), if_neg w, if_neg (show ¬ false = true by decide), if_neg c, hb.2.2 sg (by omega), Option.bind_some, ha.2.2 i hi, Option.bind_some]
          by_cases u : k.getD sg 0 = v.getD i 0
          · rw [if_pos (by rw [u]), if_pos (Or.inr u), e1, e2]
          · rw [if_neg (fun q => u ((sb_inj hsg hv).mp q)), if_neg (by rintro (q | q); exact y q; exact u q)]
  have fin : ∀ sg : Nat, (sg < k.length ∨ k.length ≤ p) → (p < k.length → k.getD p 0 ≠ 42 → (k.getD p 0 = 63 ∨ k.getD sg 0 = v.getD i 0 ↔ mtp k p (v.getD i 0) = true) ∧ sg + 1 = nxp k p) → fb_X3_isPattern_115 K k0 (nI ix) k4 (nI (f2 + k.length)) (nI (f1 + i)) (nI (f2 + p)) x8 x9 x10 x11 (nI (f2 + sg)) s = if k.length ≤ p then fb_X3_isPattern_211 K k0 (nI ix) k4 (nI (f2 + k.length)) x8 x9 x10 x11 s else if k.getD p 0 = 42 then K k0 (nI ix) k4 (nI (f2 + k.length)) (nI (f1 + i)) (nI (f2 + (p + 1))) (nI (f2 + (p + 1))) (nI (f1 + i)) x10 (x11 + 1) s else if mtp k p (v.getD i 0) = true then K k0 (nI ix) k4 (nI (f2 + k.length)) (nI (f1 + (i + 1))) (nI (f2 + nxp k p)) x8 x9 x10 (x11 + 1) s else fb_X3_isPattern_211 K k0 (nI ix) k4 (nI (f2 + k.length)) x8 x9 x10 x11 s := by
    intro sg hs hq
    rw [A115 sg hs]
    by_cases z : k.length ≤ p
    · rw [if_pos z, if_pos z]
    · rw [if_neg z, if_neg z]
      by_cases w : k.getD p 0 = 42
      · rw [if_pos w, if_pos w]
      · rw [if_neg w, if_neg w]
        obtain ⟨q1, q2⟩ := hq (by omega) w
        by_cases u : mtp k p (v.getD i 0) = true
        · rw [if_pos (q1.mpr u), if_pos u, q2]
        · rw [if_neg (fun y => u (q1.mp y)), if_neg u]
  unfold fb_X3_isPattern_99
  by_cases z : k.length ≤ p + 1
  · rw [if_pos (nI_le (by omega) (by omega)), if_neg (show ¬ false = true by decide)]
    refine fin p (by omega) (fun hp2 hn => ?_)
    have he : esc k p = false := by unfold esc; exact decide_eq_false (by omega)
    unfold mtp nxp
    rw [he, if_neg (show ¬ false = true by decide), if_neg (show ¬ false = true by decide)]
    refine ⟨?_, rfl⟩
    by_cases y : k.getD p 0 = 63
    · rw [if_pos y]; exact ⟨fun _ => rfl, fun _ => Or.inl y⟩
    · rw [if_neg y, decide_eq_true_eq]
      exact ⟨fun w => w.elim (fun w => absurd w y) id, fun w => Or.inr w⟩
  · rw [if_neg (nI_ge (by omega) (by omega)), hb.2.2 p (by omega), Option.bind_some]
    by_cases y : k.getD p 0 = 92
    · rw [if_pos (show sb (k.getD p 0) = 92 from (sb_e hk (by decide)).mpr y), if_pos rfl, e2]
      refine fin (p + 1) (by omega) (fun hp2 hn => ?_)
      have he : esc k p = true := by unfold esc; exact decide_eq_true ⟨y, by omega⟩
      unfold mtp nxp
      rw [he, if_pos rfl, if_pos rfl, if_neg (by omega), decide_eq_true_eq]
      exact ⟨⟨fun w => w.elim (fun w => by omega) id, fun w => Or.inr w⟩, rfl⟩
    · rw [if_neg (show ¬ sb (k.getD p 0) = 92 from fun w => y ((sb_e hk (by decide)).mp w)), if_neg (show ¬ false = true by decide)]
      refine fin p (by omega) (fun hp2 hn => ?_)
      have he : esc k p = false := by unfold esc; exact decide_eq_false (fun w => y w.1)
      unfold mtp nxp
      rw [he, if_neg (show ¬ false = true by decide), if_neg (show ¬ false = true by decide)]
      refine ⟨?_, rfl⟩
      by_cases u : k.getD p 0 = 63
      · rw [if_pos u]; exact ⟨fun _ => rfl, fun _ => Or.inl u⟩
      · rw [if_neg u, decide_eq_true_eq]
        exact ⟨fun w => w.elim (fun w => absurd w u) id, fun w => Or.inr w⟩
theorem c_pat {s : uS} {k0 ix k4 f1 f2 : Nat} {k v : List Nat} (ha : rdC s (k0 + 1) f1 v) (hb : rdC s k4 f2 k) (hto : iget 20 s (k0 + 3) (nI ix) = some (nI (f1 + v.length))) (h1 : f1 + v.length ≤ 20000) (h2 : f2 + k.length ≤ 20000) {X : Nat} (hX : X = (v.length + 2) * (k.length + 2)) (hXl : X < 2 ^ 31) : ∀ (N i p a τ : Nat) (σ : Option Nat), gI k v i p σ a → τ ≤ a * (k.length + 2) + p → X + 1 ≤ N + τ → ∃ b : Bool, fn_X3_isPattern_57 N k0 (nI ix) k4 (nI (f2 + k.length)) (nI (f1 + i)) (nI (f2 + p)) (stI f2 σ) (nI (f1 + a)) (nI X) (nI τ) s = some b ∧ (b = true ↔ gA k v 0 0) := by
  intro N
  have bound : ∀ i p a τ : Nat, i ≤ v.length → p ≤ k.length → a ≤ i → τ ≤ a * (k.length + 2) + p → τ < X := by
    intro i p a τ q1 q2 q3 q4
    have : a * (k.length + 2) ≤ v.length * (k.length + 2) := Nat.mul_le_mul_right _ (by omega)
    rw [hX, Nat.add_mul]
    omega
  induction N with
  | zero =>
    intro i p a τ σ h hτ hN
    have := bound i p a τ h.1 h.2.1 h.2.2.1 hτ
    omega
  | succ N ih =>
    intro i p a τ σ h hτ hN
    have hb' := bound i p a τ h.1 h.2.1 h.2.2.1 hτ
    have q1 := h.1
    have q2 := h.2.1
    have q3 := h.2.2.1
    by_cases hi : i < v.length
    · show ∃ b : Bool, fb_X3_isPattern_57 (fn_X3_isPattern_57 N) k0 (nI ix) k4 (nI (f2 + k.length)) (nI (f1 + i)) (nI (f2 + p)) (stI f2 σ) (nI (f1 + a)) (nI X) (nI τ) s = some b ∧ _
      rw [c_p57 ha hb hto h1 h2 hi q2 (nI_ge (by omega) (by omega)), nI_1 τ]
      have back : ¬ gA k v i p → ∃ b : Bool, fb_X3_isPattern_211 (fn_X3_isPattern_57 N) k0 (nI ix) k4 (nI (f2 + k.length)) (stI f2 σ) (nI (f1 + a)) (nI X) (nI τ) s = some b ∧ (b = true ↔ gA k v 0 0) := by
        intro hn
        unfold fb_X3_isPattern_211
        cases σ with
        | none =>
          rw [if_pos (show stI f2 none < 0 from (by decide : (-1 : Int32) < 0))]
          exact ⟨false, rfl, by simp [gI_no h hn]⟩
        | some q =>
          have hq := h.2.2.2.1
          rw [if_neg (show ¬ stI f2 (some q) < 0 from nI_nlt (a := f2 + q) (b := 0) (Nat.zero_le _) (by omega)), nI_1, nI_1, show f1 + a + 1 = f1 + (a + 1) by omega]
          refine ih (a + 1) q (a + 1) (τ + 1) (some q) (gI_back h hi hn) ?_ (by omega)
          rw [Nat.add_mul]; omega
      by_cases z : k.length ≤ p
      · rw [if_pos z]
        exact back (fun y => by rw [gA_end z] at y; omega)
      · rw [if_neg z]
        by_cases w : k.getD p 0 = 42
        · rw [if_pos w]
          refine ih i (p + 1) i (τ + 1) (some (p + 1)) (gI_star h (by omega) w) ?_ (by omega)
          have : a * (k.length + 2) ≤ i * (k.length + 2) := Nat.mul_le_mul_right _ q3
          omega
        · rw [if_neg w]
          by_cases u : mtp k p (v.getD i 0) = true
          · rw [if_pos u]
            refine ih (i + 1) (nxp k p) a (τ + 1) σ (gI_tok h (by omega) w hi u) ?_ (by omega)
            have := nxp_gt (k := k) (p := p)
            omega
          · rw [if_neg u]
            exact back (fun y => by rw [gA_tok (by omega) w] at y; exact u y.2.1)
    · have hiv : i = v.length := by omega
      subst hiv
      show ∃ b : Bool, fb_X3_isPattern_57 (fn_X3_isPattern_57 N) k0 (nI ix) k4 (nI (f2 + k.length)) (nI (f1 + v.length)) (nI (f2 + p)) (stI f2 σ) (nI (f1 + a)) (nI X) (nI τ) s = some b ∧ _
      unfold fb_X3_isPattern_57
      rw [if_neg (nI_ge (by omega) (by omega)), hto, Option.bind_some, if_pos (nI_le (Nat.le_refl _) (by omega))]
      obtain ⟨b, e1, e2⟩ := c_p238 hb hto h1 h2 (k.length - p) 1000000 p (by omega) (by omega)
      exact ⟨b, e1, e2.trans (gI_end h).symm⟩
