/-! a command on both sides -/
theorem p_cmd {k fr : Nat} {x : List Nat} {rq : Nat} : ∀ (B F : Nat) {ob : Nat} {σ : List (Nat × Nat)} {ts : List (List Nat)} {bg b e N M cn T : Nat} {s t : uS}, 8 ≤ ob + B → σ.length + 2 * B ≤ 40 → pj k fr x ts bg b e σ N M cn ob 0 rq T s t → RV x s t ((fn_X4_startCommand s).bind fun r => fn_X4_parse_13 (999999 - T) r.2 (nI T + 1) r.1) ((fg_0 (F + 4 * B + 22)).2.2.2.2.1 t) (cdG k fr x ts bg b σ N M cn ob 0 rq (B + 1) s t) := by
  intro B
  induction B with
  | zero =>
    intro F ob σ ts bg b e N M cn T s t hob hσ h
    obtain ⟨k1, k2, k3, k4, k5, k6, k7, k8, k9, k10, k11, k12, k13⟩ := h.2.2.2
    have hbl := h.bl
    show RV x s t _ (fn_X12_command (fn_X12_choice ((fg_0 (F + 4 * 0 + 20)).1) ((fg_0 (F + 4 * 0 + 20)).2.2.2.1)) t) _
    refine p_cst h (by omega) ?_ ?_ ?_
    · intro hc
      unfold fn_X12_choice
      exact (h.ct0 ol_r h.2.2.1 hc _).vv fun t1 a ha h1 => h1.c8 (n := 999999) ha
    · intro S hw hbe hcn hS
      obtain ⟨V, u1, u2, u3, u4⟩ := r_cnt1 h.2.2.1 hcn (by omega) 0
      unfold fn_X12_choice
      rw [u1, Option.bind_some]
      obtain ⟨y1, y2, y3⟩ := hS
      have := p_chs (k := k) (fr := fr) (x := x) (B := 0) (ob := ob) (rq := rq) (F := F + 4 * 0) (σ := σ) (fun hob8 => by omega) (by omega) k6 (ts0 := ts) (bg0 := bg) (b0 := b) (N0 := N) (M0 := M) (cn0 := cn) (s0 := s) (t0 := t) k7 k8 (x.length + 1) 1000000 ts [] bg b e σ N M cn N 0 (M + 1) (cn + 1) T s t S V (List.append_nil _).symm (by omega) (by omega) h hw hbe (Nat.le_refl _) (Nat.le_refl _) (sg_cn y3 (by omega)) (ct_rn u2) y1 (Nat.le_refl _) y2 u3 (Or.inl ⟨rfl, rfl, rfl, rfl, u4.2.1⟩) (by omega) (by omega) (Nat.le_refl _) (by omega) (by omega) (by omega) (by rw [acN_z (Nat.le_refl _)]; omega) u4.1 u4.2.2.2.1 (sg_ts y3 (by omega)) (ct_tr u2)
      exact this
    · intro v s1 t1 b1 e1 hv hbe he hcn h1 hn hr o q
      exact p_act hv hcn h1 (by omega) hn hr (by omega) o q
  | succ B ih =>
    intro F ob σ ts bg b e N M cn T s t hob hσ h
    obtain ⟨k1, k2, k3, k4, k5, k6, k7, k8, k9, k10, k11, k12, k13⟩ := h.2.2.2
    have hbl := h.bl
    show RV x s t _ (fn_X12_command (fn_X12_choice ((fg_0 (F + 4 * (B + 1) + 20)).1) ((fg_0 (F + 4 * (B + 1) + 20)).2.2.2.1)) t) _
    refine p_cst h (by omega) ?_ ?_ ?_
    · intro hc
      unfold fn_X12_choice
      exact (h.ct0 ol_r h.2.2.1 hc _).vv fun t1 a ha h1 => h1.c8 (n := 999999) ha
    · intro S hw hbe hcn hS
      obtain ⟨V, u1, u2, u3, u4⟩ := r_cnt1 h.2.2.1 hcn (by omega) 0
      unfold fn_X12_choice
      rw [u1, Option.bind_some]
      obtain ⟨y1, y2, y3⟩ := hS
      have := p_chs (k := k) (fr := fr) (x := x) (B := B + 1) (ob := ob) (rq := rq) (F := F + 4 * (B + 1)) (σ := σ) (fun hob8 i σ' ts' bg' b' e' N' M' cn' T' s' t' hl' h' => by
          have := ih F (ob := ob + 1) (by omega) (by simp only [List.length_cons]; omega) h'
          rw [show F + 4 * B + 22 = F + 4 * (B + 1) + 18 by omega] at this
          exact this) (by omega) k6 (ts0 := ts) (bg0 := bg) (b0 := b) (N0 := N) (M0 := M) (cn0 := cn) (s0 := s) (t0 := t) k7 k8 (x.length + 1) 1000000 ts [] bg b e σ N M cn N 0 (M + 1) (cn + 1) T s t S V (List.append_nil _).symm (by omega) (by omega) h hw hbe (Nat.le_refl _) (Nat.le_refl _) (sg_cn y3 (by omega)) (ct_rn u2) y1 (Nat.le_refl _) y2 u3 (Or.inl ⟨rfl, rfl, rfl, rfl, u4.2.1⟩) (by omega) (by omega) (Nat.le_refl _) (by omega) (by omega) (by omega) (by rw [acN_z (Nat.le_refl _)]; omega) u4.1 u4.2.2.2.1 (sg_ts y3 (by omega)) (ct_tr u2)
      exact this
    · intro v s1 t1 b1 e1 hv hbe he hcn h1 hn hr o q
      exact p_act hv hcn h1 (by omega) hn hr (by omega) o q
