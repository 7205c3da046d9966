/-! actions on both sides -/
/-- how many actions file or send, among the class's nodes a .. b - 1 -/
def kA (s : uS) (k : Nat) : Nat := if s.I (16 + 3 * k) 0 = 3 ∨ s.I (16 + 3 * k) 0 = 4 ∨ s.I (16 + 3 * k) 0 = 5 then 1 else 0
def acN (s : uS) (a : Nat) : Nat → Nat
  | 0 => 0
  | b + 1 => if a ≤ b then acN s a b + kA s b else 0
theorem acN_z {s : uS} {a b : Nat} (h : b ≤ a) : acN s a b = 0 := by
  cases b with
  | zero => rfl
  | succ b => exact if_neg (by omega)
theorem acN_s {s : uS} {a b : Nat} (h : a ≤ b) : acN s a (b + 1) = acN s a b + kA s b := if_pos h
theorem kA_le {s : uS} {k : Nat} : kA s k ≤ 1 := by unfold kA; split <;> omega
theorem kA_0 {s : uS} {k κ : Nat} (h : s.I (16 + 3 * k) 0 = nI κ) (h1 : κ < 2 ^ 31) (h2 : κ ≠ 3) (h3 : κ ≠ 4) (h4 : κ ≠ 5) : kA s k = 0 := by
  unfold kA
  rw [h, if_neg]
  intro z
  rcases z with z | z | z
  · exact nI_ne (b := 3) h1 (by decide) h2 z
  · exact nI_ne (b := 4) h1 (by decide) h3 z
  · exact nI_ne (b := 5) h1 (by decide) h4 z
theorem acN_le {s : uS} {a : Nat} : ∀ {b : Nat}, acN s a b ≤ b - a
  | 0 => Nat.zero_le _
  | b + 1 => by
    by_cases c : a ≤ b
    · have := acN_le (s := s) (a := a) (b := b)
      have := kA_le (s := s) (k := b)
      rw [acN_s c]; omega
    · rw [acN_z (by omega)]; omega
theorem acN_sp {s : uS} {a b : Nat} (h : a ≤ b) : ∀ {c : Nat}, b ≤ c → acN s a c = acN s a b + acN s b c
  | 0, hc => by rw [show b = 0 by omega, acN_z (Nat.zero_le _), acN_z (Nat.le_refl _)]
  | c + 1, hc => by
    by_cases e : b = c + 1
    · rw [e, acN_z (s := s) (a := c + 1) (b := c + 1) (Nat.le_refl _)]; exact (Nat.add_zero _).symm
    · rw [acN_s (by omega), acN_s (by omega), acN_sp h (c := c) (by omega), Nat.add_assoc]
theorem acN_c {s s1 : uS} {a : Nat} : ∀ {b : Nat}, (∀ k : Nat, a ≤ k → k < b → s1.I (16 + 3 * k) 0 = s.I (16 + 3 * k) 0) → acN s1 a b = acN s a b
  | 0, _ => rfl
  | b + 1, h => by
    by_cases c : a ≤ b
    · rw [acN_s c, acN_s c, acN_c (fun k h1 h2 => h k h1 (by omega))]
      unfold kA
      rw [h b c (by omega)]
    · rw [acN_z (by omega), acN_z (by omega)]
def cdG (k fr : Nat) (x : List Nat) (ts : List (List Nat)) (bg b : Nat) (σ : List (Nat × Nat)) (N M cn ob dp rq B : Nat) (s t : uS) (s1 : uS) (T1 : Nat) (t1 : uS) (v : Nat) : Prop := v = M ∧ ∃ (news : List (List Nat)) (bg1 b1 e1 N1 M1 cn1 : Nat), bg ≤ bg1 ∧ b < b1 ∧ cn < cn1 ∧ N1 + 3 * cn ≤ N + 3 * cn1 ∧ M1 + 3 * cn ≤ M + 3 * cn1 ∧ pj k fr x (ts ++ news) bg1 b1 e1 σ N1 M1 cn1 ob dp rq T1 s1 t1 ∧ cnR B (ts ++ news) s1 t1 N N1 M M1 ts.length (ts ++ news).length ∧ t1.F 1101 M = -1 ∧ out (tsI N) (tsF N) s s1 ∧ ol trI (trF M ts.length bg) rNo t t1 ∧ acN s1 N N1 + cn ≤ cn1
theorem p_tkn {k fr : Nat} {x : List Nat} {ts : List (List Nat)} {bg b e : Nat} {σ : List (Nat × Nat)} {N M cn ob dp rq T : Nat} {s t : uS} {i l g : Nat} (h : pj k fr x ts bg b e ((10, 12 * i + l) :: σ) N M cn ob dp rq T s t) (hi : i < 320) (hl : lpl l) (ha : s.F (18 + 3 * i) l = nI 0) (hg : s.I (16 + 3 * i) 11 = nI g) (hg2 : g < 32) : RV x s t (pd T s) (fn_X12_taken t) (strG k fr x ts bg e σ N M cn ob dp rq i l 0 g s t) := by
  have h4 : fn_X12_is 4 t = some (decide (s.I 7 2 = nI 3)) := h.is (c := 3) (by decide)
  have ch0 : chk (nI 0) t = some t := by
    unfold chk
    rw [h4, Option.bind_some, if_neg (show ¬ nI 0 = 10 by decide), ite_self]
  have pp := p_str h hi hl ha (by omega) hg hg2
  rw [ch0, Option.bind_some, ← pd_10 h] at pp
  exact pp
theorem a_end {k fr : Nat} {x : List Nat} {ts ts0 new0 : List (List Nat)} {bg b e bg0 b0 : Nat} {σ : List (Nat × Nat)} {N M cn ob dp rq T κ : Nat} {s t s0 t0 : uS} {R : uS → Option (uS × Int32)} {B : Nat} (hts : ts = ts0 ++ new0) (hcn : cn < 100) (h : pj k fr x ts bg b e ((13, 59) :: σ) (N + 1) (M + 1) (cn + 1) ob dp rq T s t) (hκ : 1 ≤ κ ∧ κ ≤ 10) (hn0 : s.I (16 + 3 * N) 0 = nI κ) (r0 : t.F 1098 M = nI (κ + 1)) (r1 : t.F 1101 M = -1) (ac : acR κ N M ts0.length ts.length ts s t) (g1 : bg0 ≤ bg) (g2 : b0 < b) (o : out (tsI N) (tsF N) s0 s) (q : ol trI (trF M ts0.length bg0) rNo t0 t) : RV x s t (pd T s) (fb_X12_command_389 R (nI M) t) (cdG k fr x ts0 bg0 b0 σ N M cn ob dp rq (B + 1) s0 t0) := by
  obtain ⟨k1, k2, k3, k4, k5, k6, k7, k8, k9, k10, k11, k12, k13⟩ := h.2.2.2
  unfold fb_X12_command_389
  refine (p_take h (by decide)).uv (fun p t1 z => z.V (by omega)) ?_
  rintro s1 T1 t1 - - ⟨w0, b1, e1, w1, w2, w3, w4⟩
  have nd : ndS N s s1 := ⟨fun f => w3.2.1 _ _ (by unfold tkI lnI'; omega), fun f => w3.2.2 _ _ (by unfold lqF; omega), fun f => w3.2.2 _ _ (by unfold lqF; omega)⟩
  have m : ∀ r : Nat, 1098 ≤ r → t1.F r M = t.F r M := fun r _ => w4.2.2 _ _ (by unfold rqP; omega)
  have ac' := ac.fr (more := []) nd (fun r h1 h2 => m r (by omega))
  rw [List.append_nil] at ac'
  refine Or.inr ⟨T1, s1, t1, M, rfl, rfl, out_r, ol_r, rfl, new0, bg, b1, e1, N + 1, M + 1, cn + 1, g1, by omega, by omega, by omega, by omega, by rw [← hts]; exact w2, ?_, (m _ (by omega)).trans r1, out_t o (tk_ts w3), ol_t q (ol_w (rq_tr w4 (M := M) (j := ts0.length)) (fun _ _ z => z) (fun k f z => by unfold trF at *; omega) (fun _ _ z => z)), by have := acN_le (s := s1) (a := N) (b := N + 1); omega⟩
  rw [← hts]
  exact ⟨by omega, by omega, by rw [hts, List.length_append]; omega, κ, hκ.2, (nd.1 _).trans hn0, Or.inl ⟨hκ.1, rfl, rfl, (m _ (by omega)).trans r0, ac'⟩⟩
theorem tgS_0 {ts : List (List Nat)} {N M : Nat} {κ p d κ' : Int32} {s t : uS} (h : nodN N κ p d s) (g : nodR M κ' t) : tgS ts N M 0 s t := by
  obtain ⟨h1, h2, h3, h4, h5, h6, h7, h8, h9, h10, h11⟩ := h
  obtain ⟨g1, g2, g3, g4, g5, g6, g7, g8, g9, g10, g11, g12, g13, g14, g15⟩ := g
  exact ⟨h6, Or.inl rfl, by rw [g8]; rfl, fun _ => ⟨g7, h11 2 (by decide), h10⟩, fun z => absurd rfl z⟩
theorem tg_ts {i N : Nat} (hN : N ≤ i) (hi : i < 320) {s s1 : uS} (h : out (tgI i) (tgF i) s s1) : out (tsI N) (tsF N) s s1 := out_w h (fun k f z => by unfold tgI at z; unfold tsI; omega) (fun k f z => by unfold tgF at z; unfold tsF; omega)
theorem p_act {k fr : Nat} {x : List Nat} {ts : List (List Nat)} {bg b e b0 : Nat} {σ : List (Nat × Nat)} {N M cn ob dp rq T v : Nat} {s t s0 t0 : uS} {R : uS → Option (uS × Int32)} {B : Nat} (hv : 1 ≤ v ∧ v ≤ 10) (hcn : cn < 100) (h : pj k fr x ts bg b e (stC v N σ) (N + 1) (M + 1) (cn + 1) ob dp rq T s t) (hσ : σ.length ≤ 60) (hn : nodN N (nI v) (nI 0) (nI 0) s) (hr : nodR M (nI (v + 1)) t) (g2 : b0 < b) (o : out (tsI N) (tsF N) s0 s) (q : ol trI (trF M ts.length bg) rNo t0 t) : RV x s t (pd T s) (cmK R v (nI M) t) (cdG k fr x ts bg b0 σ N M cn ob dp rq (B + 1) s0 t0) := by
  obtain ⟨k1, k2, k3, k4, k5, k6, k7, k8, k9, k10, k11, k12, k13⟩ := h.2.2.2
  have hN : N < 320 := by omega
  have hM5 : M < 520 := by omega
  have h00 := tgS_0 (ts := ts) hn hr
  obtain ⟨n0, n1, n2, n3, n4, n5, n6, n8, n9, n11, nl⟩ := id hn
  obtain ⟨m0, m1, m2, m3, m4, m5, m6, m7, m8, m9, m10, m11, m12, m13, m14⟩ := id hr
  have tags : ∀ (σ' : List (Nat × Nat)) (K : uS → Option (uS × Int32)), σ'.length ≤ 70 → v = 3 ∨ v = 4 ∨ v = 5 → pj k fr x ts bg b e ((8, N) :: σ') (N + 1) (M + 1) (cn + 1) ob dp rq T s t → (∀ (p : Nat) (t1 : uS), fO p t1 → FV p t1 (K t1)) → (∀ (s1 : uS) (T1 : Nat) (t1 : uS), tgG k fr x ts bg b σ' (N + 1) (M + 1) (cn + 1) ob dp rq N M s t s1 T1 t1 → RV x s1 t1 (pd T1 s1) (K t1) (cdG k fr x ts bg b0 σ N M cn ob dp rq (B + 1) s0 t0)) → RV x s t (pd T s) ((fn_X12_tags (nI M) t).bind K) (cdG k fr x ts bg b0 σ N M cn ob dp rq (B + 1) s0 t0) := by
    intro σ' K hl hv3 h' hf hc
    have := p_tags (k := k) (fr := fr) (x := x) (i := N) (n := M) hN hM5 (κ := v) (κ' := v + 1) (by omega) hl (N := N + 1) (M := M + 1) (cn := cn + 1) (ob := ob) (dp := dp) (rq := rq) (x.length + 1) 1000000 ts bg b e T 0 s t (by omega) (by have := h.bl.2.2; omega) h' n0 m0 h00
    exact this.uv (fun p t1 z => hf p t1 z) (fun s1 T1 t1 _ _ z => hc s1 T1 t1 z)
  by_cases c2 : v ≤ 2
  · unfold cmK; rw [if_pos c2]
    unfold stC at h; rw [if_neg (by omega), if_pos c2] at h
    exact a_end (new0 := []) (List.append_nil _).symm hcn h hv n0 m0 m3 ⟨fun z => by omega, fun z => by omega, fun z => by omega, fun z => by omega, fun z => by omega, fun z => by omega⟩ (Nat.le_refl _) g2 o q
  by_cases c3 : v = 3
  · subst c3
    refine tags ((13, 59) :: σ) _ (by simp only [List.length_cons]; omega) (Or.inl rfl) h (fun p t1 z => z.c389 hM5) ?_
    rintro s1 T1 t1 ⟨new1, bg1, b1, e1, gg, a1, a2, a3, a4, a5, a6⟩
    have i : ∀ f : Nat, f < 5 → s1.I (16 + 3 * N) f = s.I (16 + 3 * N) f := fun f hf => a5.2.1 _ _ (by unfold tgI; omega)
    have mm : ∀ r : Nat, 1098 ≤ r → r ≤ 1103 → t1.F r M = t.F r M := fun r _ _ => a6.2.2.1 _ _ (by unfold rtF rLF; omega)
    exact a_end (κ := 3) rfl hcn a3 (by omega) ((i _ (by omega)).trans n0) ((mm _ (by omega) (by omega)).trans m0) ((mm _ (by omega) (by omega)).trans m3) ⟨fun _ => ⟨gg, a4⟩, fun z => by omega, fun z => by omega, fun z => by omega, fun z => by omega, fun z => by omega⟩ a1 (by omega) (out_t o (tg_ts (Nat.le_refl _) hN a5)) (ol_t q (rt_tr a6 (Nat.le_refl _) (Nat.le_refl _) (Nat.le_refl _)))
  by_cases c4 : v = 4
  · subst c4
    refine tags ((10, 12 * N + 3) :: (13, 59) :: σ) _ (by simp only [List.length_cons]; omega) (Or.inr (Or.inl rfl)) h (fun p t1 z => (z.fi hM5).uv fun t2 z2 => z2.c389 hM5) ?_
    rintro s1 T1 t1 ⟨new1, bg1, b1, e1, gg, a1, a2, a3, a4, a5, a6⟩
    have i : ∀ f : Nat, f < 5 → s1.I (16 + 3 * N) f = s.I (16 + 3 * N) f := fun f hf => a5.2.1 _ _ (by unfold tgI; omega)
    have mm : ∀ r : Nat, 1098 ≤ r → r ≤ 1103 → t1.F r M = t.F r M := fun r _ _ => a6.2.2.1 _ _ (by unfold rtF rLF; omega)
    refine (p_file a3 hN hM5 ((a5.2.2 _ _ (by unfold tgF; omega)).trans (nl 3 (by decide)))).uv (fun p t1 z => z.c389 hM5) ?_
    rintro s2 T2 t2 - - ⟨str, b2, e2, d1, d2, d3, d4, d5, d6, d7, d8⟩
    have hbe := a3.1.l.2.2.2.2.2
    have i2 : ∀ f : Nat, s2.I (16 + 3 * N) f = s1.I (16 + 3 * N) f := fun f => d6.2.1 _ _ (by unfold cLI; omega)
    have mm2 : ∀ r : Nat, 1098 ≤ r → r ≤ 1101 → t2.F r M = t1.F r M := fun r _ _ => d7.2.2.1 _ _ (by unfold nrF rLF; omega)
    refine a_end (κ := 4) (ts0 := ts) (new0 := new1 ++ [str]) (List.append_assoc _ _ _) hcn d2 (by omega) (((i2 _).trans (i _ (by omega))).trans n0) (((mm2 _ (by omega) (by omega)).trans (mm _ (by omega) (by omega))).trans m0) (((mm2 _ (by omega) (by omega)).trans (mm _ (by omega) (by omega))).trans m3) ⟨fun _ => ⟨gg, a4.fr (i2 _) (i2 _) (d6.2.2 _ _ (by unfold cLF; omega)) (d8 _ (by omega) (by omega)) (d8 _ (by omega) (by omega)) (d8 _ (by omega) (by omega))⟩, fun _ => ⟨(ts ++ new1).length, ?_, ?_, ?_, ?_, d4, d5⟩, fun z => by omega, fun z => by omega, fun z => by omega, fun z => by omega⟩ (by omega) (by omega) (out_t o (out_t (tg_ts (Nat.le_refl _) hN a5) (cL_ts (Nat.le_refl _) hN d6))) (ol_t q (ol_t (rt_tr a6 (Nat.le_refl _) (Nat.le_refl _) (Nat.le_refl _)) (nr_tr d7 (Nat.le_refl _) (by rw [List.length_append]; omega) a1)))
    · rw [List.length_append]; omega
    · rw [List.length_append (as := ts ++ new1)]; show _ < _ + 1; omega
    · rw [List.length_append (as := ts ++ new1)]; show _ < _ + 1; omega
    · rw [getD_last]; exact d3
  by_cases c5 : v = 5
  · subst c5
    refine tags ((10, 12 * N + 4) :: (13, 59) :: σ) _ (by simp only [List.length_cons]; omega) (Or.inr (Or.inr rfl)) h (fun p t1 z => (z.re hM5).uv fun t2 z2 => z2.c389 hM5) ?_
    rintro s1 T1 t1 ⟨new1, bg1, b1, e1, gg, a1, a2, a3, a4, a5, a6⟩
    have i : ∀ f : Nat, f < 5 → s1.I (16 + 3 * N) f = s.I (16 + 3 * N) f := fun f hf => a5.2.1 _ _ (by unfold tgI; omega)
    have mm : ∀ r : Nat, 1098 ≤ r → r ≤ 1103 → t1.F r M = t.F r M := fun r _ _ => a6.2.2.1 _ _ (by unfold rtF rLF; omega)
    refine (p_redir a3 hN hM5 ((a5.2.2 _ _ (by unfold tgF; omega)).trans (nl 4 (by decide)))).uv (fun p t1 z => z.c389 hM5) ?_
    rintro s2 T2 t2 - - ⟨str, b2, e2, d1, d2, d3, d4, d5, d6, d7, d8⟩
    have hbe := a3.1.l.2.2.2.2.2
    have i2 : ∀ f : Nat, s2.I (16 + 3 * N) f = s1.I (16 + 3 * N) f := fun f => d6.2.1 _ _ (by unfold cLI; omega)
    have mm2 : ∀ r : Nat, 1098 ≤ r → r ≤ 1101 → t2.F r M = t1.F r M := fun r _ _ => d7.2.2.1 _ _ (by unfold nrF rLF; omega)
    refine a_end (κ := 5) (ts0 := ts) (new0 := new1 ++ [str]) (List.append_assoc _ _ _) hcn d2 (by omega) (((i2 _).trans (i _ (by omega))).trans n0) (((mm2 _ (by omega) (by omega)).trans (mm _ (by omega) (by omega))).trans m0) (((mm2 _ (by omega) (by omega)).trans (mm _ (by omega) (by omega))).trans m3) ⟨fun _ => ⟨gg, a4.fr (i2 _) (i2 _) (d6.2.2 _ _ (by unfold cLF; omega)) (d8 _ (by omega) (by omega)) (d8 _ (by omega) (by omega)) (d8 _ (by omega) (by omega))⟩, fun z => by omega, fun _ => ⟨(ts ++ new1).length, ?_, ?_, ?_, ?_, d4, d5⟩, fun z => by omega, fun z => by omega, fun z => by omega⟩ (by omega) (by omega) (out_t o (out_t (tg_ts (Nat.le_refl _) hN a5) (cL_ts (Nat.le_refl _) hN d6))) (ol_t q (ol_t (rt_tr a6 (Nat.le_refl _) (Nat.le_refl _) (Nat.le_refl _)) (nr_tr d7 (Nat.le_refl _) (by rw [List.length_append]; omega) a1)))
    · rw [List.length_append]; omega
    · rw [List.length_append (as := ts ++ new1)]; show _ < _ + 1; omega
    · rw [List.length_append (as := ts ++ new1)]; show _ < _ + 1; omega
    · rw [getD_last]; exact d3
  by_cases c6 : v = 6
  · subst c6
    refine RV.vv (A := fn_X12_taken t) (p_tkn (l := 5) (g := 0) (σ := (13, 59) :: σ) h hN (Or.inr (Or.inr (Or.inr (Or.inl rfl)))) (nl 5 (by decide)) n11 (by decide)) (fun p t1 v hv z => (z.p1102 hM5).uv fun t2 z2 => z2.c389 hM5) ?_
    rintro s1 T1 t1 w - - ⟨rfl, -, str, b1, e1, a1, a2, a3, a4, a5, a6, a7, a8⟩
    dsimp only
    rw [p_1102 hM5, Option.bind_some]
    have hbe := h.1.l.2.2.2.2.2
    have i : ∀ f : Nat, f < 5 → s1.I (16 + 3 * N) f = s.I (16 + 3 * N) f := fun f hf => a3.2.1 _ _ (by unfold cLI; omega)
    have mm : ∀ r : Nat, 1098 ≤ r → r ≤ 1101 → (wF t1 1102 M (nI ts.length)).F r M = t.F r M := fun r _ _ => by rw [wF_r (by omega)]; exact a4.2.2.1 _ _ (by unfold rLF; omega)
    refine RV.pre (s := s1) (t := wF t1 1102 M (nI ts.length)) ?_ out_r (ol_F ol_r (by unfold rdF; omega))
    refine a_end (κ := 6) (ts0 := ts) (new0 := [str]) rfl hcn (a2.wF (by omega)) (by omega) ((i _ (by omega)).trans n0) ((mm _ (by omega) (by omega)).trans m0) ((mm _ (by omega) (by omega)).trans m3) ⟨fun z => by omega, fun z => by omega, fun z => by omega, fun _ => ⟨ts.length, Nat.le_refl _, ?_, ?_, rfl, ?_, wF_e _ _ _ _⟩, fun z => by omega, fun z => by omega⟩ (by omega) (by omega) (out_t o (cL_ts (Nat.le_refl _) hN a3)) (ol_F (ol_t q (ol_w a4 (fun k f z => by unfold rLI at z; unfold trI; omega) (fun k f z => by unfold rLF at z; unfold trF; omega) (fun _ _ z => z))) (by unfold trF; omega))
    · rw [List.length_append]; show _ < _ + 1; omega
    · rw [List.length_append]; show _ < _ + 1; omega
    · rw [a6, if_pos rfl]
  by_cases c9 : v ≤ 9
  · unfold cmK; rw [if_neg c2, if_neg c3, if_neg c4, if_neg c5, if_neg c6, if_pos c9]
    unfold stC at h; rw [if_neg (by omega), if_neg c2, if_neg c3, if_neg c4, if_neg c5, if_neg c6, if_pos c9] at h
    refine p_lst (g := 0) (l := 2) (ra := 1102) h hN (Or.inr (Or.inr (Or.inl rfl))) (by simp only [List.length_cons]; omega) hM5 (nl 2 (by decide)) n11 (by decide) (Or.inl rfl) (fun p t1 z => z.c389 hM5) ?_
    rintro s1 T1 t1 ⟨news, bg1, b1, e1, a1, a2, a3, a4, a5, a6, a7, a8, a9, a10, a11, a12, a13⟩
    have hbe := h.1.l.2.2.2.2.2
    have i : ∀ f : Nat, f ≠ 11 → s1.I (16 + 3 * N) f = s.I (16 + 3 * N) f := fun f hf => a12.2.1 _ _ (by unfold cLI; omega)
    have m : ∀ r : Nat, r ≠ 1102 → r ≠ 1103 → r ≠ 1097 → r ≠ 1116 → r ≠ 1117 → t1.F r M = t.F r M := fun r _ _ _ _ _ => a13.2.2.1 _ _ (by unfold rlF rLF; omega)
    refine a_end (κ := v) (ts0 := ts) (new0 := news) rfl hcn a5 hv ((i _ (by omega)).trans n0) ((m _ (by omega) (by omega) (by omega) (by omega) (by omega)).trans m0) ((m _ (by omega) (by omega) (by omega) (by omega) (by omega)).trans m3) ⟨fun z => by omega, fun z => by omega, fun z => by omega, fun z => by omega, fun _ => ⟨ts.length, news.length, a1, a2, by rw [List.length_append]; exact Nat.le_refl _, a8, a9, by rw [txs_new]; exact a10⟩, fun z => by omega⟩ a3 (by omega) (out_t o (cL_ts (Nat.le_refl _) hN a12)) (ol_t q (rl_tr (by omega) a13 (Nat.le_refl _) (Nat.le_refl _) (Nat.le_refl _)))
  · have hv10 : v = 10 := by omega
    subst hv10
    show RV x s t (pd T s) ((fn_X12_absence (nI M) t).bind fun s69 => fb_X12_command_389 R (nI M) s69) _
    unfold fn_X12_absence
    rw [p_1113 hM5, Option.bind_some, p_1104 hM5, Option.bind_some]
    have h' : pj k fr x ts bg b e ((8, N) :: (10, 12 * N + 5) :: (13, 59) :: σ) (N + 1) (M + 1) (cn + 1) ob dp rq T s (wF (wF t 1113 M (-1)) 1104 M (-1)) := (pj.wF (r := 1113) (n := M) (v := -1) h (by omega)).wF (by omega)
    refine RV.pre (s := s) (t := wF (wF t 1113 M (-1)) 1104 M (-1)) ?_ out_r (ol_F (ol_F ol_r (by unfold rdF; omega)) (by unfold rdF; omega))
    have F0 : ∀ r : Nat, r ≠ 1113 → r ≠ 1104 → (wF (wF t 1113 M (-1)) 1104 M (-1)).F r M = t.F r M := fun r _ _ => by rw [wF_r (by omega), wF_r (by omega)]
    have hS : vcS N M 0 ts.length ts.length s (wF (wF t 1113 M (-1)) 1104 M (-1)) := ⟨n5, by decide, fun _ => by show (wF (wF t 1113 M (-1)) 1104 M (-1)).F 1113 M = -1; rw [wF_r (by decide), wF_e], fun z => absurd rfl z, fun _ => ⟨(F0 _ (by omega) (by omega)).trans m13, nl 6 (by decide)⟩, fun z => absurd rfl z, fun _ => ⟨wF_e _ _ _ _, (F0 _ (by omega) (by omega)).trans m5, nl 8 (by decide)⟩, fun z => absurd rfl z, fun _ => ⟨(F0 _ (by omega) (by omega)).trans m14, nl 7 (by decide)⟩, fun z => absurd rfl z⟩
    refine (p_abs hN hM5 (by simp only [List.length_cons]; omega) (x.length + 1) 1000000 ts bg b e T 0 s _ (by omega) (by have := h.bl.2.2; omega) (Nat.le_refl _) h' n0 (nl 5 (by decide)) n11 hS).uv (fun p t1 z => z.c389 hM5) ?_
    rintro s1 T1 t1 - - ⟨news, bg1, b1, e1, gg, a1, a2, a3, a4, a5, a6, a7⟩
    have i : ∀ f : Nat, f < 5 → s1.I (16 + 3 * N) f = s.I (16 + 3 * N) f := fun f hf => a6.2.1 _ _ (by unfold nfI; omega)
    have m : ∀ r : Nat, 1098 ≤ r → r ≤ 1101 → t1.F r M = t.F r M := fun r _ _ => (a7.2.2.1 _ _ (by unfold nrF rLF; omega)).trans (F0 _ (by omega) (by omega))
    exact a_end (κ := 10) (ts0 := ts) (new0 := news) rfl hcn a3 hv ((i _ (by omega)).trans n0) ((m _ (by omega) (by omega)).trans m0) ((m _ (by omega) (by omega)).trans m3) ⟨fun z => by omega, fun z => by omega, fun z => by omega, fun z => by omega, fun z => by omega, fun _ => ⟨gg, a4, a5⟩⟩ a1 (by omega) (out_t o (nd_ts (Nat.le_refl _) hN a6)) (ol_t (ol_F (ol_F q (by unfold trF; omega)) (by unfold trF; omega)) (nr_tr a7 (Nat.le_refl _) (Nat.le_refl _) (Nat.le_refl _)))
