/-! manage: the loop once more, with what a loss leaves of the session -/
def pV (u : Nat) (s t : uS) : Prop := ∃ (v d : Nat) (pc : Bool), s.I (978 + 16 * u) 1 = nI v ∧ t.F 1161 u = nI v ∧ s.I (978 + 16 * u) 6 = nI d ∧ t.F 1162 u = nI d ∧ d ≤ 9 ∧ v < 10 ^ d ∧ s.I (978 + 16 * u) 7 = bI pc ∧ t.F 1163 u = bI pc
theorem pS.V {u : Nat} {s t : uS} (h : pS u s t) : pV u s t := by
  obtain ⟨st, v, d, pc, ⟨a1, a2, a3, a4, a5, a6, a7, a8, a9, a10, a11⟩, -⟩ := h
  exact ⟨v, d, pc, a4, a5, a6, a7, a8, a9, a10, a11⟩
def mDead2 (u : Nat) (s0 t0 s1 t1 : uS) : Prop := ∃ s' t' s'' : uS, pLw u s0 t0 s' t' ∧ pLost s' t' s'' t1 ∧ s1 = c_rst s'' (978 + 16 * u) ∧ pV u s' t'
theorem m_loop2 (PW : parseW) {u N : Nat} (hu : u < 4) (hN : N ≤ 6000) {bs : List Nat} (h8 : bys bs) (hbs : N ≤ bs.length) {s0 t0 : uS} (hs0 : 1171 ≤ s0.n) (ht0 : 1171 ≤ t0.n) (hcb : ∀ i : Nat, i < N → s0.F 1 i = sb (bs.getD i 0)) (hrb : ∀ i : Nat, i < N → t0.F 1080 i = nI (bs.getD i 0)) {Bn Bm : Nat} (hBn : Bn + 3 ≤ 600000) (hBm : Bm + 2030 ≤ 7302250) : ∀ (n i : Nat) (s t : uS), N + 1 < i + n → i ≤ N → pLw u s0 t0 s t → lsO t → pS u s t → mRoom u s (N - i) Bn Bm → ∃ (s1 t1 : uS) (k : Nat), fn_X11_manage_40 n (nI u) (nI N) (978 + 16 * u) (nI i) s = some (wI s1 0 9 0, nI k) ∧ fn_X12_manage_37 n (nI u) (nI N) (nI i) t = some (t1, nI k) ∧ lsO t1 ∧ (pLw u s0 t0 s1 t1 ∧ pS u s1 t1 ∧ mRoom u s1 0 Bn Bm ∨ mDead2 u s0 t0 s1 t1 ∧ s1.n ≤ Bn ∧ s1.m ≤ Bm) := by
  intro n
  have hu5 : u < 5 := by omega
  induction n with
  | zero => intro i s t a b; omega
  | succ n ih =>
    intro i s t a b hl hls hp hr
    obtain ⟨ws, w1, w2, w3, w4⟩ := hr
    unfold fn_X11_manage_40 fb_X11_manage_40 fn_X12_manage_37 fb_X12_manage_37
    by_cases c : N ≤ i
    · rw [if_pos (nI_le c (by omega)), if_pos (nI_le c (by omega)), show i = N by omega]
      exact ⟨s, t, N, rfl, rfl, hls, Or.inl ⟨hl, hp, ws, w1, w2, by omega, by omega⟩⟩
    · have hpw : ¬ s.I 0 16 = 0 := by
        obtain ⟨dy, cm, ct, z, -⟩ := hl.1
        rw [z.1]; decide
      have hb := h8 i
      have hfs : s.F 1 i = sb (bs.getD i 0) := by
        rw [hl.2.2.2.1.2.2.2.2.1 1 i (by omega) (by have := (qk_lt hu5).1; unfold mgF cmF qC sPl; omega)]
        exact hcb i (by omega)
      have hft : t.F 1080 i = nI (bs.getD i 0) := by
        rw [hl.2.2.2.2.1.2.2.1 1080 i (by unfold mrF rmF scF qR rPl; omega)]
        exact hrb i (by omega)
      rw [if_neg (nI_ge (by omega) (by omega)), if_neg (show ¬ (6000 : Int32) ≤ nI i from nI_ge (show i < 6000 by omega) (by decide)), if_neg hpw, if_neg (nI_ge (by omega) (by omega)), g_1 (show i < 6000 by omega), Option.bind_some, hfs, sb_and hb, g_1080 (show i < 6000 by omega), Option.bind_some, hft]
      have hnr : 1171 ≤ s.n ∧ s.n + 3 ≤ 600000 ∧ s.m + 2030 ≤ 7302250 := ⟨by have := hl.2.2.2.1.1; omega, by omega, by omega⟩
      rcases s_step (b := bs.getD i 0) hu hb hp with ⟨s1, t1, e1, e2, e3, e4, e5⟩ | ⟨e1, e2, v, d, pc, w, ps, bg, ea, ew, ed, eo⟩ | ⟨e1, e2, st, v, d, pc, ea⟩
      · -- on
        have hws := ws_take e1
        rw [e1, e2, Option.bind_some, Option.bind_some]
        have hroom : mRoom u s1 (N - (i + 1)) Bn Bm := by
          have e6 : s1.n = s.n := e3.1.2.2.2.2.1
          have e7 : s1.m = s.m := e3.1.2.2.2.2.2
          rcases hws with z | ⟨z, z2⟩
          · exact ⟨ws, w1, z.trans w2, by omega, by omega⟩
          · rw [w2] at z z2
            have z3 : ws < 13 := by
              apply Classical.byContradiction
              intro q
              exact z2 (nI_le (show 13 ≤ ws by omega) (by omega))
            have zz : s1.I (978 + 16 * u) 4 = nI (ws + 1) := by rw [← nI_1]; exact z
            refine ⟨ws + 1, by omega, zz, ?_, ?_⟩
            · rw [e6]; omega
            · rw [e7]
              have q1 : N - i = N - (i + 1) + 1 := by omega
              rw [q1] at w4
              generalize N - (i + 1) = d at w4 ⊢
              rw [Nat.mul_add, Nat.mul_one]
              rw [Nat.mul_add, Nat.mul_one] at w4
              generalize 450 * d = D at w4 ⊢
              generalize 450 * ws = W at w4 ⊢
              have q2 : s.m + D + (W + 450) = s.m + (D + 450) + W := by rw [Nat.add_assoc, Nat.add_assoc, Nat.add_assoc, Nat.add_comm 450 W]
              rw [q2]; exact w4
        obtain ⟨s2, t2, k, r1, r2, r3⟩ := ih (i + 1) s1 t1 (by omega) (by omega) (hl.go hu hs0 e3 e4) (hls.F2 (funext fun f => e4.2.2 _ _ (by unfold rPl; omega)) (funext fun f => e4.2.2 _ _ (by unfold rPl; omega))) e5 hroom
        refine ⟨s2, t2, k, ?_, ?_, r3⟩
        · show (if (0 : Int32) = 1 then _ else (if (0 : Int32) = 2 then _ else fn_X11_manage_40 n (nI u) (nI N) (978 + 16 * u) (nI i + 1) s1)) = _
          rw [if_neg (by decide), if_neg (by decide), nI_1]
          exact r1
        · show (if true = true then fn_X12_manage_37 n (nI u) (nI N) (nI i + 1) t1 else _) = _
          rw [if_pos rfl, nI_1]
          exact r2
      · -- a command
        rw [e1, e2, Option.bind_some]
        obtain ⟨cc, s1, t1, bb, m1, m2, m3, m4, m5, mL⟩ := m_cmd PW hu ew ed eo (hl.cx hu ea ed hnr) hls (by rw [hl.2.2.2.2.1.1.2.2.2.1]; exact ht0)
        have hwl := ew.2.2.1
        have hw21 := ew.1
        have hws : ws = min 13 w.length := by
          rw [w2, nI_eq (by omega) (by omega)] at hwl
          exact hwl
        obtain ⟨m6, m7, m8⟩ := m4
        have hn1 : s1.n ≤ Bn - (N - (i + 1)) ∧ s1.m ≤ Bm - 450 * (N - (i + 1)) := by rcases m5 with z | z <;> constructor <;> omega
        show ∃ (s1 t1 : uS) (k : Nat), (if (1 : Int32) = 1 then ((fn_X8_command (978 + 16 * u) s).bind fun v18 => (fn_X11_execute (nI u) v18 s).bind fun s20 => (fn_X8_reset (978 + 16 * u) s20).bind fun s22 => fn_X11_manage_40 n (nI u) (nI N) (978 + 16 * u) (nI i + 1) s22) else _) = some (wI s1 0 9 0, nI k) ∧ _ ∧ _
        rw [if_pos rfl, m1, Option.bind_some, m2, Option.bind_some, c_reset, Option.bind_some, m3, Option.bind_some, nI_1]
        rcases m6 with ⟨z1, z2⟩ | ⟨z1, s', t', z2, z3⟩
        · subst z1
          have hl1 := (hl.mid (frs_out t) z2).go hu hs0 (rst_out (K := 978 + 16 * u) s1) (out_r (s := t1))
          obtain ⟨-, -, -, z4, z5, -⟩ := z2
          have hkI : ∀ f : Nat, s1.I (978 + 16 * u) f = s.I (978 + 16 * u) f := fun f => z4.2.2.2.1 _ f (by omega) (by have := qk_u hu; unfold cmI qC; omega)
          have hkF : ∀ k : Nat, 1156 ≤ k → k ≤ 1166 → t1.F k u = (r_frs t u).F k u := fun k h1 h2 => z5.2.2.1 k u (by unfold rmF scF qR; omega)
          obtain ⟨y1, y2, y3, y4⟩ := frs_z (u := u) t
          have hp1 : pS u (c_rst s1 (978 + 16 * u)) t1 := by
            refine pS_new hu ea (hkI _) (hkI _) (hkI _) ?_ ?_ ?_ ?_ ?_ ?_ ?_
            · rw [hkF _ (by decide) (by decide), frs_F (by decide) (by decide) (by decide) (by decide)]
            · rw [hkF _ (by decide) (by decide), frs_F (by decide) (by decide) (by decide) (by decide)]
            · rw [hkF _ (by decide) (by decide), frs_F (by decide) (by decide) (by decide) (by decide)]
            · rw [hkF _ (by decide) (by decide)]; exact y1
            · rw [hkF _ (by decide) (by decide)]; exact y2
            · rw [hkF _ (by decide) (by decide)]; exact y3
            · rw [hkF _ (by decide) (by decide)]; exact y4
          obtain ⟨s2, t2, k, r1, r2, r3⟩ := ih (i + 1) (c_rst s1 (978 + 16 * u)) t1 (by omega) (by omega) hl1 mL hp1 ⟨0, by omega, rst_ws _, by rw [(rst_nm _ _).1]; omega, by rw [(rst_nm _ _).2]; omega⟩
          exact ⟨s2, t2, k, r1, r2, r3⟩
        · subst z1
          have hpV : pV u s' t' := by
            obtain ⟨-, -, -, z4, z5, -⟩ := z2
            have hkI : ∀ f : Nat, s'.I (978 + 16 * u) f = s.I (978 + 16 * u) f := fun f => z4.2.2.2.1 _ f (by omega) (by have := qk_u hu; unfold cmI qC; omega)
            have hkF : ∀ k : Nat, 1156 ≤ k → k ≤ 1166 → t'.F k u = (r_frs t u).F k u := fun k h1 h2 => z5.2.2.1 k u (by unfold rmF scF qR; omega)
            obtain ⟨x1, x2, x3, x4, x5, x6, x7, x8, x9, x10, x11⟩ := ea
            refine ⟨v, d, pc, (hkI _).trans x4, ?_, (hkI _).trans x6, ?_, x8, x9, (hkI _).trans x10, ?_⟩
            · rw [hkF _ (by decide) (by decide), frs_F (by decide) (by decide) (by decide) (by decide)]; exact x5
            · rw [hkF _ (by decide) (by decide), frs_F (by decide) (by decide) (by decide) (by decide)]; exact x7
            · rw [hkF _ (by decide) (by decide), frs_F (by decide) (by decide) (by decide) (by decide)]; exact x11
          refine ⟨c_rst s1 (978 + 16 * u), t1, i + 1, ?_, rfl, mL, Or.inr ⟨⟨s', t', s1, hl.mid (frs_out t) z2, z3, rfl, hpV⟩, by rw [(rst_nm _ _).1]; omega, by rw [(rst_nm _ _).2]; omega⟩⟩
          cases n with
          | zero => omega
          | succ n =>
            unfold fn_X11_manage_40 fb_X11_manage_40
            have h16 : (c_rst s1 (978 + 16 * u)).I 0 16 = 0 := by
              rw [(rst_out (K := 978 + 16 * u) s1).2.1 0 16 (by unfold sPl; omega), z3.2.1]
              exact lose_pw _
            by_cases q : nI N ≤ nI (i + 1)
            · rw [if_pos q]
            · rw [if_neg q]
              by_cases q2 : (6000 : Int32) ≤ nI (i + 1)
              · rw [if_pos q2]
              · rw [if_neg q2, if_pos h16]
      · -- a fault of form
        rw [e1, e2, Option.bind_some]
        obtain ⟨s1, t1, q1, q2, q3⟩ := q_no (w := kW_0) hu5 (by decide) hl.2.1
        have hl1 : pLw u s0 t0 s1 t1 := by
          obtain ⟨⟨dy, cm, ct, h1, h2⟩, -, ⟨scs, ac, ⟨es, h4⟩, sl, h5⟩, h6, h7, h8⟩ := hl
          obtain ⟨g1, g2, g3⟩ := q3
          have hq := qk_u hu
          refine ⟨⟨dy, cm, ct, ?_, ?_⟩, g1, ⟨scs, ac, ⟨es, ?_⟩, sl, ?_⟩, oc_t h6 (oc_w (oc_out g2) (fun k f h => Or.inl (Or.inr (Or.inr (Or.inl h)))) (fun k f h => Or.inl (Or.inr h)) (fun _ _ h => h) (fun _ _ h => h)), ol_t h7 (ol_w (ol_out g3) (fun _ _ h => h.elim) (fun _ _ h => Or.inl (Or.inr (Or.inl h))) (fun _ _ h => h)), fun k hk z => h8 k hk (z.fr (g2.2.1 _ _ (by unfold qC; omega)) (by rw [g2.1.2.2.2.1]))⟩
          · obtain ⟨a1, a2, a3, a4, a5⟩ := h1
            exact ⟨(g2.2.1 _ _ (by unfold qC; omega)).trans a1, (g2.2.1 _ _ (by unfold qC; omega)).trans a2, (g2.2.1 _ _ (by unfold qC; omega)).trans a3, (g2.2.1 _ _ (by unfold qC; omega)).trans a4, a5⟩
          · obtain ⟨a1, a2, a3, a4, a5⟩ := h2
            exact ⟨(g3.2.1 _ _ (fun h => h)).trans a1, (g3.2.1 _ _ (fun h => h)).trans a2, (g3.2.1 _ _ (fun h => h)).trans a3, (g3.2.1 _ _ (fun h => h)).trans a4, a5⟩
          · refine h4.fr (Nat.le_of_eq g2.1.2.2.2.2.1.symm) (fun k _ => by rw [g2.1.1]) (g2.2.1 _ _ (by unfold qC; omega)) (by rw [g2.1.2.2.2.1]) (by rw [g2.1.2.1]) (fun i hi => by rw [g2.1.2.1]) (fun k hk _ => funext fun f => g2.2.2 _ _ (by unfold qC; omega))
          · exact h5.fr (g3.2.2 _ _ (by unfold qR; omega)) (g3.2.2 _ _ (by unfold qR; omega)) (fun f _ _ => ⟨g3.2.2 _ _ (by unfold qR; omega), g3.2.2 _ _ (by unfold qR; omega), g3.2.2 _ _ (by unfold qR; omega)⟩) (fun f _ _ => g3.2.2 _ _ (by unfold qR; omega)) (fun f _ _ => by rw [g3.1.2.2.1])
        have o2 := q3.2.1
        have o3 := q3.2.2
        have hq := qk_u hu
        have hl2 := hl1.go hu hs0 (rst_out (K := 978 + 16 * u) s1) (frs_out t1)
        have hkI : ∀ f : Nat, s1.I (978 + 16 * u) f = s.I (978 + 16 * u) f := fun f => o2.2.1 _ f (by unfold qC; omega)
        have hkF : ∀ k : Nat, 1156 ≤ k → k ≤ 1166 → t1.F k u = t.F k u := fun k h1 h2 => o3.2.2 k u (by unfold qR; omega)
        obtain ⟨y1, y2, y3, y4⟩ := frs_z (u := u) t1
        have hp1 : pS u (c_rst s1 (978 + 16 * u)) (r_frs t1 u) := by
          refine pS_new hu ea (hkI _) (hkI _) (hkI _) ?_ ?_ ?_ y1 y2 y3 y4
          · rw [frs_F (by decide) (by decide) (by decide) (by decide), hkF _ (by decide) (by decide)]
          · rw [frs_F (by decide) (by decide) (by decide) (by decide), hkF _ (by decide) (by decide)]
          · rw [frs_F (by decide) (by decide) (by decide) (by decide), hkF _ (by decide) (by decide)]
        obtain ⟨s2, t2, k, r1, r2, r3⟩ := ih (i + 1) (c_rst s1 (978 + 16 * u)) (r_frs t1 u) (by omega) (by omega) hl2 (hls.F2 (funext fun f => by rw [frs_F (by decide) (by decide) (by decide) (by decide)]; exact o3.2.2 _ _ (by unfold qR; omega)) (funext fun f => by rw [frs_F (by decide) (by decide) (by decide) (by decide)]; exact o3.2.2 _ _ (by unfold qR; omega))) hp1 ⟨0, by omega, rst_ws _, by rw [(rst_nm _ _).1, o2.1.2.2.2.2.1]; omega, by rw [(rst_nm _ _).2, o2.1.2.2.2.2.2]; omega⟩
        refine ⟨s2, t2, k, ?_, ?_, r3⟩
        · show (if (2 : Int32) = 1 then _ else (if (2 : Int32) = 2 then ((pgt 24 s 2 (nI u)).bind fun j10 => if uSo j10 5 then ((fn_X5_refusal j10 kW_0 s).bind fun s14 => (fn_X8_reset (978 + 16 * u) s14).bind fun s16 => fn_X11_manage_40 n (nI u) (nI N) (978 + 16 * u) (nI i + 1) s16) else none) else _)) = _
          rw [if_neg (by decide), if_pos rfl, pgt_que hu5, Option.bind_some, if_pos (so_que hu5), q1, Option.bind_some, c_reset, Option.bind_some, nI_1]
          exact r1
        · rw [show kW_201 = kW_0 from rfl, q2, Option.bind_some, r_fresh hu, Option.bind_some, Option.bind_some]
          show (if true = true then fn_X12_manage_37 n (nI u) (nI N) (nI i + 1) (r_frs t1 u) else _) = _
          rw [if_pos rfl, nI_1]
          exact r2
