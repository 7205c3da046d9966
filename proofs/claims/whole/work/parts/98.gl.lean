/-! the store of the class: new mailboxes, the letter and its note -/
theorem c_21 {x1 : Int32} {u bg : Nat} {nb : List Nat} {bx ts1 : List (List Nat)} (hu : u < 4) (hL : ∀ j ∈ nb, j < ts1.length ∧ (ts1.getD j []).length ≤ 20) (h6 : bx.length + nb.length ≤ 6) : ∀ (d N k bgk : Nat) (s : uS), k + d = nb.length → d + 1 ≤ N → cNb s nb → (nb = [] ∨ cTz s 8 2000 301 ts1 bg []) → cTz s (988 + 16 * u) 120 6 (bx ++ nmL ts1 (nb.take k)) bgk [] → bgk ≤ 20 * (bx.length + k) → ∃ (s1 : uS) (bg1 : Nat), fn_X11_storePlan_21 N x1 (985 + 16 * u) (nI k) s = ((fn_J7_copyOf_9075b 1051 (s1.I 1042 3) s1).bind fun r2 => fn_X11_storePlan_79 uFu x1 (985 + 16 * u) r2.2 0 r2.1) ∧ cTz s1 (988 + 16 * u) 120 6 (bx ++ nmL ts1 nb) bg1 [] ∧ bg1 ≤ 20 * (bx.length + nb.length) ∧ out (tI (988 + 16 * u)) (tF (988 + 16 * u)) s s1 := by
  intro d
  induction d with
  | zero =>
    intro N k bgk s h1 h2 hN hS hB hb
    obtain ⟨M, rfl⟩ : ∃ M, N = M + 1 := ⟨N - 1, by omega⟩
    have hn6 := hN.2.1
    rw [List.take_of_length_le (by omega)] at hB
    refine ⟨s, bgk, ?_, hB, by omega, out_r⟩
    show fb_X11_storePlan_21 (fn_X11_storePlan_21 M) x1 (985 + 16 * u) (nI k) s = _
    unfold fb_X11_storePlan_21
    rw [hN.1, if_pos (nI_le (by omega) (by omega))]
  | succ d ih =>
    intro N k bgk s h1 h2 hN hS hB hb
    obtain ⟨M, rfl⟩ : ∃ M, N = M + 1 := ⟨N - 1, by omega⟩
    have hn6 := hN.2.1
    have hkl : k < nb.length := by omega
    have hS' : cTz s 8 2000 301 ts1 bg [] := hS.resolve_left (fun z => by rw [z] at hkl; exact absurd hkl (Nat.not_lt_zero _))
    have f1 := hN.2.2 k hkl
    have hgk : nb.getD k 0 = nb[k] := by rw [List.getD_eq_getElem?_getD, List.getElem?_eq_getElem hkl]; rfl
    have hmem : nb.getD k 0 ∈ nb := by rw [hgk]; exact List.getElem_mem hkl
    obtain ⟨l1, l2⟩ := hL _ hmem
    have hlen : (bx ++ nmL ts1 (nb.take k)).length = bx.length + k := by
      rw [List.length_append]
      unfold nmL
      rw [List.length_map, List.length_take]
      omega
    obtain ⟨s1, a1, a2, a3⟩ := tz_addFrom (i := nb.getD k 0) (uTx_bx hu) uTx_str hB hS' l1 (by omega) (by omega) (by omega)
    have et : nb.take (k + 1) = nb.take k ++ [nb.getD k 0] := by rw [List.take_succ, List.getElem?_eq_getElem hkl, hgk]; rfl
    have e2 : bx ++ nmL ts1 (nb.take k) ++ [ts1.getD (nb.getD k 0) []] = bx ++ nmL ts1 (nb.take (k + 1)) := by
      rw [et]
      unfold nmL
      rw [List.map_append, List.append_assoc]
      rfl
    rw [e2] at a2
    have hN1 : cNb s1 nb := ⟨(a3.2.1 _ _ (by unfold tI; omega)).trans hN.1, hN.2.1, fun i hi => (a3.2.2 _ _ (by unfold tF; omega)).trans (hN.2.2 i hi)⟩
    have hS1 : cTz s1 8 2000 301 ts1 bg [] := hS'.o a3 (fun _ => by unfold tI; omega) (fun _ => by unfold tF; omega) (fun _ => by unfold tF; omega) (fun _ => by unfold tF; omega)
    obtain ⟨s2, bg2, b1, b2, b3, b4⟩ := ih M (k + 1) (bgk + (ts1.getD (nb.getD k 0) []).length) s1 (by omega) (by omega) hN1 (Or.inr hS1) a2 (by omega)
    refine ⟨s2, bg2, ?_, b2, b3, out_t a3 b4⟩
    show fb_X11_storePlan_21 (fn_X11_storePlan_21 M) x1 (985 + 16 * u) (nI k) s = _
    unfold fb_X11_storePlan_21
    rw [hN.1, if_neg (nI_ge hkl (by omega)), g_1073 (by omega), Option.bind_some, f1, show 985 + 16 * u + 3 = 988 + 16 * u by omega, a1, Option.bind_some, nI_1]
    exact b1
/-- the letter goes out -/
theorem c_let {s : uS} {ms : List aM} {p k2 k4 M : Nat} {snd x : List Nat} {D : List Nat} (hn : 1171 ≤ s.n) (hn2 : s.n + 3 ≤ 600000) (hm2 : s.m + snd.length + x.length + 6 ≤ 7302250) (hD : cDi s D) (h8 : s.I 1070 8 = 1) (hs : cTz s 1043 101 1 [snd] snd.length []) (hx : cTz s 1075 6000 1 [] 0 x) (hM : cMl s ms p) (hl : ms.length < 400) : ∃ s12 : uS, fn_X11_storePlan_156 (M + 1) k2 k4 (nI D.length) s = ((s12.R 1070 9).elim (some s12) (fun j14 => if uSo j14 3 then ((s12.R 1070 9).elim (none) (fun j15 => if uSo j15 3 then ((fn_X3_handle j15 s12).bind fun v16 => (fn_X9_copyOf 8 v16 s12).bind fun r18 => (fn_X10_addNote k2 s.n r18.2 (r18.1.I 0 13) r18.1).bind fun s20 => some s20) else none)) else none)) ∧ cMl s12 (ms ++ [oMl snd x]) (p + x.length) ∧ cBn s12 s.n snd ∧ oc smI rNo rNo smP s s12 ∧ s12.n = s.n + 3 ∧ s12.m = s.m + snd.length + x.length + 6 := by
  have hD4 := hD.2.1
  obtain ⟨s1, a1, a2, a3, a4, a5⟩ := c_copyOf (i := 0) uTx_sn hs (Nat.succ_pos _) hn (by omega) (by show s.m + snd.length ≤ _; omega)
  have a3' : s1.m = s.m + snd.length := a3
  have a4' : cBn s1 s.n snd := a4
  have o1 : oc rNo rNo rNo rNo s s1 := a5 _ _ _ _
  have hn1 : 1171 ≤ s1.n := Nat.le_trans hn o1.1
  obtain ⟨s2, hs2⟩ : ∃ s2, s2 = nw s1 1 0 6 := ⟨_, rfl⟩
  have o2 : oc rNo rNo rNo rNo s1 s2 := by rw [hs2]; exact oc_nw oc_r
  have n2 : s2.n = s1.n + 1 ∧ s2.m = s1.m + 6 := by rw [hs2]; exact ⟨rfl, rfl⟩
  have o12 := oc_t o1 o2
  have hn2' : 1171 ≤ s2.n := Nat.le_trans hn o12.1
  have hx2 : cTz s2 1075 6000 1 [] 0 x := hx.oc o12 (by omega) (fun _ z => z) (fun _ _ _ _ z => z)
  obtain ⟨x1, x2, x3, x4, x5, x6, x7, -⟩ := hx2
  rw [Nat.zero_add] at x4 x5
  obtain ⟨s3, b1, b2, b3, b4, b5⟩ := c_cpy9 (s := s2) (k := 1076) (cap := 6000) (x := x) (by decide) (by decide) (by decide) (fun j hj => by have := x7 j hj; rw [Nat.zero_add] at this; exact this) x6 x5 hn2' (by omega) (by omega)
  have o3 : oc rNo rNo rNo rNo s2 s3 := b5 _ _ _ _
  have o13 := oc_t o12 o3
  have hM3 : cMl s3 ms p := hM.oc o13 hn low_no low_no low_no (fun z => z) (fun z => z) (fun z => z) (fun _ z => z)
  have hc3 : s3.c s1.n = (1, 0) := by rw [o3.2.1 s1.n (by omega), hs2]; exact nw_c s1 1 0 6
  have i3 : ∀ f : Nat, s3.I s1.n f = 0 := by
    intro f
    rw [o3.2.2.2.1 s1.n f (by omega) (fun z => z), hs2, nw_I, if_pos rfl]
  have hfr : ∀ i : Nat, i < ms.length → s3.P 5 i ≠ some s1.n := by
    intro i hi
    rw [o13.2.2.2.2.2.2 5 i (by omega) (fun z => z)]
    exact hM.fresh (by omega) i hi
  have hsb3 : cBn s3 s.n snd := (a4'.oc o2 (fun _ z => z)).oc o3 (fun _ z => z)
  obtain ⟨s4, c1, c2, c3, c4, c5⟩ := c_outM (e := s1.n) (lb := s.n) (k4 := s2.n) hM3 hn1 (by omega) hc3 (i3 3) (i3 4) hl hsb3 b4 hfr
  have o4 : oc smI rNo rNo smP s s4 := by
    have z1 : oc (fun k f => smI k f ∨ k = s1.n) rNo (fun k _ => k = s1.n) smP s s4 := oc_t (oc_w o13 (fun _ _ z => z.elim) (fun _ _ z => z) (fun _ _ z => z.elim) (fun _ _ z => z.elim)) c3
    obtain ⟨y1, y2, y3, y4, y5, y6, y7⟩ := z1
    exact ⟨y1, y2, y3, fun k f hk hz => y4 k f hk (fun w => w.elim hz (fun w => by omega)), y5, fun k f hk hz => y6 k f hk (fun w => by omega), y7⟩
  refine ⟨s4, ?_, c2, hsb3.oc c3 (fun _ z => z), o4, by omega, by omega⟩
  show fb_X11_storePlan_156 (fn_X11_storePlan_156 M) k2 k4 (nI D.length) s = _
  unfold fb_X11_storePlan_156
  have a1' : fn_X9_copyOf 1043 0 s = some (s1, s.n) := a1
  rw [hD.1, if_pos (nI_le (Nat.le_refl _) (by omega)), h8, if_neg (by decide), a1', Option.bind_some]
  dsimp only
  rw [nent_c (by omega) (by omega), Option.bind_some, ← hs2, x4, b1, Option.bind_some]
  dsimp only
  have his : uIs s3 s1.n 1 := uIs_oc o3 (by omega) hn1 (by rw [hs2, nw_c])
  rw [if_pos (show ¬ s.n = 0 by omega), X1_c his, Option.bind_some]
  rw [show wR (wR (wI s3 s1.n 2 (-1)) s1.n 0 (some s.n)) s1.n 1 (some s2.n) = ent s3 s1.n s.n s2.n from rfl, c1, Option.bind_some]
