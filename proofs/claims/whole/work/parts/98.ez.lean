/-! plans: the mailboxes that a script would make; boxOf of the class -/
def nbf (bx ts : List (List Nat)) (p : Option Nat × Nat) : Option Nat := match bxN bx (fky ts p.1) with
  | some _ => none
  | none => p.1
def nbsF (bx ts : List (List Nat)) (F : List (Option Nat × Nat)) : List Nat := F.filterMap (nbf bx ts)
def nmL (ts : List (List Nat)) (nb : List Nat) : List (List Nat) := nb.map (fun j => ts.getD j [])
def abxF (bx ts : List (List Nat)) (F : List (Option Nat × Nat)) : List (List Nat) := bx ++ nmL ts (nbsF bx ts F)
def cfF (bx ts : List (List Nat)) (F : List (Option Nat × Nat)) : List (Nat × Nat) := F.map (fun p => ((bxN (abxF bx ts F) (fky ts p.1)).getD 0, p.2))
theorem nbs_n {bx ts : List (List Nat)} {F : List (Option Nat × Nat)} {p : Option Nat × Nat} (h : nbf bx ts p = none) : nbsF bx ts (F ++ [p]) = nbsF bx ts F := by
  unfold nbsF
  rw [List.filterMap_append, List.filterMap_cons, h]
  simp
theorem nbs_s {bx ts : List (List Nat)} {F : List (Option Nat × Nat)} {p : Option Nat × Nat} {j : Nat} (h : nbf bx ts p = some j) : nbsF bx ts (F ++ [p]) = nbsF bx ts F ++ [j] := by
  unfold nbsF
  rw [List.filterMap_append, List.filterMap_cons, h]
  simp
theorem bxN_lt {l : List (List Nat)} {k : Option (List Nat)} {b : Nat} (h0 : 0 < l.length) (h : bxN l k = some b) : b < l.length := by
  cases k with
  | none =>
    have h' : (some 0 : Option Nat) = some b := h
    have := Option.some.inj h'
    omega
  | some w =>
    have h' : fndI l w 0 = some b := h
    have := fndI_lt h'
    omega
theorem fky_n {bx ts : List (List Nat)} {x : Option Nat} (h : bxN bx (fky ts x) = none) : ∃ j : Nat, x = some j ∧ fky ts x = some (ts.getD j []) := by
  cases x with
  | none =>
    have h' : (some 0 : Option Nat) = none := h
    cases h'
  | some j =>
    refine ⟨j, rfl, ?_⟩
    show (if eqW (ts.getD j []) kW_142 = true then none else some (ts.getD j [])) = _
    by_cases c : eqW (ts.getD j []) kW_142 = true
    · have e : fky ts (some j) = none := if_pos c
      rw [e] at h
      have h' : (some 0 : Option Nat) = none := h
      cases h'
    · exact if_neg c
theorem nbs_mem {bx ts : List (List Nat)} {F : List (Option Nat × Nat)} {p : Option Nat × Nat} (hp : p ∈ F) (h : bxN bx (fky ts p.1) = none) : ∃ j : Nat, p.1 = some j ∧ fky ts p.1 = some (ts.getD j []) ∧ ts.getD j [] ∈ nmL ts (nbsF bx ts F) := by
  obtain ⟨j, e1, e2⟩ := fky_n h
  refine ⟨j, e1, e2, ?_⟩
  unfold nmL nbsF
  refine List.mem_map.mpr ⟨j, List.mem_filterMap.mpr ⟨p, hp, ?_⟩, rfl⟩
  unfold nbf
  rw [h]
  exact e1
theorem fky_res {bx ts : List (List Nat)} {F : List (Option Nat × Nat)} {p : Option Nat × Nat} (h0 : 0 < bx.length) (hp : p ∈ F) : ∃ b : Nat, bxN (abxF bx ts F) (fky ts p.1) = some b ∧ b < (abxF bx ts F).length := by
  have hl : 0 < (abxF bx ts F).length := by unfold abxF; rw [List.length_append]; omega
  cases h : bxN bx (fky ts p.1) with
  | some b =>
    have e : bxN (abxF bx ts F) (fky ts p.1) = some b := bxN_app h
    exact ⟨b, e, bxN_lt hl e⟩
  | none =>
    obtain ⟨j, e1, e2, e3⟩ := nbs_mem hp h
    cases h2 : bxN (abxF bx ts F) (fky ts p.1) with
    | some b => exact ⟨b, rfl, bxN_lt hl h2⟩
    | none =>
      rw [e2] at h2
      have h3 : fndI (abxF bx ts F) (ts.getD j []) 0 = none := h2
      have h4 : ts.getD j [] ∈ abxF bx ts F := List.mem_append_right _ e3
      exact absurd h4 (fndI_no.mp h3)
/-- a new name that is there has come from what was filed -/
theorem nbs_of {bx ts : List (List Nat)} {F : List (Option Nat × Nat)} {w : List Nat} (hw : w ∈ nmL ts (nbsF bx ts F)) : ∃ p ∈ F, fky ts p.1 = some w := by
  unfold nmL nbsF at hw
  obtain ⟨j, h1, h2⟩ := List.mem_map.mp hw
  obtain ⟨p, h3, h4⟩ := List.mem_filterMap.mp h1
  refine ⟨p, h3, ?_⟩
  unfold nbf at h4
  cases h : bxN bx (fky ts p.1) with
  | some b => rw [h] at h4; cases h4
  | none =>
    obtain ⟨i, e1, e2⟩ := fky_n h
    rw [h] at h4
    have h5 : p.1 = some j := h4
    rw [e1] at h5
    rw [e2, ← h2, Option.some.inj h5]
theorem dropL {l : List (List Nat)} {i : Nat} (h : i < l.length) : l.drop i = l.getD i [] :: l.drop (i + 1) := by
  rw [List.drop_eq_getElem_cons h, List.getD_eq_getElem?_getD, List.getElem?_eq_getElem h]
  rfl
theorem uTx_bx {u : Nat} (hu : u < 4) : uTx (988 + 16 * u) 120 6 := by
  have : ∀ u, u < 4 → (988 + 16 * u + 3 < 1171 ∧ ucl (988 + 16 * u + 1) = (21, 120) ∧ ucl (988 + 16 * u + 2) = (20, 6) ∧ ucl (988 + 16 * u + 3) = (20, 6) ∧ 120 ≤ 10000 ∧ 6 ≤ 10000) := by decide +kernel
  exact this u hu
/-- a mailbox that isn't there -/
def bEnd (x1 : Int32) (s : uS) : Option (uS × Int32) := (s.R 1070 11).bind fun j2 => if uSo j2 10 then (if ((s.I (j2 + 3) 3) + (s.I 1070 6)) < 6 then ((iput 20 s 1073 (s.I 1070 6) x1).bind fun s6 => ((wI s6 1070 6 ((s6.I 1070 6) + 1)).R 1070 11).bind fun j8 => if uSo j8 10 then (some (wI s6 1070 6 ((s6.I 1070 6) + 1), (((wI s6 1070 6 ((s6.I 1070 6) + 1)).I (j8 + 3) 3) + ((wI s6 1070 6 ((s6.I 1070 6) + 1)).I 1070 6)) - 1)) else none) else ((fn_X7_fail s).bind fun s11 => some (s11, (-1 : Int32)))) else none
def bRes (o : Option Nat) (j : Nat) (s : uS) : Option (uS × Int32) := match o with
  | some b => some (s, nI b)
  | none => bEnd (nI j) s
theorem c_box80 {s : uS} {u bg bgx j : Nat} {ts1 bx : List (List Nat)} {nb : List Nat} (hu : u < 4) (hs : cTz s 8 2000 301 ts1 bg []) (hb : cTz s (988 + 16 * u) 120 6 bx bgx []) (hR : s.R 1070 11 = some (985 + 16 * u)) (hn : cNb s nb) (hnl : ∀ k : Nat, k < nb.length → nb.getD k 0 < ts1.length) (hj : j < ts1.length) : ∀ (d N q : Nat), q + d = nb.length → d + 1 ≤ N → fn_X7_boxOf_80 N (nI j) (nI q) s = bRes (fndI (nmL ts1 (nb.drop q)) (ts1.getD j []) (bx.length + q)) j s := by
  obtain ⟨n1, n2, n3⟩ := hn
  intro d
  induction d with
  | zero =>
    intro N q hq hN
    obtain ⟨M, rfl⟩ : ∃ M, N = M + 1 := ⟨N - 1, by omega⟩
    have hd : nb.drop q = [] := List.drop_eq_nil_of_le (by omega)
    rw [hd]
    show fb_X7_boxOf_80 (fn_X7_boxOf_80 M) (nI j) (nI q) s = bEnd (nI j) s
    unfold fb_X7_boxOf_80
    rw [if_pos (by rw [n1]; exact nI_le (by omega) (by omega))]
    rfl
  | succ d ih =>
    intro N q hq hN
    obtain ⟨M, rfl⟩ : ∃ M, N = M + 1 := ⟨N - 1, by omega⟩
    have hlt : q < nb.length := by omega
    rw [dropN hlt]
    show fb_X7_boxOf_80 (fn_X7_boxOf_80 M) (nI j) (nI q) s = bRes (if ts1.getD (nb.getD q 0) [] = ts1.getD j [] then some (bx.length + q) else fndI (nmL ts1 (nb.drop (q + 1))) (ts1.getD j []) (bx.length + q + 1)) j s
    unfold fb_X7_boxOf_80
    rw [if_neg (by rw [n1]; exact nI_ge hlt (by omega)), g_1073 (by omega), Option.bind_some, n3 q hlt, c_sameText uTx_str hs (hnl q hlt) uTx_str hs hj, Option.bind_some, eqT_f]
    by_cases c : ts1.getD (nb.getD q 0) [] = ts1.getD j []
    · rw [if_pos (decide_eq_true c), if_pos c, hR, Option.bind_some, if_pos (so_usr hu)]
      show some (s, s.I (985 + 16 * u + 3) 3 + nI q) = some (s, nI (bx.length + q))
      rw [show 985 + 16 * u + 3 = 988 + 16 * u by omega, hb.1, nI_add]
    · rw [if_neg (by rw [decide_eq_true_eq]; exact c), if_neg c, nI_1]
      exact ih M (q + 1) (by omega) (by omega)
theorem c_box39 {s : uS} {u bg bgx j : Nat} {ts1 bx : List (List Nat)} {nb : List Nat} (hu : u < 4) (hs : cTz s 8 2000 301 ts1 bg []) (hb : cTz s (988 + 16 * u) 120 6 bx bgx []) (hR : s.R 1070 11 = some (985 + 16 * u)) (hn : cNb s nb) (hnl : ∀ k : Nat, k < nb.length → nb.getD k 0 < ts1.length) (hj : j < ts1.length) : ∀ (d N q : Nat), q + d = bx.length → d + 1 ≤ N → fn_X7_boxOf_39 N (nI j) (nI q) s = bRes (fndI (bx.drop q ++ nmL ts1 nb) (ts1.getD j []) q) j s := by
  have hl6 := hb.2.1
  have e3 : s.I (985 + 16 * u + 3) 3 = nI bx.length := by rw [show 985 + 16 * u + 3 = 988 + 16 * u by omega]; exact hb.1
  intro d
  induction d with
  | zero =>
    intro N q hq hN
    obtain ⟨M, rfl⟩ : ∃ M, N = M + 1 := ⟨N - 1, by omega⟩
    have hd : bx.drop q = [] := List.drop_eq_nil_of_le (by omega)
    rw [hd, List.nil_append]
    show fb_X7_boxOf_39 (fn_X7_boxOf_39 M) (nI j) (nI q) s = _
    unfold fb_X7_boxOf_39
    rw [hR, Option.bind_some, if_pos (so_usr hu), if_pos (by rw [e3]; exact nI_le (by omega) (by omega))]
    have hk := c_box80 hu hs hb hR hn hnl hj nb.length uFu 0 (by omega) (by have := hn.2.1; show _ ≤ 1000000; omega)
    rw [List.drop_zero, Nat.add_zero, show bx.length = q by omega] at hk
    exact hk
  | succ d ih =>
    intro N q hq hN
    obtain ⟨M, rfl⟩ : ∃ M, N = M + 1 := ⟨N - 1, by omega⟩
    have hlt : q < bx.length := by omega
    rw [dropL hlt]
    show fb_X7_boxOf_39 (fn_X7_boxOf_39 M) (nI j) (nI q) s = bRes (if bx.getD q [] = ts1.getD j [] then some q else fndI (bx.drop (q + 1) ++ nmL ts1 nb) (ts1.getD j []) (q + 1)) j s
    unfold fb_X7_boxOf_39
    rw [hR, Option.bind_some, if_pos (so_usr hu), if_neg (by rw [e3]; exact nI_ge hlt (by omega)), Option.bind_some, if_pos (so_usr hu), show 985 + 16 * u + 3 = 988 + 16 * u by omega, c_sameText (uTx_bx hu) hb hlt uTx_str hs hj, Option.bind_some, eqT_f]
    by_cases c : bx.getD q [] = ts1.getD j []
    · rw [if_pos (decide_eq_true c), if_pos c]
      rfl
    · rw [if_neg (by rw [decide_eq_true_eq]; exact c), if_neg c, nI_1]
      exact ih M (q + 1) (by omega) (by omega)
theorem inb_lo : kW_142 = kW_59.map lo := by decide
theorem plc_inb (w : List Nat) : plc w kW_59 0 0 true = if eqW w kW_142 = true then some 0 else none := by
  rw [plc_wix, inb_lo, eqW_lo]
  show (if eqW w kW_59 = true then some 0 else wix w [] 1) = _
  rfl
theorem c_boxOf {s : uS} {u bg bgx j : Nat} {ts1 bx : List (List Nat)} {nb : List Nat} (hu : u < 4) (hs : cTz s 8 2000 301 ts1 bg []) (hb : cTz s (988 + 16 * u) 120 6 bx bgx []) (hR : s.R 1070 11 = some (985 + 16 * u)) (hn : cNb s nb) (hnl : ∀ k : Nat, k < nb.length → nb.getD k 0 < ts1.length) (hj : j < ts1.length) : fn_X7_boxOf (nI j) s = bRes (bxN (bx ++ nmL ts1 nb) (fky ts1 (some j))) j s := by
  obtain ⟨fr, a1, a2, a3, a4⟩ := tz_rd uTx_str hs hj
  have a1' : iget 20 s 10 (nI j) = some (nI fr) := a1
  have a2' : iget 20 s 11 (nI j) = some (nI (fr + (ts1.getD j []).length)) := a2
  have a3' : rdC s 9 fr (ts1.getD j []) := a3
  have hl6 := hb.2.1
  unfold fn_X7_boxOf
  rw [a1', Option.bind_some, a2', Option.bind_some, c_place a3' (by decide) (by decide), Option.bind_some, plc_inb]
  by_cases c : eqW (ts1.getD j []) kW_142 = true
  · have e : fky ts1 (some j) = none := if_pos c
    rw [if_pos c, e]
    show (if nI 0 = 0 then some (s, (0 : Int32)) else _) = some (s, nI 0)
    rw [if_pos (show nI 0 = 0 from rfl)]
    rfl
  · have e : fky ts1 (some j) = some (ts1.getD j []) := if_neg c
    rw [if_neg c, e]
    show (if (-1 : Int32) = 0 then some (s, (0 : Int32)) else _) = _
    rw [if_neg (by decide)]
    have hk := c_box39 hu hs hb hR hn hnl hj bx.length uFu 0 (by omega) (by show _ ≤ 1000000; omega)
    rw [List.drop_zero] at hk
    exact hk
theorem c_fail (s : uS) : fn_X7_fail s = some (wI (wI s 1070 16 1) 1070 17 1) := rfl
/-- a new mailbox, or one too many -/
theorem c_bEnd {s : uS} {u bgx j : Nat} {bx : List (List Nat)} {nb : List Nat} (hu : u < 4) (hb : cTz s (988 + 16 * u) 120 6 bx bgx []) (hR : s.R 1070 11 = some (985 + 16 * u)) (hn : cNb s nb) (h6 : bx.length + nb.length ≤ 6) : bEnd (nI j) s = if bx.length + nb.length < 6 then some (wI (wF s 1073 nb.length (nI j)) 1070 6 (nI (nb.length + 1)), nI (bx.length + nb.length)) else some (wI (wI s 1070 16 1) 1070 17 1, -1) := by
  obtain ⟨n1, n2, n3⟩ := hn
  have e3 : s.I (985 + 16 * u + 3) 3 = nI bx.length := by rw [show 985 + 16 * u + 3 = 988 + 16 * u by omega]; exact hb.1
  unfold bEnd
  rw [hR, Option.bind_some, if_pos (so_usr hu), e3, n1, nI_add]
  by_cases c : bx.length + nb.length < 6
  · rw [if_pos (show nI (bx.length + nb.length) < 6 from nI_lt (b := 6) c (by decide)), if_pos c, p_1073 (by omega), Option.bind_some]
    have e6 : (wF s 1073 nb.length (nI j)).I 1070 6 = nI nb.length := n1
    rw [e6, nI_1]
    show ((s.R 1070 11).bind fun j8 => _) = _
    rw [hR, Option.bind_some, if_pos (so_usr hu), wI_o (by omega), wI_e]
    have e7 : (wF s 1073 nb.length (nI j)).I (985 + 16 * u + 3) 3 = nI bx.length := e3
    rw [e7, nI_add, show bx.length + (nb.length + 1) = (bx.length + nb.length) + 1 by omega]
    congr 2
    exact nI_sub (a := bx.length + nb.length + 1) (b := 1) (by omega)
  · rw [if_neg (show ¬ nI (bx.length + nb.length) < 6 from nI_nlt (b := 6) (by omega) (by omega)), if_neg c, c_fail, Option.bind_some]
theorem cNb.app {s s1 : uS} {nb : List Nat} {j : Nat} (h : cNb s nb) (h6 : nb.length < 6) (e : s1 = wI (wF s 1073 nb.length (nI j)) 1070 6 (nI (nb.length + 1))) : cNb s1 (nb ++ [j]) ∧ out (fun k f => k = 1070 ∧ f = 6) (fun k _ => k = 1073) s s1 := by
  obtain ⟨n1, n2, n3⟩ := h
  rw [e]
  refine ⟨⟨by rw [wI_e, List.length_append]; rfl, by rw [List.length_append]; simp; omega, fun k hk => ?_⟩, out_I (out_F out_r rfl) ⟨rfl, rfl⟩⟩
  rw [List.length_append] at hk
  simp at hk
  rw [wI_F]
  by_cases c : k = nb.length
  · rw [c, wF_e, getDn_end]
  · rw [wF_o (by omega), getDn_app (by omega)]
    exact n3 k (by omega)
