/-! the store of the reference: mailboxes made, the files of a plan -/
def sOk (ts : List (List Nat)) (F : List (Option Nat × Nat)) : Prop := ∀ q ∈ F, ∀ j : Nat, q.1 = some j → j < ts.length ∧ bxn (ts.getD j []) = true
theorem bxn_len {w : List Nat} (h : bxn w = true) : 0 < w.length ∧ w.length ≤ 20 := by
  unfold bxn at h
  rw [Bool.and_eq_true] at h
  exact of_decide_eq_true h.2
theorem bxO_app {bx : List (List Nat)} {w : List Nat} (h : bxO bx) (h6 : bx.length < 6) (hb : bys w) (hl : w.length ≤ 20) : bxO (bx ++ [w]) := by
  obtain ⟨h1, h2, h3, h4⟩ := h
  have el : (bx ++ [w]).length = bx.length + 1 := by rw [List.length_append]; rfl
  refine ⟨by omega, by omega, ?_, fun b => ?_⟩
  · rw [getN_app h1]; exact h3
  · by_cases c : b < bx.length
    · rw [getN_app c]; exact h4 b
    · by_cases d : b = bx.length
      · rw [d, getN_end]; exact ⟨hb, hl⟩
      · have e : (bx ++ [w]).getD b [] = [] := by
          rw [List.getD_eq_getElem?_getD, List.getElem?_eq_none (by omega)]
          rfl
        rw [e]
        exact ⟨bys_nil, Nat.zero_le _⟩
/-- what the making of a mailbox may change -/
def mbF (u : Nat) (k f : Nat) : Prop := k = 1093 ∨ k = 1094 ∨ (k = 1126 ∧ f = u) ∨ (k = 1128 ∧ 6 * u ≤ f ∧ f < 6 * u + 6) ∨ (k = 1127 ∧ 120 * u ≤ f ∧ f < 120 * u + 120)
theorem mb_1 {t t1 : uS} {u : Nat} (h : out onwI onwF t t1) : out onwI (mbF u) t t1 := out_w h (fun _ _ z => z) (fun k f z => by unfold onwF at z; unfold mbF; omega)
theorem rSt.mb {t t1 : uS} {ts : List (List Nat)} {u : Nat} (h : rSt t ts) (o : out onwI (mbF u) t t1) : rSt t1 ts := h.fr (fun k j z => o.2.2 _ _ (by unfold mbF; omega))
theorem r_boxMade {t : uS} {u : Nat} {bx ts : List (List Nat)} {x : Option Nat} (hu : u < 4) (hb : rBx t u bx) (ho : bxO bx) (hs : rSt t ts) (hx : ∀ j : Nat, x = some j → j < ts.length ∧ bxn (ts.getD j []) = true) (h89 : t.I 1079 89 = nI u) (h6 : bxN bx (fky ts x) = none → bx.length < 6) : ∃ t1 : uS, fn_X12_boxMade (oI x) t = some (t1, nI ((bxN bx (fky ts x)).getD bx.length)) ∧ (∀ b : Nat, bxN bx (fky ts x) = some b → rBx t1 u bx) ∧ (∀ j : Nat, x = some j → bxN bx (fky ts x) = none → rBx t1 u (bx ++ [ts.getD j []])) ∧ out onwI (mbF u) t t1 := by
  obtain ⟨t1, a1, a2⟩ := r_boxOf hu hb ho hs (fun j z => (hx j z).1) h89
  have hb1 := hb.onw a2
  have hbl := ho.2.1
  unfold fn_X12_boxMade
  rw [a1, Option.bind_some]
  dsimp only
  cases c : bxN bx (fky ts x) with
  | some b =>
    have hlt := bxN_lt ho.1 c
    rw [if_neg (show ¬ oI (some b) < 0 from nI_nlt (b := 0) (Nat.zero_le _) (by omega))]
    exact ⟨t1, rfl, fun _ _ => hb1, fun _ _ z => (by cases z), mb_1 a2⟩
  | none =>
    have h6' := h6 c
    obtain ⟨j, rfl, e2⟩ := fky_n c
    obtain ⟨j1, j2⟩ := hx j rfl
    obtain ⟨bg, s1, s2, s3, s4⟩ := hs.fr (t1 := t1) (fun k j z => a2.2.2 _ _ (by unfold onwF; omega))
    obtain ⟨a, c1, c2, c3, c4, c5⟩ := s1 j j1
    have hw := bxn_len j2
    have hbw := s4 j
    have i89 : t1.I 1079 89 = nI u := (a2.2.1 _ _ (by unfold onwI; omega)).trans h89
    obtain ⟨w, hw0⟩ : ∃ w, w = ts.getD j [] := ⟨_, rfl⟩
    rw [← hw0] at j2 c1 c3 c4 c5 hw hbw
    rw [if_pos (show oI none < 0 by decide)]
    rw [i89, g_1126 hu, Option.bind_some, hb1.1, nI_1, p_1126 hu, Option.bind_some]
    have e17 : (wF t1 1126 u (nI (bx.length + 1))).F 1117 j = nI w.length := by rw [wF_o (by omega)]; exact c3
    have f89 : (wF t1 1126 u (nI (bx.length + 1))).I 1079 89 = nI u := i89
    rw [show oI (some j) = nI j from rfl, g_1117 (by omega), Option.bind_some, e17, f89, show (6 : Int32) = nI 6 from rfl, nI_mul, nI_add, p_1128 (by omega), Option.bind_some]
    have e := cpy0 (F := fun N y s => fn_X12_boxMade_56 N (nI j) (nI bx.length) y s) (fin := fun s => some (s, nI bx.length)) (K := 1127) (off := 20 * (6 * u + bx.length)) (L := w.length) (g := fun i => nI (w.getD i 0)) (s := wF (wF t1 1126 u (nI (bx.length + 1))) 1128 (6 * u + bx.length) (nI w.length)) ?_ ?_ (by show _ < 1000000; omega)
    · refine ⟨_, e, fun _ z => (by cases z), fun j' ej _ => ?_, ?_⟩
      · cases ej
        rw [← hw0]
        have el : (bx ++ [w]).length = bx.length + 1 := by rw [List.length_append]; rfl
        refine ⟨?_, fun b hblt => ?_⟩
        · rw [cpy_Fo (by decide), wF_o (by omega), wF_e, el]
        · rw [el] at hblt
          by_cases d : b < bx.length
          · rw [getN_app d]
            obtain ⟨q1, q2⟩ := hb1.2 b d
            have q3 := (ho.2.2.2 b).2
            refine ⟨by rw [cpy_Fo (by decide), wF_o (by omega), wF_o (by omega)]; exact q1, fun i hi => ?_⟩
            rw [cpy_F, if_neg (by omega), wF_o (by omega), wF_o (by omega)]
            exact q2 i hi
          · rw [show b = bx.length by omega, getN_end]
            refine ⟨by rw [cpy_Fo (by decide), wF_e], fun i hi => ?_⟩
            exact cpy_Fe (Nat.zero_le _) hi
      · have o1 : out onwI (mbF u) t1 (wF (wF t1 1126 u (nI (bx.length + 1))) 1128 (6 * u + bx.length) (nI w.length)) := out_F (out_F out_r (by unfold mbF; omega)) (by unfold mbF; omega)
        refine out_t (mb_1 a2) (out_t o1 ⟨⟨rfl, rfl, rfl, rfl, rfl, rfl⟩, fun _ _ _ => rfl, fun k f z => ?_⟩)
        rw [cpy_F, if_neg (fun y => z (by unfold mbF; omega))]
    · intro n i hi
      show fb_X12_boxMade_56 (fn_X12_boxMade_56 n) (nI j) (nI bx.length) (nI i) _ = _
      unfold fb_X12_boxMade_56
      have f17 : (cpy (wF (wF t1 1126 u (nI (bx.length + 1))) 1128 (6 * u + bx.length) (nI w.length)) 1127 (20 * (6 * u + bx.length)) 0 i (fun i => nI (w.getD i 0))).F 1117 j = nI w.length := by rw [cpy_Fo (by decide), wF_o (by omega), wF_o (by omega)]; exact c3
      have f16 : (cpy (wF (wF t1 1126 u (nI (bx.length + 1))) 1128 (6 * u + bx.length) (nI w.length)) 1127 (20 * (6 * u + bx.length)) 0 i (fun i => nI (w.getD i 0))).F 1116 j = nI a := by rw [cpy_Fo (by decide), wF_o (by omega), wF_o (by omega)]; exact c2
      have f97 : (cpy (wF (wF t1 1126 u (nI (bx.length + 1))) 1128 (6 * u + bx.length) (nI w.length)) 1127 (20 * (6 * u + bx.length)) 0 i (fun i => nI (w.getD i 0))).F 1097 (a + i) = nI (w.getD i 0) := by rw [cpy_Fo (by decide), wF_o (by omega), wF_o (by omega)]; exact c5 i hi
      have g89 : (cpy (wF (wF t1 1126 u (nI (bx.length + 1))) 1128 (6 * u + bx.length) (nI w.length)) 1127 (20 * (6 * u + bx.length)) 0 i (fun i => nI (w.getD i 0))).I 1079 89 = nI u := i89
      rw [g_1117 (by omega), Option.bind_some, f17, if_neg (nI_ge hi (by omega)), g_1116 (by omega), Option.bind_some, f16, nI_add, g_1097 (by omega), Option.bind_some, f97, g89, show (20 : Int32) = nI 20 from rfl, show (6 : Int32) = nI 6 from rfl, nI_mul, nI_add, nI_mul, nI_add, p_1127 (by omega), Option.bind_some, nI_1]
    · intro n
      show fb_X12_boxMade_56 (fn_X12_boxMade_56 n) (nI j) (nI bx.length) (nI w.length) _ = _
      unfold fb_X12_boxMade_56
      have f17 : (cpy (wF (wF t1 1126 u (nI (bx.length + 1))) 1128 (6 * u + bx.length) (nI w.length)) 1127 (20 * (6 * u + bx.length)) 0 w.length (fun i => nI (w.getD i 0))).F 1117 j = nI w.length := by rw [cpy_Fo (by decide), wF_o (by omega), wF_o (by omega)]; exact c3
      rw [g_1117 (by omega), Option.bind_some, f17, if_pos (nI_le (Nat.le_refl _) (by omega))]
/-- the mailboxes so far, and what comes next -/
theorem abx_t {bx ts : List (List Nat)} {F : List (Option Nat × Nat)} {k : Nat} (hk : k < F.length) (hd : dsF ts F) : (∀ b : Nat, bxN (abxF bx ts (F.take k)) (fky ts (F.getD k (none, 0)).1) = some b → abxF bx ts (F.take (k + 1)) = abxF bx ts (F.take k)) ∧ (bxN (abxF bx ts (F.take k)) (fky ts (F.getD k (none, 0)).1) = none → ∃ j : Nat, (F.getD k (none, 0)).1 = some j ∧ abxF bx ts (F.take (k + 1)) = abxF bx ts (F.take k) ++ [ts.getD j []] ∧ fky ts (F.getD k (none, 0)).1 = some (ts.getD j [])) := by
  have e : F.take (k + 1) = F.take k ++ [F.getD k (none, 0)] := by
    rw [List.take_succ, List.getElem?_eq_getElem hk, List.getD_eq_getElem?_getD, List.getElem?_eq_getElem hk]
    rfl
  rw [e]
  constructor
  · intro b hb
    apply abx_n
    unfold nbf
    cases c : bxN bx (fky ts (F.getD k (none, 0)).1) with
    | some _ => rfl
    | none =>
      exfalso
      obtain ⟨j, j1, j2⟩ := fky_n c
      rw [j2] at hb c
      have hn : ts.getD j [] ∉ bx := fndI_no.mp c
      have hm : ts.getD j [] ∈ abxF bx ts (F.take k) := by
        apply Classical.byContradiction
        intro z
        have : fndI (abxF bx ts (F.take k)) (ts.getD j []) 0 = none := fndI_no.mpr z
        have hb' : fndI (abxF bx ts (F.take k)) (ts.getD j []) 0 = some b := hb
        rw [this] at hb'
        cases hb'
      unfold abxF at hm
      rcases List.mem_append.mp hm with z | z
      · exact hn z
      · obtain ⟨q, q1, q2⟩ := nbs_of z
        obtain ⟨i, i1, i2⟩ := List.getElem_of_mem q1
        have i3 : i < k := by rw [List.length_take] at i1; omega
        have i4 : F.getD i (none, 0) = q := by
          rw [List.getD_eq_getElem?_getD, List.getElem?_eq_getElem (by omega)]
          rw [List.getElem_take] at i2
          exact i2
        exact hd i k i3 hk (by rw [i4, q2, j2])
  · intro hb
    have c : bxN bx (fky ts (F.getD k (none, 0)).1) = none := by
      cases c : bxN bx (fky ts (F.getD k (none, 0)).1) with
      | none => rfl
      | some b =>
        have := bxN_app (m := nmL ts (nbsF bx ts (F.take k))) c
        rw [show bx ++ nmL ts (nbsF bx ts (F.take k)) = abxF bx ts (F.take k) from rfl, hb] at this
        cases this
    obtain ⟨j, j1, j2⟩ := fky_n c
    refine ⟨j, j1, abx_s ?_, j2⟩
    unfold nbf
    rw [c]
    exact j1
theorem abx_pre {bx ts : List (List Nat)} {F : List (Option Nat × Nat)} (k : Nat) : ∃ m : List (List Nat), abxF bx ts F = abxF bx ts (F.take k) ++ m := by
  refine ⟨nmL ts (nbsF bx ts (F.drop k)), ?_⟩
  unfold abxF nbsF nmL
  rw [List.append_assoc, ← List.map_append, ← List.filterMap_append, List.take_append_drop]
/-- the place where a message goes is the one at the end -/
theorem abx_ix {bx ts : List (List Nat)} {F : List (Option Nat × Nat)} {k : Nat} (hk : k < F.length) (hd : dsF ts F) : (bxN (abxF bx ts (F.take k)) (fky ts (F.getD k (none, 0)).1)).getD (abxF bx ts (F.take k)).length = (bxN (abxF bx ts F) (fky ts (F.getD k (none, 0)).1)).getD 0 := by
  obtain ⟨h1, h2⟩ := abx_t (bx := bx) hk hd
  obtain ⟨m, hm⟩ := abx_pre (bx := bx) (ts := ts) (F := F) (k + 1)
  cases c : bxN (abxF bx ts (F.take k)) (fky ts (F.getD k (none, 0)).1) with
  | some b =>
    rw [hm, h1 b c, bxN_app c]
    rfl
  | none =>
    obtain ⟨j, j1, j2, j3⟩ := h2 c
    have c' := c
    rw [j3] at c'
    have e : bxN (abxF bx ts (F.take k) ++ [ts.getD j []]) (fky ts (F.getD k (none, 0)).1) = some (abxF bx ts (F.take k)).length := by
      rw [j3]
      show fndI _ _ 0 = _
      rw [fndI_app, show fndI (abxF bx ts (F.take k)) (ts.getD j []) 0 = none from c']
      show (if ts.getD j [] = ts.getD j [] then some (0 + (abxF bx ts (F.take k)).length) else _) = _
      rw [if_pos rfl, Nat.zero_add]
    rw [hm, j2, bxN_app e]
    rfl
