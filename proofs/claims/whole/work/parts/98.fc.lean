/-! running a script: what the class files -/
def dsF (ts : List (List Nat)) (F : List (Option Nat × Nat)) : Prop := ∀ i j : Nat, i < j → j < F.length → fky ts (F.getD i (none, 0)).1 ≠ fky ts (F.getD j (none, 0)).1
theorem getDp_mem {F : List (Option Nat × Nat)} {k : Nat} (h : k < F.length) : F.getD k (none, 0) ∈ F := by
  rw [List.getD_eq_getElem?_getD, List.getElem?_eq_getElem h]
  exact List.getElem_mem h
theorem hasF_no {ts : List (List Nat)} {F : List (Option Nat × Nat)} {x : Option Nat} (h : hasF ts F x = false) {k : Nat} (hk : k < F.length) : fky ts x ≠ fky ts (F.getD k (none, 0)).1 := by
  intro e
  have : hasF ts F x = true := (anyB_iff _ _).mpr ⟨k, by omega, by omega, decide_eq_true e⟩
  rw [h] at this
  cases this
theorem hasF_yes {ts : List (List Nat)} {F : List (Option Nat × Nat)} {x : Option Nat} (h : hasF ts F x = true) : ∃ k : Nat, k < F.length ∧ fky ts x = fky ts (F.getD k (none, 0)).1 := by
  obtain ⟨k, -, h2, h3⟩ := (anyB_iff _ _).mp h
  exact ⟨k, by omega, of_decide_eq_true h3⟩
theorem dsF_add {ts : List (List Nat)} {F : List (Option Nat × Nat)} {x : Option Nat} {g : Nat} (h : dsF ts F) : dsF ts (addF ts F x g) := by
  unfold addF
  cases c : hasF ts F x with
  | true => rw [if_pos rfl]; exact h
  | false =>
    rw [if_neg (by decide)]
    intro i j hij hj
    rw [List.length_append, List.length_cons, List.length_nil] at hj
    by_cases e : j = F.length
    · rw [e, getDp_end, getDp_app (by omega)]
      exact fun z => hasF_no c (show i < F.length by omega) z.symm
    · rw [getDp_app (by omega), getDp_app (by omega)]
      exact h i j hij (by omega)
theorem cf_len {bx ts : List (List Nat)} {F : List (Option Nat × Nat)} : (cfF bx ts F).length = F.length := by unfold cfF; rw [List.length_map]
theorem cf_get {bx ts : List (List Nat)} {F : List (Option Nat × Nat)} {k : Nat} (h : k < F.length) : (cfF bx ts F).getD k (0, 0) = ((bxN (abxF bx ts F) (fky ts (F.getD k (none, 0)).1)).getD 0, (F.getD k (none, 0)).2) := by
  unfold cfF
  rw [List.getD_eq_getElem?_getD, List.getElem?_map, List.getD_eq_getElem?_getD, List.getElem?_eq_getElem h]
  rfl
theorem abx_0 {bx ts : List (List Nat)} {F : List (Option Nat × Nat)} (h0 : 0 < bx.length) : (abxF bx ts F).getD 0 [] = bx.getD 0 [] ∧ 0 < (abxF bx ts F).length := by
  unfold abxF
  refine ⟨?_, by rw [List.length_append]; omega⟩
  rw [List.getD_eq_getElem?_getD, List.getElem?_append_left h0, List.getD_eq_getElem?_getD]
/-- the class's mark for 'there already' is the reference's -/
theorem hasC_F {bx ts : List (List Nat)} {F : List (Option Nat × Nat)} {x : Option Nat} {b : Nat} {more : List (List Nat)} (h0 : 0 < bx.length) (hi : bx.getD 0 [] = kW_59) (hb : bxN (abxF bx ts F ++ more) (fky ts x) = some b) : hasC (cfF bx ts F) b = hasF ts F x := by
  unfold hasC hasF
  rw [cf_len]
  refine anyB_c _ _ (fun k _ hk => ?_)
  have hk : k < F.length := by omega
  obtain ⟨c, c1, -⟩ := fky_res (ts := ts) h0 (getDp_mem hk)
  rw [cf_get hk, c1]
  have c2 : bxN (abxF bx ts F ++ more) (fky ts (F.getD k (none, 0)).1) = some c := bxN_app c1
  show decide (c = b) = _
  refine decide_eq_decide.mpr ⟨fun e => ?_, fun e => ?_⟩
  · rw [e] at c2
    refine bxN_inj ?_ (fky_ok _ _) (fky_ok _ _) hb c2
    rw [List.getD_eq_getElem?_getD, List.getElem?_append_left (abx_0 h0).2, ← List.getD_eq_getElem?_getD, (abx_0 h0).1]
    exact hi
  · rw [e] at hb
    rw [hb] at c2
    exact (Option.some.inj c2).symm
theorem ds_len {bx ts : List (List Nat)} {F : List (Option Nat × Nat)} (h0 : 0 < bx.length) (hi : bx.getD 0 [] = kW_59) (hd : dsF ts F) (h6 : (abxF bx ts F).length ≤ 6) : F.length ≤ 6 := by
  have key : ∀ k : Nat, k < F.length → ∃ c : Nat, ((cfF bx ts F).getD k (0, 0)).1 = c ∧ bxN (abxF bx ts F) (fky ts (F.getD k (none, 0)).1) = some c ∧ c < (abxF bx ts F).length := by
    intro k hk
    obtain ⟨c, c1, c2⟩ := fky_res (ts := ts) h0 (getDp_mem hk)
    refine ⟨c, ?_, c1, c2⟩
    rw [cf_get hk, c1]
    rfl
  have hp := pig 6 ((List.range F.length).map (fun k => ((cfF bx ts F).getD k (0, 0)).1)) ?_ ?_
  · rw [List.length_map, List.length_range] at hp
    exact hp
  · unfold List.Nodup
    rw [List.pairwise_map]
    refine List.Pairwise.imp_of_mem (fun {a b} ha hb hab => ?_) List.pairwise_lt_range
    intro e
    have hb' := List.mem_range.mp hb
    obtain ⟨c, c1, c2, -⟩ := key a (by omega)
    obtain ⟨d, d1, d2, -⟩ := key b hb'
    rw [c1, d1] at e
    rw [e] at c2
    refine hd a b hab hb' (bxN_inj ?_ (fky_ok _ _) (fky_ok _ _) c2 d2)
    rw [(abx_0 h0).1]
    exact hi
  · intro y hy
    obtain ⟨k, k1, k2⟩ := List.mem_map.mp hy
    obtain ⟨c, c1, -, c3⟩ := key k (List.mem_range.mp k1)
    omega
theorem cf_app {bx ts more : List (List Nat)} {F : List (Option Nat × Nat)} {p : Option Nat × Nat} {b : Nat} (h0 : 0 < bx.length) (e : abxF bx ts (F ++ [p]) = abxF bx ts F ++ more) (hb : bxN (abxF bx ts (F ++ [p])) (fky ts p.1) = some b) : cfF bx ts (F ++ [p]) = cfF bx ts F ++ [(b, p.2)] := by
  have e1 : F.map (fun q => ((bxN (abxF bx ts (F ++ [p])) (fky ts q.1)).getD 0, q.2)) = F.map (fun q => ((bxN (abxF bx ts F) (fky ts q.1)).getD 0, q.2)) := by
    refine List.map_congr_left (fun q hq => ?_)
    obtain ⟨c, c1, -⟩ := fky_res (ts := ts) h0 hq
    rw [e, bxN_app c1, c1]
  unfold cfF
  rw [List.map_append, e1, List.map_cons, List.map_nil, hb]
  rfl
theorem abx_n {bx ts : List (List Nat)} {F : List (Option Nat × Nat)} {p : Option Nat × Nat} (h : nbf bx ts p = none) : abxF bx ts (F ++ [p]) = abxF bx ts F := by
  unfold abxF
  rw [nbs_n h]
theorem abx_s {bx ts : List (List Nat)} {F : List (Option Nat × Nat)} {p : Option Nat × Nat} {j : Nat} (h : nbf bx ts p = some j) : abxF bx ts (F ++ [p]) = abxF bx ts F ++ [ts.getD j []] := by
  unfold abxF nmL
  rw [nbs_s h, List.map_append, List.append_assoc]
  rfl
/-- a message is filed -/
theorem c_fil {s : uS} {bx ts more : List (List Nat)} {F : List (Option Nat × Nat)} {x : Option Nat} {b g : Nat} (h0 : 0 < bx.length) (hi : bx.getD 0 [] = kW_59) (hF : cFi s (cfF bx ts F)) (hd : dsF ts F) (e : abxF bx ts (addF ts F x g) = abxF bx ts F ++ more) (hb : bxN (abxF bx ts F ++ more) (fky ts x) = some b) (h6 : (abxF bx ts (addF ts F x g)).length ≤ 6) : ∃ s1 : uS, fn_X7_addFile (nI b) (nI g) s = some s1 ∧ cFi s1 (cfF bx ts (addF ts F x g)) ∧ out pfI pfF s s1 := by
  have hC := hasC_F h0 hi hb
  have hlen := ds_len (bx := bx) h0 hi (dsF_add (x := x) (g := g) hd) h6
  have hb6 : b < 6 := by
    have := bxN_lt (by rw [List.length_append]; have := (abx_0 (ts := ts) (F := F) h0).2; omega) hb
    rw [← e] at this
    omega
  have hl : hasC (cfF bx ts F) b = false → (cfF bx ts F).length < 6 := by
    intro z
    rw [hC] at z
    unfold addF at hlen
    rw [z, if_neg (by decide), List.length_append, List.length_cons, List.length_nil] at hlen
    rw [cf_len]
    omega
  obtain ⟨s1, a1, a2, a3⟩ := c_addFile (g := g) hF hb6 hl
  refine ⟨s1, a1, ?_, a3⟩
  unfold addC at a2
  rw [hC] at a2
  unfold addF at e ⊢
  cases c : hasF ts F x with
  | true =>
    rw [c, if_pos rfl] at a2
    rw [if_pos rfl]
    exact a2
  | false =>
    rw [c, if_neg (by decide)] at a2 e
    rw [if_neg (by decide), cf_app h0 e (by rw [e]; exact hb)]
    exact a2
theorem c_hs8 {s : uS} {i g m : Nat} (h : s.I (16 + 3 * i) 5 = nI g) (hg : g = 0 ∨ g = 8 ∨ g = 16 ∨ g = 24) (hm : m = 8 ∨ m = 16) : fn_X3_has (16 + 3 * i) (nI m) s = some (decide (g = m ∨ g = 24)) := by
  unfold fn_X3_has
  rw [h]
  rcases hg with z | z | z | z <;> rcases hm with y | y <;> subst z <;> subst y <;> rfl
/-- it acts, or fails behind a reject -/
theorem c_act0 {s : uS} {i : Nat} {kp cp : Bool} {g : Nat} (hR : s.R 1070 10 = none) (h14 : s.I 1070 14 = bI kp) (h5 : s.I (16 + 3 * i) 5 = nI g) (hg : g = 0 ∨ g = 8 ∨ g = 16 ∨ g = 24) (hc : cp = decide (g = 16 ∨ g = 24)) (hi : i < 320) : fn_X7_act (16 + 3 * i) s = some (wI (wI s 1070 15 1) 1070 14 (bI (kp && cp)), true) := by
  unfold fn_X7_act
  rw [hR]
  show (if ((wI s 1070 15 1).I 1070 14) = 0 then (some (wI (wI s 1070 15 1) 1070 14 0, true)) else ((fn_X3_has (16 + 3 * i) 16 (wI s 1070 15 1)).bind fun v3 => if v3 = true then (some (wI (wI s 1070 15 1) 1070 14 1, true)) else (some (wI (wI s 1070 15 1) 1070 14 0, true)))) = _
  rw [wI_o (by omega), h14]
  cases kp with
  | false => rw [if_pos (show bI false = 0 from rfl)]; rfl
  | true =>
    have h5' : (wI s 1070 15 1).I (16 + 3 * i) 5 = nI g := by rw [wI_o (by omega)]; exact h5
    rw [if_neg (show ¬ bI true = 0 by decide), show (16 : Int32) = nI 16 from rfl, c_hs8 h5' hg (Or.inr rfl), Option.bind_some, ← hc]
    cases cp with
    | false => rw [if_neg (by decide)]; rfl
    | true => rw [if_pos rfl]; rfl
theorem c_act1 {s : uS} {k ir : Nat} (hR : s.R 1070 10 = some (16 + 3 * ir)) (hi : ir < 320) : fn_X7_act k s = some (wI (wI s 1070 16 1) 1070 17 1, false) := by
  unfold fn_X7_act
  rw [hR]
  show (if uSo (16 + 3 * ir) 3 then ((fn_X7_fail s).bind fun s6 => some (s6, false)) else none) = _
  rw [if_pos (so_nod hi), c_fail, Option.bind_some]
theorem fcB_f {nD rj vc nB : Nat} {ac : Bool} : fcB nD rj vc nB ac = false ↔ nD ≤ 4 ∧ rj ≤ 1 ∧ (rj = 1 → ac = false ∧ vc = 0) ∧ vc ≤ 1 ∧ nB ≤ 6 := by
  unfold fcB
  rw [decide_eq_false_iff_not]
  cases ac <;> simp <;> omega
def fcP (bx ts : List (List Nat)) (p : pl) : Bool := fcB (pDr p).length (prj p) (pvc p) (bx.length + (nbsF bx ts (pF p)).length) (pac p)
theorem fcP_t {bx ts : List (List Nat)} {p : pl} (h : ¬ ((pDr p).length ≤ 4 ∧ prj p ≤ 1 ∧ (prj p = 1 → pac p = false ∧ pvc p = 0) ∧ pvc p ≤ 1 ∧ bx.length + (nbsF bx ts (pF p)).length ≤ 6)) : fcP bx ts p = true := by
  cases c : fcP bx ts p with
  | true => rfl
  | false => exact absurd (fcB_f.mp c) h
