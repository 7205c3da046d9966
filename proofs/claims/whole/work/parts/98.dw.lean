/-! the parsers agree -/
theorem p_parse {s t : uS} {k fr : Nat} {x : List Nat} (huc : (uCl s k).2 ≤ 10000) (hk9 : 976 ≤ k) (hx : rdC s k fr x) (hfr : fr + x.length ≤ 10000) (hx2 : x.length ≤ 2000) (h29 : t.I 1079 29 = nI x.length) (h96 : ∀ j : Nat, j < x.length → t.F 1096 j = nI (x.getD j 0)) (hls : lsO t) : ∃ (s1 t1 : uS) (ln : Nat) (r : Int32), fn_X4_parse k (nI fr) (nI (fr + x.length)) s = some (s1, nI ln) ∧ fn_X12_read t = some (t1, r) ∧ oc psI psI psI psI s s1 ∧ s1.n = s.n ∧ s1.m = s.m ∧ ol rdI rdF rNo t t1 ∧ lsO t1 ∧ ((ln = 0 ∧ r = -1 ∧ ∃ (ts : List (List Nat)) (bg N M u : Nat), scR ts bg N M u s1 t1) ∨ ∃ p : Nat, p ≤ x.length ∧ r = nI p ∧ ln = 1 + lnc x p) := by
  unfold fn_X4_parse fn_X4_open fn_X2_open fn_X9_clear
  simp only [Option.bind_some]
  generalize hA : wI (wI (wI (wR s 7 1 (some k)) 7 4 (nI fr)) 7 8 (nI fr)) 7 5 (nI (fr + x.length)) = A
  generalize hB : wI (wI (wI (wI (wI (wI (wI (wI A 8 3 0) 8 4 0) 8 5 0) 6 2 0) 6 6 0) 6 7 0) 6 8 0) 6 5 0 = S0
  have oA : oc psI psI psI psI s A := by
    rw [← hA]
    exact oc_I (oc_I (oc_I (oc_R oc_r (Or.inl ⟨by omega, by omega⟩)) (Or.inl ⟨by omega, by omega⟩)) (Or.inl ⟨by omega, by omega⟩)) (Or.inl ⟨by omega, by omega⟩)
  have oB : out (fun k f => k = 6 ∨ (k = 8 ∧ 3 ≤ f)) rNo A S0 := by
    rw [← hB]
    exact out_I (out_I (out_I (out_I (out_I (out_I (out_I (out_I out_r (Or.inr ⟨rfl, by omega⟩)) (Or.inr ⟨rfl, by omega⟩)) (Or.inr ⟨rfl, by omega⟩)) (Or.inl rfl)) (Or.inl rfl)) (Or.inl rfl)) (Or.inl rfl)) (Or.inl rfl)
  have e62 : S0.I 6 2 = nI 0 := by rw [← hB, wI_o (by omega), wI_o (by omega), wI_o (by omega), wI_o (by omega), wI_e]; rfl
  have e66 : S0.I 6 6 = nI 0 := by rw [← hB, wI_o (by omega), wI_o (by omega), wI_o (by omega), wI_e]; rfl
  have e67 : S0.I 6 7 = nI 0 := by rw [← hB, wI_o (by omega), wI_o (by omega), wI_e]; rfl
  have e68 : S0.I 6 8 = nI 0 := by rw [← hB, wI_o (by omega), wI_e]; rfl
  have e65 : S0.I 6 5 = nI 0 := by rw [← hB, wI_e]; rfl
  have hpm0 : pm [] 0 0 0 0 S0 := ⟨e65, trivial, e62, e66, e67, e68⟩
  obtain ⟨S1, a1, a2, a3, a4⟩ := c_new (cn := 0) (κ := 25) (p := 0) (d := 0) (s := S0) hpm0 out_r (by decide)
  rw [a1, Option.bind_some]
  dsimp only
  rw [show fn_X4_push 0 0 S1 = some (psh S1 ([] : List (Nat × Nat)).length (nI 0) (nI 0)) from c_push a2.1 (by decide), Option.bind_some, Option.bind_some]
  have hpm := a2.psh (a := 0) (c := 0)
  generalize hS : psh S1 ([] : List (Nat × Nat)).length (nI 0) (nI 0) = S at *
  have oS : out (fun k f => k = 6 ∨ k = 16) (fun k f => k = 14 ∨ k = 15 ∨ k = 18) S0 S := by
    rw [← hS]
    exact psh_o (out_w a4 (fun k f z => by unfold sgI at z; omega) (fun k f z => by unfold sgF at z; omega)) (Or.inl rfl) (Or.inl rfl) (Or.inr (Or.inl rfl))
  have tz : cTz S 8 2000 301 [] 0 [] := by
    have := tz_clear (s := A) (k := 8) (cap := 2000) (mo := 301)
    refine this.fr ?_ ?_ ?_ ?_ ?_ ?_
    · rw [oS.2.1 _ _ (by omega), ← hB, wI_o (by omega), wI_o (by omega), wI_o (by omega), wI_o (by omega), wI_o (by omega)]
    · rw [oS.2.1 _ _ (by omega), ← hB, wI_o (by omega), wI_o (by omega), wI_o (by omega), wI_o (by omega), wI_o (by omega)]
    · rw [oS.2.1 _ _ (by omega), ← hB, wI_o (by omega), wI_o (by omega), wI_o (by omega), wI_o (by omega), wI_o (by omega)]
    · exact funext fun f => by rw [oS.2.2 _ _ (by omega), oB.2.2 _ _ (fun z => z)]; rfl
    · exact funext fun f => by rw [oS.2.2 _ _ (by omega), oB.2.2 _ _ (fun z => z)]; rfl
    · exact funext fun f => by rw [oS.2.2 _ _ (by omega), oB.2.2 _ _ (fun z => z)]; rfl
  have SF : S.F k = s.F k := funext fun f => by rw [oS.2.2 _ _ (by omega), oB.2.2 _ _ (fun z => z), ← hA]; rfl
  have Sc : S.c = s.c := by rw [oS.1.1, oB.1.1, ← hA]; rfl
  have Sn : S.n = s.n := by rw [oS.1.2.2.2.2.1, oB.1.2.2.2.2.1, ← hA]; rfl
  have Sm : S.m = s.m := by rw [oS.1.2.2.2.2.2, oB.1.2.2.2.2.2, ← hA]; rfl
  have uc : (uCl S k).2 ≤ 10000 := by unfold uCl at huc ⊢; rw [Sc]; exact huc
  have i7 : ∀ f : Nat, S.I 7 f = A.I 7 f := fun f => by rw [oS.2.1 _ _ (by omega), oB.2.1 _ _ (by omega)]
  have hlC : lxC S k fr x 0 := by
    refine ⟨?_, hx.fr Sc Sn SF, hx2, by omega, ?_, ?_, ?_, by omega⟩
    · rw [oS.1.2.1, oB.1.2.1, ← hA]
      show (wR s 7 1 (some k)).R 7 1 = some k
      show uw2 s.R 7 1 (some k) 7 1 = some k
      unfold uw2
      simp
    · rw [i7, ← hA, wI_o (by omega), wI_o (by omega), wI_e]
    · rw [i7, ← hA, wI_e]
    · rw [i7, ← hA, wI_o (by omega), wI_e]; rfl
  unfold fn_X12_read
  generalize hU : wI (wI (wI (wI (wI (wI (wI (wI (wI t 1079 40 (-1)) 1079 30 0) 1079 37 0) 1079 41 0) 1079 42 0) 1079 61 0) 1079 64 0) 1079 65 0) 1079 66 0 = U
  have qU : ol rdI rdF rNo t U := by
    rw [← hU]
    iterate 9 refine ol_I ?_ ⟨rfl, by omega⟩
    exact ol_r
  have UF : U.F = t.F := by rw [← hU]; rfl
  have hlR : lxR U x 0 := by
    refine ⟨?_, fun j hj => by rw [UF]; exact h96 j hj, hx.2.1, hx2, ?_, by omega⟩
    · rw [← hU]; iterate 9 rw [wI_o (by omega)]
      exact h29
    · rw [← hU]; iterate 7 rw [wI_o (by omega)]
      rw [wI_e]; rfl
  have hlsU : lsO U := fun n hn => by rw [UF]; exact hls n hn
  have hpr : pr [] 0 0 0 0 0 0 U := by
    refine ⟨?_, ?_, ?_, ?_, ?_, ?_, fun j hj => absurd hj (by simp), hlsU⟩
    · rw [← hU]; iterate 5 rw [wI_o (by omega)]
      rw [wI_e]; rfl
    · rw [← hU]; iterate 4 rw [wI_o (by omega)]
      rw [wI_e]; rfl
    · rw [← hU, wI_o (by omega), wI_e]; rfl
    · rw [← hU, wI_e]; rfl
    · rw [← hU, wI_o (by omega), wI_o (by omega), wI_e]; rfl
    · rw [← hU, wI_o (by omega), wI_o (by omega), wI_o (by omega), wI_e]; rfl
  have hpb : pb k fr x [] 0 0 [(0, 0)] 1 0 0 0 0 0 0 S U := by
    refine ⟨⟨hlC, hlR, tz, ?_, ?_, uc, hk9, by simp, by omega⟩, hpm, hpr, uc, hk9, by simp, by omega, by simp, fun p hp => ?_, by omega, by omega, by omega, by omega, by omega, by omega, by simp⟩
    · rw [← hU]; iterate 6 rw [wI_o (by omega)]
      rw [wI_e]; rfl
    · rw [← hU]; iterate 8 rw [wI_o (by omega)]
      rw [wI_e]
    · rcases List.mem_cons.mp hp with z | z
      · rw [z]; exact ⟨by decide, fun _ => by decide, by decide⟩
      · cases z
  have fin : ∀ s1 : uS, out psI psI S s1 → oc psI psI psI psI s s1 ∧ s1.n = s.n ∧ s1.m = s.m := by
    intro s1 o1
    refine ⟨oc_t oA (oc_out (out_t (out_w oB (fun k f z => by unfold psI; omega) (fun _ _ z => z.elim)) (out_t (out_w oS (fun k f z => by unfold psI; omega) (fun k f z => by unfold psI; omega)) o1))), ?_, ?_⟩
    · rw [o1.1.2.2.2.2.1, Sn]
    · rw [o1.1.2.2.2.2.2, Sm]
  obtain ⟨s1, t1, g1, g2, g3, g4, g5⟩ := go hpb
  rw [show fn_X4_parse_13 uFu 1 0 S = _ from M_take (n := 999999) (T := 0) (by decide), g1, Option.bind_some, g2, Option.bind_some]
  rcases g5 with ⟨b1, e1, c1, c2⟩ | ⟨p, s2, c1, c2, c3, c4⟩
  · rcases p_rd (x.length + 1) 1000000 [] 0 b1 e1 0 0 s1 t1 (by omega) (by omega) (by omega) c2 with ⟨p, s2, t2, d1, d2, d3, d4, d5, d6⟩ | ⟨s2, t2, d1, d2, d3, d4, d5, d6⟩
    · obtain ⟨f1, f2, f3⟩ := fin s2 (out_t (ln_ps g3) d4)
      exact ⟨s2, t2, 1 + lnc x p, nI p, d2, d3, f1, f2, f3, ol_t qU (ol_t (rq_rd g4) d5), d6, Or.inr ⟨p, d1, rfl, rfl⟩⟩
    · obtain ⟨f1, f2, f3⟩ := fin s2 (out_t (ln_ps g3) d3)
      exact ⟨s2, t2, 0, -1, d1, d2, f1, f2, f3, ol_t qU (ol_t (rq_rd g4) d4), d5, Or.inl ⟨rfl, rfl, d6⟩⟩
  · obtain ⟨t2, f1, f2, f3⟩ := c4.rd (n := 999999)
    obtain ⟨h1, h2, h3⟩ := fin s2 (out_t (ln_ps g3) c3)
    exact ⟨s2, t2, 1 + lnc x p, nI p, c2, f1, h1, h2, h3, ol_t qU (ol_t (rq_rd g4) f3), f2.2.2.2, Or.inr ⟨p, c1, rfl, rfl⟩⟩
theorem PW : parseW := by
  intro s t k fr cap x h1 h2 h3 h4 h5 h6 h7 h8 h9 h10 h11
  obtain ⟨s1, t1, ln, r, a1, a2, a3, a4, a5, a6, a7, a8⟩ := p_parse (by unfold uCl; rw [if_pos h1, h2]; exact h3) h4 h5 (by omega) h7 h9 h10 h11
  refine ⟨s1, t1, ln, r, a1, a2, a3, a4, a5, a6, a7, ?_⟩
  rcases a8 with ⟨z1, z2, -⟩ | z
  · exact Or.inl ⟨z1, by rw [z2]; decide⟩
  · exact Or.inr z
/-- a script without a fault, wherever it stands -/
theorem p_good {s t : uS} {k fr : Nat} {x : List Nat} (huc : (uCl s k).2 ≤ 10000) (hk9 : 976 ≤ k) (hx : rdC s k fr x) (hfr : fr + x.length ≤ 10000) (hx2 : x.length ≤ 2000) (h29 : t.I 1079 29 = nI x.length) (h96 : ∀ j : Nat, j < x.length → t.F 1096 j = nI (x.getD j 0)) (hls : lsO t) (hg : gdS x) : ∃ (s1 t1 : uS) (r : Int32), fn_X4_parse k (nI fr) (nI (fr + x.length)) s = some (s1, nI 0) ∧ fn_X12_read t = some (t1, r) ∧ oc psI psI psI psI s s1 ∧ s1.n = s.n ∧ s1.m = s.m ∧ ol rdI rdF rNo t t1 ∧ lsO t1 ∧ ∃ (ts : List (List Nat)) (bg N M u : Nat), scR ts bg N M u s1 t1 := by
  obtain ⟨t0, t2, r2, g1, g2, g3, g4, g5⟩ := hg
  obtain ⟨s1, t1, ln, r, a1, a2, a3, a4, a5, a6, a7, a8⟩ := p_parse huc hk9 hx hfr hx2 h29 h96 hls
  obtain ⟨s3, t3, ln3, r3, b1, b2, b3, b4, b5, b6, b7, b8⟩ := p_parse huc hk9 hx hfr hx2 g1 g2 g3
  have e1 : r3 = r2 := by rw [b2] at g4; exact congrArg Prod.snd (Option.some.inj g4)
  have e2 : nI ln3 = nI ln := by rw [a1] at b1; exact (congrArg Prod.snd (Option.some.inj b1)).symm
  rcases b8 with ⟨z1, -, -⟩ | ⟨p, p1, p2, -⟩
  · rcases a8 with ⟨y1, y2, y3⟩ | ⟨p, p1, p2, p3⟩
    · exact ⟨s1, t1, r, by rw [a1, y1], a2, a3, a4, a5, a6, a7, y3⟩
    · have hl := lnc_le x p
      rw [z1, p3, nI_eq (by omega) (by omega)] at e2
      omega
  · rw [← e1, p2] at g5
    exact absurd (nI_pos' (show p < 2 ^ 31 by omega)) (Int32.not_le.mpr g5)
