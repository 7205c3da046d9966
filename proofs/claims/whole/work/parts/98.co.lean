/-! passing by, tags -/
theorem tkf.o {k fr : Nat} {x : List Nat} {ts : List (List Nat)} {bg b e : Nat} {s t S U : uS} (h : tkf k fr x ts bg b e s t) (hk : 976 ≤ k) (o : out cnI cnF s S) (q : ol rnJ rnK rNo t U) : tkf k fr x ts bg b e S U := by
  have i7 : ∀ f : Nat, S.I 7 f = s.I 7 f := fun f => o.2.1 _ _ (by unfold cnI; omega)
  have i8 : ∀ f : Nat, S.I 8 f = s.I 8 f := fun f => o.2.1 _ _ (by unfold cnI; omega)
  have f8 : ∀ r : Nat, r < 14 ∨ 976 ≤ r → S.F r = s.F r := fun r hr => funext fun f => o.2.2 _ _ (by unfold cnF; omega)
  have j : ∀ f : Nat, f < 41 → f ≠ 21 → U.I 1079 f = t.I 1079 f := fun f hf hg => q.2.1 _ _ (by unfold rnJ; omega)
  have g : ∀ r f : Nat, r = 1096 ∨ r = 1097 → U.F r f = t.F r f := fun r f hr => q.2.2.1 _ _ (by unfold rnK; omega)
  have cC : ∀ {p : Nat}, lxC s k fr x p → lxC S k fr x p := by
    rintro p ⟨a1, a2, a3, a4, a5, a6, a7, a8⟩
    exact ⟨by rw [o.1.2.1]; exact a1, a2.fr o.1.1 o.1.2.2.2.2.1 (f8 k (Or.inr hk)), a3, a4, (i7 4).trans a5, (i7 5).trans a6, (i7 8).trans a7, a8⟩
  have cR : ∀ {p : Nat}, lxR t x p → lxR U x p := by
    rintro p ⟨c1, c2, c3, c4, c5, c6⟩
    exact ⟨(j 29 (by omega) (by omega)).trans c1, fun i hi => (g 1096 i (Or.inl rfl)).trans (c2 i hi), c3, c4, (j 30 (by omega) (by omega)).trans c5, c6⟩
  have cZ : ∀ {ts : List (List Nat)} {bg : Nat}, cTz s 8 2000 301 ts bg [] → cTz S 8 2000 301 ts bg [] := fun h => h.fr (i8 3) (i8 4) (i8 5) (f8 9 (by omega)) (f8 10 (by omega)) (f8 11 (by omega))
  have cG : tkG k fr x ts bg b e s t → tkG k fr x ts bg b e S U := by
    rintro ⟨g1, g2, g3, g4, g5, g6, g7⟩
    exact ⟨cC g1, cR g2, cZ g3, (j 37 (by omega) (by omega)).trans g4, (j 40 (by omega) (by omega)).trans g5, (i7 6).trans g6, (j 32 (by omega) (by omega)).trans g7⟩
  rcases h with h | h | h | h | h | h
  · obtain ⟨a1, a2, a3, a4, a5⟩ := h
    exact Or.inl ⟨a1, a2, cG a3, (i7 2).trans a4, (j 31 (by omega) (by omega)).trans a5⟩
  · obtain ⟨a1, a2, a3, a4, a5, a6, a7⟩ := h
    exact Or.inr (Or.inl ⟨a1, cG a2, (i7 2).trans a3, (j 31 (by omega) (by omega)).trans a4, (i7 7).trans a5, (j 33 (by omega) (by omega)).trans a6, (j 34 (by omega) (by omega)).trans a7⟩)
  · obtain ⟨a1, a2, a3, a4, a5, a6, a7⟩ := h
    exact Or.inr (Or.inr (Or.inl ⟨a1, cG a2, (i7 2).trans a3, (j 31 (by omega) (by omega)).trans a4, (i7 7).trans a5, (j 33 (by omega) (by omega)).trans a6, (j 34 (by omega) (by omega)).trans a7⟩))
  · obtain ⟨a1, a2, a3, a4, v, a5, a6, a7⟩ := h
    exact Or.inr (Or.inr (Or.inr (Or.inl ⟨a1, cG a2, (i7 2).trans a3, (j 31 (by omega) (by omega)).trans a4, v, a5, (i7 3).trans a6, (j 35 (by omega) (by omega)).trans a7⟩)))
  · obtain ⟨a1, a2, a3, a4, a5, a6⟩ := h
    exact Or.inr (Or.inr (Or.inr (Or.inr (Or.inl ⟨a1, a2, cG a3, (i7 2).trans a4, (j 31 (by omega) (by omega)).trans a5, a6⟩))))
  · obtain ⟨a, str, g1, g2, g3, g4, g5, g6, g7, g8, g9, g10, g11⟩ := h
    obtain ⟨d1, d2, d3, d4, d5⟩ := g2
    exact Or.inr (Or.inr (Or.inr (Or.inr (Or.inr ⟨a, str, cC g1, ⟨cR d1, (j 37 (by omega) (by omega)).trans d2, (j 38 (by omega) (by omega)).trans d3, (j 39 (by omega) (by omega)).trans d4, fun i hi => (g 1097 _ (Or.inr rfl)).trans (d5 i hi)⟩, cZ g3, g4, g5, g6, (j 40 (by omega) (by omega)).trans g7, (i7 6).trans g8, (j 32 (by omega) (by omega)).trans g9, (i7 2).trans g10, (j 31 (by omega) (by omega)).trans g11⟩))))
/-- another state at the same token -/
theorem pj_at {k fr : Nat} {x : List Nat} {ts : List (List Nat)} {bg b e : Nat} {σ σ1 : List (Nat × Nat)} {N M cn ob dp rq T N1 M1 cn1 ob1 dp1 rq1 T1 : Nat} {s t S U : uS} (h : pj k fr x ts bg b e σ N M cn ob dp rq T s t) (o : out cnI cnF s S) (q : ol rnJ rnK rNo t U) (hm : pm σ1 N1 cn1 ob1 rq1 S) (hr : pr ts bg M1 cn1 ob1 dp1 rq1 U) (hσ : T1 + σ1.length ≤ T + σ.length) (hσ2 : σ1.length ≤ 90) (hv : stV σ1) (hN : N1 ≤ 9 + 3 * cn1) (hM : M1 ≤ 9 + 3 * cn1) (hcn : cn1 ≤ 100) (hob : ob1 ≤ 8) (hdp : dp1 ≤ 8) (hrq : rq1 < 256) : pj k fr x ts bg b e σ1 N1 M1 cn1 ob1 dp1 rq1 T1 S U := by
  obtain ⟨k1, k2, k3, k4, k5, k6, k7, k8, k9, k10, k11, k12, k13⟩ := h.2.2.2
  exact ⟨h.1.o k2 o q, hm, hr, by unfold uCl; rw [o.1.1]; exact k1, k2, k3, k4, hσ2, hv, hN, hM, hcn, hob, hdp, hrq, by omega⟩
theorem pj.pop {k fr : Nat} {x : List Nat} {ts : List (List Nat)} {bg b e : Nat} {σ : List (Nat × Nat)} {N M cn ob dp rq T : Nat} {p : Nat × Nat} {s t : uS} (h : pj k fr x ts bg b e (p :: σ) N M cn ob dp rq T s t) : pj k fr x ts bg b e σ N M cn ob dp rq (T + 1) (wI s 6 5 (nI σ.length)) t := by
  obtain ⟨k1, k2, k3, k4, k5, k6, k7, k8, k9, k10, k11, k12, k13⟩ := h.2.2.2
  rw [List.length_cons] at k5
  exact pj_at h (out_I out_r (Or.inl rfl)) ol_r h.2.1.pop h.2.2.1 (by rw [List.length_cons]; omega) (by omega) k6.tl k7 k8 k9 k10 k11 k12
theorem nI_and {a b : Nat} : nI a &&& nI b = nI (a &&& b) := by
  apply Int32.toBitVec.inj
  show BitVec.ofNat 32 a &&& BitVec.ofNat 32 b = BitVec.ofNat 32 (a &&& b)
  exact BitVec.ofNat_and.symm
theorem nI_or {a b : Nat} : nI a ||| nI b = nI (a ||| b) := by
  apply Int32.toBitVec.inj
  show BitVec.ofNat 32 a ||| BitVec.ofNat 32 b = BitVec.ofNat 32 (a ||| b)
  exact BitVec.ofNat_or.symm
def TGn : List Nat := [1, 1, 1, 1, 1, 2, 4, 4, 4, 8, 16, 32, 64, 128, 256, 512, 512]
def TKn : List Nat := [0, 0, 0, 8, 24, 16, 0, 0, 0, 0, 480, 3, 7, 7, 3, 0, 512, 0, 0, 0, 0, 0, 0, 0, 0, 0]
def NBn : List Nat := [0, 0, 0, 32, 32, 0, 0, 0, 0, 16, 8, 0, 0, 0, 0, 0, 0]
def NKn : List Nat := [0, 0, 0, 0, 1, 0, 2, 16, 16, 16, 64, 0, 0, 4, 16, 0, 0, 0, 0, 0, 0, 0, 0, 0, 0, 0]
theorem tg_3 {v : Nat} (h : v < 17) : tget kS_3 (nI v) = some (nI (TGn.getD v 0)) := by
  have : ∀ v : Fin 17, tget kS_3 (nI v.1) = some (nI (TGn.getD v.1 0)) := by decide +kernel
  exact this ⟨v, h⟩
theorem tg_1 {v : Nat} (h : v < 17) : tget kS_1 (nI v) = some (nI (NBn.getD v 0)) := by
  have : ∀ v : Fin 17, tget kS_1 (nI v.1) = some (nI (NBn.getD v.1 0)) := by decide +kernel
  exact this ⟨v, h⟩
theorem tg_2 {v : Nat} (h : v < 26) : tget kS_2 (nI v) = some (nI (TKn.getD v 0)) := by
  have : ∀ v : Fin 26, tget kS_2 (nI v.1) = some (nI (TKn.getD v.1 0)) := by decide +kernel
  exact this ⟨v, h⟩
theorem tg_0 {v : Nat} (h : v < 26) : tget kS_0 (nI v) = some (nI (NKn.getD v 0)) := by
  have : ∀ v : Fin 26, tget kS_0 (nI v.1) = some (nI (NKn.getD v.1 0)) := by decide +kernel
  exact this ⟨v, h⟩
theorem TG_lt (v : Nat) : TGn.getD v 0 < 1024 := by
  by_cases h : v < 17
  · have : ∀ v : Fin 17, TGn.getD v.1 0 < 1024 := by decide
    exact this ⟨v, h⟩
  · rw [List.getD_eq_getElem?_getD, List.getElem?_eq_none (by show 17 ≤ v; omega)]; decide
theorem NB_lt {v : Nat} (h : v < 17) : NBn.getD v 0 < 256 := by
  have : ∀ v : Fin 17, NBn.getD v.1 0 < 256 := by decide
  exact this ⟨v, h⟩
theorem NK_lt {v : Nat} (h : v < 26) : NKn.getD v 0 < 256 := by
  have : ∀ v : Fin 26, NKn.getD v.1 0 < 256 := by decide
  exact this ⟨v, h⟩
theorem c_lack {s : uS} {rq nb : Nat} (h : s.I 6 8 = nI rq) (hr : rq < 256) (hn : nb < 256) : fn_X4_isLacking (nI nb) s = some (decide (¬ rq &&& nb = nb)) := by
  have hle : rq &&& nb < 256 := Nat.lt_of_le_of_lt Nat.and_le_left hr
  unfold fn_X4_isLacking
  rw [h, nI_and]
  by_cases c : rq &&& nb = nb
  · rw [if_pos (by rw [c]), decide_eq_false (fun z => z c)]
  · rw [if_neg (by rw [nI_eq (by omega) (by omega)]; exact c), decide_eq_true c]
/-- a single bit is there or not -/
theorem and_bit {rq j : Nat} : rq &&& 2 ^ j = 2 ^ j ∨ rq &&& 2 ^ j = 0 := by
  by_cases h : rq.testBit j = true
  · left
    apply Nat.eq_of_testBit_eq
    intro i
    rw [Nat.testBit_and, Nat.testBit_two_pow]
    by_cases q : j = i
    · subst q; rw [h, decide_eq_true rfl]; rfl
    · rw [decide_eq_false q, Bool.and_false]
  · right
    apply Nat.eq_of_testBit_eq
    intro i
    rw [Nat.testBit_and, Nat.testBit_two_pow, Nat.zero_testBit]
    by_cases q : j = i
    · subst q; rw [Bool.eq_false_iff.mpr h]; rfl
    · rw [decide_eq_false q, Bool.and_false]
theorem r_needs {t : uS} {rq j : Nat} (h : t.I 1079 64 = nI rq) (hr : rq < 256) (hj : j < 8) : fn_X12_needs (nI (2 ^ j)) t = if rq &&& 2 ^ j = 2 ^ j then some t else ((fn_X12_fail (t.I 1079 32) t).bind fun s2 => some s2) := by
  have hle : rq &&& 2 ^ j < 256 := Nat.lt_of_le_of_lt Nat.and_le_left hr
  have hp : 0 < 2 ^ j := Nat.pow_pos (by decide)
  unfold fn_X12_needs
  rw [h, nI_and]
  rcases and_bit (rq := rq) (j := j) with c | c
  · rw [if_pos c, if_neg]
    show ¬ nI (rq &&& 2 ^ j) = nI 0
    rw [nI_eq (by omega) (by omega)]; omega
  · rw [if_neg (show ¬ rq &&& 2 ^ j = 2 ^ j by rw [c]; omega), if_pos]
    rw [c]; rfl
def tagW (s : uS) (i κ v g : Nat) : uS := if v ≤ 4 then wI (wI s (16 + 3 * i) 5 (nI (g ||| TGn.getD v 0))) (16 + 3 * i) 6 (nI v) else if κ = 16 then wI (wI s (16 + 3 * i) 5 (nI (g ||| TGn.getD v 0))) (16 + 3 * i) 12 (if v = 15 then 1 else 0) else wI s (16 + 3 * i) 5 (nI (g ||| TGn.getD v 0))
theorem c_tag {s : uS} {i κ v g rq : Nat} (hi : i < 320) (hv : v < 17) (hκ : κ < 26) (hg : g < 1024) (hp : fn_X2_placeIn kW_40 s = some (nI v)) (h0 : s.I (16 + 3 * i) 0 = nI κ) (h5 : s.I (16 + 3 * i) 5 = nI g) (h8 : s.I 6 8 = nI rq) (hr : rq < 256) : fn_X4_takeTag (nI i) s = if TKn.getD κ 0 &&& TGn.getD v 0 = 0 ∨ ¬ g &&& TGn.getD v 0 = 0 ∨ ¬ rq &&& NBn.getD v 0 = NBn.getD v 0 then some (s, 0) else fb_X4_takeTag_115 (nI i) (16 + 3 * i) (nI v) (tagW s i κ v g) := by
  have hT := TG_lt v
  have z0 : ∀ {a b : Nat}, b < 1024 → (nI (a &&& b) = 0 ↔ a &&& b = 0) := by
    intro a b hb
    have : a &&& b < 1024 := Nat.lt_of_le_of_lt Nat.and_le_right hb
    show nI (a &&& b) = nI 0 ↔ _
    exact nI_eq (by omega) (by omega)
  unfold fn_X4_takeTag fn_X3_has
  rw [pgt_nod hi, Option.bind_some, if_pos (so_nod hi), hp, Option.bind_some, if_neg (show ¬ nI v < 0 from nI_nlt (b := 0) (Nat.zero_le _) (by omega)), h0, tg_2 hκ, Option.bind_some, tg_3 hv, Option.bind_some, nI_and]
  by_cases c1 : TKn.getD κ 0 &&& TGn.getD v 0 = 0
  · rw [if_pos ((z0 hT).mpr c1), if_pos (Or.inl c1)]
  · rw [if_neg (fun z => c1 ((z0 hT).mp z)), Option.bind_some, h5, nI_and]
    by_cases c2 : g &&& TGn.getD v 0 = 0
    · rw [if_pos ((z0 hT).mpr c2), Option.bind_some, if_neg (show ¬ false = true by decide), tg_1 hv, Option.bind_some, c_lack h8 hr (NB_lt hv), Option.bind_some]
      by_cases c3 : rq &&& NBn.getD v 0 = NBn.getD v 0
      · rw [decide_eq_false (fun z => z c3), if_neg (show ¬ false = true by decide), Option.bind_some, if_neg (show ¬ (TKn.getD κ 0 &&& TGn.getD v 0 = 0 ∨ ¬ g &&& TGn.getD v 0 = 0 ∨ ¬ rq &&& NBn.getD v 0 = NBn.getD v 0) from fun z => z.elim c1 (fun z => z.elim (fun z => z c2) (fun z => z c3))), nI_or]
        unfold tagW
        by_cases c4 : v ≤ 4
        · rw [if_neg (show ¬ (4 : Int32) < nI v from nI_nlt c4 (by decide)), if_pos c4]
        · rw [if_pos (show (4 : Int32) < nI v from nI_lt (a := 4) (by omega) (by omega)), if_neg c4, wI_o (by omega), h0]
          by_cases c5 : κ = 16
          · rw [if_pos (show nI κ = 16 by rw [c5]; rfl), if_pos c5]
            by_cases c6 : v = 15
            · rw [if_pos (show nI v = 15 by rw [c6]; rfl), if_pos c6]
            · rw [if_neg (show ¬ nI v = 15 by show ¬ nI v = nI 15; rw [nI_eq (by omega) (by omega)]; exact c6), if_neg c6]
          · rw [if_neg (show ¬ nI κ = 16 by show ¬ nI κ = nI 16; rw [nI_eq (by omega) (by omega)]; exact c5), if_neg c5]
      · rw [decide_eq_true c3, if_pos rfl, if_pos (Or.inr (Or.inr c3))]
    · rw [if_neg (fun z => c2 ((z0 hT).mp z)), Option.bind_some, if_pos rfl, if_pos (Or.inr (Or.inl c2))]
theorem c_tagN {s : uS} {i : Nat} (hi : i < 320) (hp : fn_X2_placeIn kW_40 s = some (-1)) : fn_X4_takeTag (nI i) s = some (s, 0) := by
  unfold fn_X4_takeTag
  rw [pgt_nod hi, Option.bind_some, if_pos (so_nod hi), hp, Option.bind_some, if_pos (show (-1 : Int32) < 0 by decide)]
/-- the words of tags -/
def tagL : List (List Nat) := (spl kW_40).1 :: (spl kW_40).2
theorem wix_none {w : List Nat} : ∀ {L : List (List Nat)} {i : Nat}, wix w L i = none → ∀ v ∈ L, eqW w v = false := by
  intro L
  induction L with
  | nil => intro i _ v hv; cases hv
  | cons a L ih =>
    intro i h v hv
    unfold wix at h
    by_cases c : eqW w a = true
    · rw [if_pos c] at h; cases h
    · rw [if_neg c] at h
      rcases List.mem_cons.mp hv with z | z
      · rw [z]; exact Bool.eq_false_iff.mpr c
      · exact ih h v z
theorem wix_some {w : List Nat} : ∀ {L : List (List Nat)} {i j : Nat}, wix w L i = some j → eqW w (L.getD (j - i) []) = true ∧ i ≤ j ∧ j < i + L.length := by
  intro L
  induction L with
  | nil => intro i j h; cases h
  | cons a L ih =>
    intro i j h
    unfold wix at h
    by_cases c : eqW w a = true
    · rw [if_pos c] at h
      have := Option.some.inj h
      subst this
      rw [Nat.sub_self]
      exact ⟨c, Nat.le_refl _, by rw [List.length_cons]; omega⟩
    · rw [if_neg c] at h
      obtain ⟨a1, a2, a3⟩ := ih h
      refine ⟨?_, by omega, by rw [List.length_cons]; omega⟩
      rw [show j - i = (j - (i + 1)) + 1 by omega]
      exact a1
/-- a tag on both sides: the class's place and the reference's words -/
theorem pj.tag {k fr : Nat} {x : List Nat} {ts : List (List Nat)} {bg b e : Nat} {σ : List (Nat × Nat)} {N M cn ob dp rq T : Nat} {s t : uS} (h : pj k fr x ts bg b e σ N M cn ob dp rq T s t) (hq : s.I 7 2 = 1) : b < e ∧ ∃ w : List Nat, fn_X2_placeIn kW_40 s = some (oI (wix w tagL 0)) ∧ ∀ v : List Nat, lwc v → v.length < 2000 → ∀ U : uS, ol rnJ rnK rNo t U → fn_X12_wordIs v U = some (eqW w v) := by
  have hT : tkT k fr x ts bg b e s t := by
    rcases h.1 with h | h | h | h | h | h
    · rw [h.2.2.2.1] at hq; exact absurd hq (by decide)
    · rw [h.2.2.1] at hq; exact absurd hq (by decide)
    · exact h
    · rw [h.2.2.1] at hq; exact absurd hq (by decide)
    · rw [h.2.2.2.1] at hq; exact absurd hq (by decide)
    · obtain ⟨a, str, -, -, -, -, -, -, -, -, -, z, -⟩ := h
      rw [z] at hq; exact absurd hq (by decide)
  obtain ⟨a1, ⟨g1, g2, g3, g4, g5, g6, g7⟩, a3, a4, a5, a6, a7⟩ := hT
  have he := g1.2.2.2.2.2.2.2
  refine ⟨by omega, sub x (b + 1) e, c_placeIn g1 a5 (by omega) he g1.2.2.2.2.2.2.1 (by decide) (by decide), fun v hv hl U q => ?_⟩
  have j : ∀ f : Nat, f < 41 → f ≠ 21 → U.I 1079 f = t.I 1079 f := fun f hf hg => q.2.1 _ _ (by unfold rnJ; omega)
  have g : ∀ r f : Nat, r = 1096 → U.F r f = t.F r f := fun r f hr => q.2.2.1 _ _ (by unfold rnK; omega)
  obtain ⟨c1, c2, c3, c4, c5, c6⟩ := g2
  exact r_wordIs (a := b + 1) (b := e) (p := e) ⟨(j 29 (by omega) (by omega)).trans c1, fun i hi => (g 1096 i rfl).trans (c2 i hi), c3, c4, (j 30 (by omega) (by omega)).trans c5, c6⟩ ((j 33 (by omega) (by omega)).trans a6) ((j 34 (by omega) (by omega)).trans a7) (by omega) he hv hl
