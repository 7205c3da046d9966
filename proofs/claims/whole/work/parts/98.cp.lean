/-! tags of commands on both sides -/
theorem pj.wF {k fr : Nat} {x : List Nat} {ts : List (List Nat)} {bg b e : Nat} {σ : List (Nat × Nat)} {N M cn ob dp rq T : Nat} {s t : uS} (h : pj k fr x ts bg b e σ N M cn ob dp rq T s t) {r n : Nat} {v : Int32} (hr : 1101 ≤ r ∧ r ≤ 1115) : pj k fr x ts bg b e σ N M cn ob dp rq T s (wF t r n v) := by
  obtain ⟨k1, k2, k3, k4, k5, k6, k7, k8, k9, k10, k11, k12, k13⟩ := h.2.2.2
  obtain ⟨r1, r2, r3, r4, r5, r6, r7, r8⟩ := h.2.2.1
  refine pj_at h out_r (ol_F ol_r (Or.inr ⟨by omega, by omega⟩)) h.2.1 ⟨r1, r2, r3, r4, r5, r6, r7.out (fun j _ => ⟨wF_o (by omega), wF_o (by omega)⟩) (fun j _ => wF_o (by omega)), fun n hn => ?_⟩ (Nat.le_refl _) k5 k6 k7 k8 k9 k10 k11 k12
  rw [wF_o (by omega), wF_o (by omega)]; exact r8 n hn
def tgI (i k f : Nat) : Prop := (k = 6 ∧ f = 5) ∨ k = 7 ∨ k = 8 ∨ (k = 16 + 3 * i ∧ 5 ≤ f)
def tgF (i k f : Nat) : Prop := k = 9 ∨ k = 10 ∨ k = 11 ∨ k = 14 ∨ k = 15 ∨ ((k = 17 + 3 * i ∨ k = 18 + 3 * i) ∧ (f = 2 ∨ (6 ≤ f ∧ f ≤ 10)))
def rtF (n j bg k f : Nat) : Prop := rLF j bg k f ∨ ((1104 ≤ k ∧ k ≤ 1115) ∧ f = n)
theorem cL_tg {i l : Nat} (hl : l = 2 ∨ (6 ≤ l ∧ l ≤ 10)) {s s1 : uS} (h : out (cLI i l) (cLF i l) s s1) : out (tgI i) (tgF i) s s1 := out_w h (fun k f z => by unfold cLI at z; unfold tgI; omega) (fun k f z => by unfold cLF at z; unfold tgF; omega)
theorem ln_tg {i : Nat} {s s1 : uS} (h : out lnI' lqF s s1) : out (tgI i) (tgF i) s s1 := out_w h (fun k f z => by unfold lnI' at z; unfold tgI; omega) (fun k f z => by unfold lqF at z; unfold tgF; omega)
theorem rL_rt {n j bg j1 bg1 : Nat} {t t1 : uS} (h : ol rLI (rLF j1 bg1) rNo t t1) (a : j ≤ j1) (c : bg ≤ bg1) : ol rLI (rtF n j bg) rNo t t1 := ol_w h (fun _ _ z => z) (fun k f z => Or.inl (by unfold rLF at *; omega)) (fun _ _ z => z)
theorem rt_rt {n j bg j1 bg1 : Nat} {t t1 : uS} (h : ol rLI (rtF n j1 bg1) rNo t t1) (a : j ≤ j1) (c : bg ≤ bg1) : ol rLI (rtF n j bg) rNo t t1 := ol_w h (fun _ _ z => z) (fun k f z => by unfold rtF rLF at *; omega) (fun _ _ z => z)
/-- a tag's place and its words -/
def tagWd (W : List Nat) (j : Nat) : Prop := (∀ c ∈ W, c < 128 ∧ lo c = c) ∧ W.length < 2000 ∧ (∀ a : Fin 17, eqW (tagL.getD a.1 []) W = decide (a.1 = j)) ∧ W ∈ tagL ∧ j < 17
theorem pj.tag1 {k fr : Nat} {x : List Nat} {ts : List (List Nat)} {bg b e : Nat} {σ : List (Nat × Nat)} {N M cn ob dp rq T : Nat} {s t : uS} (h : pj k fr x ts bg b e σ N M cn ob dp rq T s t) (hq : s.I 7 2 = 1) : b < e ∧ ∃ v : Nat, v ≤ 17 ∧ fn_X2_placeIn kW_40 s = some (if v = 17 then -1 else nI v) ∧ ∀ (W : List Nat) (j : Nat), tagWd W j → ∀ U : uS, ol rnJ rnK rNo t U → fn_X12_wordIs W U = some (decide (v = j)) := by
  obtain ⟨h1, w, h2, h3⟩ := h.tag hq
  refine ⟨h1, ?_⟩
  cases q : wix w tagL 0 with
  | none =>
    refine ⟨17, Nat.le_refl _, by rw [h2, q, if_pos rfl]; rfl, fun W j hW U hU => ?_⟩
    rw [h3 W hW.1 hW.2.1 U hU, wix_none q W hW.2.2.2.1, decide_eq_false (by have := hW.2.2.2.2; omega)]
  | some v =>
    obtain ⟨a1, a2, a3⟩ := wix_some q
    have hv : v < 17 := by
      have : tagL.length = 17 := by decide
      omega
    refine ⟨v, by omega, by rw [h2, q, if_neg (by omega)]; rfl, fun W j hW U hU => ?_⟩
    rw [h3 W hW.1 hW.2.1 U hU, eqW_tr a1, Nat.sub_zero]
    exact congrArg some (hW.2.2.1 ⟨v, hv⟩)
theorem tw_95 : tagWd kW_95 9 := ⟨by decide, by decide, by decide, by decide, by decide⟩
theorem tw_80 : tagWd kW_80 10 := ⟨by decide, by decide, by decide, by decide, by decide⟩
theorem tw_96 : tagWd kW_96 11 := ⟨by decide, by decide, by decide, by decide, by decide⟩
theorem tw_97 : tagWd kW_97 12 := ⟨by decide, by decide, by decide, by decide, by decide⟩
theorem tw_98 : tagWd kW_98 13 := ⟨by decide, by decide, by decide, by decide, by decide⟩
theorem tw_99 : tagWd kW_99 14 := ⟨by decide, by decide, by decide, by decide, by decide⟩
theorem tw_110 : tagWd kW_110 15 := ⟨by decide, by decide, by decide, by decide, by decide⟩
theorem tw_111 : tagWd kW_111 16 := ⟨by decide, by decide, by decide, by decide, by decide⟩
theorem tw_112 : tagWd kW_112 0 := ⟨by decide, by decide, by decide, by decide, by decide⟩
theorem tw_113 : tagWd kW_113 1 := ⟨by decide, by decide, by decide, by decide, by decide⟩
theorem tw_114 : tagWd kW_114 2 := ⟨by decide, by decide, by decide, by decide, by decide⟩
theorem tw_115 : tagWd kW_115 3 := ⟨by decide, by decide, by decide, by decide, by decide⟩
theorem tw_116 : tagWd kW_116 4 := ⟨by decide, by decide, by decide, by decide, by decide⟩
theorem tw_117 : tagWd kW_117 6 := ⟨by decide, by decide, by decide, by decide, by decide⟩
theorem tw_118 : tagWd kW_118 7 := ⟨by decide, by decide, by decide, by decide, by decide⟩
theorem tw_119 : tagWd kW_119 8 := ⟨by decide, by decide, by decide, by decide, by decide⟩
theorem tw_120 : tagWd kW_120 5 := ⟨by decide, by decide, by decide, by decide, by decide⟩
theorem c115_0 {S : uS} {i n : Nat} (h5 : S.I 6 5 = nI n) (hn : n < 120) : fb_X4_takeTag_115 (nI i) (16 + 3 * i) (nI 0) S = some (S, 1) := by
  unfold fb_X4_takeTag_115 fb_X4_takeTag_261
  rw [if_neg (show ¬ nI 0 = 3 by decide), if_neg (show ¬ nI 0 = 4 by decide), if_neg (show ¬ nI 0 = 5 by decide), if_neg (show ¬ nI 0 = 6 by decide), if_neg (show ¬ nI 0 = 7 by decide), if_neg (show ¬ nI 0 = 8 by decide), if_neg (show ¬ nI 0 = 9 by decide), if_neg (show ¬ nI 0 = 10 by decide), if_neg (show ¬ nI 0 = 11 by decide), if_neg (show ¬ nI 0 = 12 by decide), if_neg (show ¬ nI 0 = 13 by decide), if_neg (show ¬ nI 0 = 14 by decide), tg_3 (show 0 < 17 by decide), Option.bind_some, if_neg (show ¬ nI (TGn.getD 0 0) = 4 by decide)]
theorem c115_1 {S : uS} {i n : Nat} (h5 : S.I 6 5 = nI n) (hn : n < 120) : fb_X4_takeTag_115 (nI i) (16 + 3 * i) (nI 1) S = some (S, 1) := by
  unfold fb_X4_takeTag_115 fb_X4_takeTag_261
  rw [if_neg (show ¬ nI 1 = 3 by decide), if_neg (show ¬ nI 1 = 4 by decide), if_neg (show ¬ nI 1 = 5 by decide), if_neg (show ¬ nI 1 = 6 by decide), if_neg (show ¬ nI 1 = 7 by decide), if_neg (show ¬ nI 1 = 8 by decide), if_neg (show ¬ nI 1 = 9 by decide), if_neg (show ¬ nI 1 = 10 by decide), if_neg (show ¬ nI 1 = 11 by decide), if_neg (show ¬ nI 1 = 12 by decide), if_neg (show ¬ nI 1 = 13 by decide), if_neg (show ¬ nI 1 = 14 by decide), tg_3 (show 1 < 17 by decide), Option.bind_some, if_neg (show ¬ nI (TGn.getD 1 0) = 4 by decide)]
theorem c115_2 {S : uS} {i n : Nat} (h5 : S.I 6 5 = nI n) (hn : n < 120) : fb_X4_takeTag_115 (nI i) (16 + 3 * i) (nI 2) S = some (S, 1) := by
  unfold fb_X4_takeTag_115 fb_X4_takeTag_261
  rw [if_neg (show ¬ nI 2 = 3 by decide), if_neg (show ¬ nI 2 = 4 by decide), if_neg (show ¬ nI 2 = 5 by decide), if_neg (show ¬ nI 2 = 6 by decide), if_neg (show ¬ nI 2 = 7 by decide), if_neg (show ¬ nI 2 = 8 by decide), if_neg (show ¬ nI 2 = 9 by decide), if_neg (show ¬ nI 2 = 10 by decide), if_neg (show ¬ nI 2 = 11 by decide), if_neg (show ¬ nI 2 = 12 by decide), if_neg (show ¬ nI 2 = 13 by decide), if_neg (show ¬ nI 2 = 14 by decide), tg_3 (show 2 < 17 by decide), Option.bind_some, if_neg (show ¬ nI (TGn.getD 2 0) = 4 by decide)]
theorem c115_3 {S : uS} {i n : Nat} (h5 : S.I 6 5 = nI n) (hn : n < 120) : fb_X4_takeTag_115 (nI i) (16 + 3 * i) (nI 3) S = some (psh S n 10 (nI (12 * i + 9)), 1) := by
  unfold fb_X4_takeTag_115 fb_X4_takeTag_261
  rw [if_pos (show nI 3 = 3 from rfl), show fn_X4_pushList 10 (nI i) 9 S = _ from c_pushL (l := 9) h5 hn, Option.bind_some, tg_3 (show 3 < 17 by decide), Option.bind_some, if_neg (show ¬ nI (TGn.getD 3 0) = 4 by decide)]
theorem c115_4 {S : uS} {i n : Nat} (h5 : S.I 6 5 = nI n) (hn : n < 120) : fb_X4_takeTag_115 (nI i) (16 + 3 * i) (nI 4) S = some (psh S n 10 (nI (12 * i + 9)), 1) := by
  unfold fb_X4_takeTag_115 fb_X4_takeTag_261
  rw [if_neg (show ¬ nI 4 = 3 by decide), if_pos (show nI 4 = 4 from rfl), show fn_X4_pushList 10 (nI i) 9 S = _ from c_pushL (l := 9) h5 hn, Option.bind_some, tg_3 (show 4 < 17 by decide), Option.bind_some, if_neg (show ¬ nI (TGn.getD 4 0) = 4 by decide)]
theorem c115_5 {S : uS} {i n : Nat} (h5 : S.I 6 5 = nI n) (hn : n < 120) : fb_X4_takeTag_115 (nI i) (16 + 3 * i) (nI 5) S = some (psh S n 10 (nI (12 * i + 10)), 1) := by
  unfold fb_X4_takeTag_115 fb_X4_takeTag_261
  rw [if_neg (show ¬ nI 5 = 3 by decide), if_neg (show ¬ nI 5 = 4 by decide), if_pos (show nI 5 = 5 from rfl), show fn_X4_pushList 10 (nI i) 10 S = _ from c_pushL (l := 10) h5 hn, Option.bind_some, tg_3 (show 5 < 17 by decide), Option.bind_some, if_neg (show ¬ nI (TGn.getD 5 0) = 4 by decide)]
theorem c115_6 {S : uS} {i n : Nat} (h5 : S.I 6 5 = nI n) (hn : n < 120) : fb_X4_takeTag_115 (nI i) (16 + 3 * i) (nI 6) S = some (wI S (16 + 3 * i) 9 (nI 0), 1) := by
  unfold fb_X4_takeTag_115 fb_X4_takeTag_261
  rw [if_neg (show ¬ nI 6 = 3 by decide), if_neg (show ¬ nI 6 = 4 by decide), if_neg (show ¬ nI 6 = 5 by decide), if_pos (show nI 6 = 6 from rfl), tg_3 (show 6 < 17 by decide), Option.bind_some, if_pos (show nI (TGn.getD 6 0) = 4 by decide)]
  rfl
theorem c115_7 {S : uS} {i n : Nat} (h5 : S.I 6 5 = nI n) (hn : n < 120) : fb_X4_takeTag_115 (nI i) (16 + 3 * i) (nI 7) S = some (wI S (16 + 3 * i) 9 (nI 1), 1) := by
  unfold fb_X4_takeTag_115 fb_X4_takeTag_261
  rw [if_neg (show ¬ nI 7 = 3 by decide), if_neg (show ¬ nI 7 = 4 by decide), if_neg (show ¬ nI 7 = 5 by decide), if_neg (show ¬ nI 7 = 6 by decide), if_pos (show nI 7 = 7 from rfl), tg_3 (show 7 < 17 by decide), Option.bind_some, if_pos (show nI (TGn.getD 7 0) = 4 by decide)]
  rfl
theorem c115_8 {S : uS} {i n : Nat} (h5 : S.I 6 5 = nI n) (hn : n < 120) : fb_X4_takeTag_115 (nI i) (16 + 3 * i) (nI 8) S = some (wI S (16 + 3 * i) 9 (nI 2), 1) := by
  unfold fb_X4_takeTag_115 fb_X4_takeTag_261
  rw [if_neg (show ¬ nI 8 = 3 by decide), if_neg (show ¬ nI 8 = 4 by decide), if_neg (show ¬ nI 8 = 5 by decide), if_neg (show ¬ nI 8 = 6 by decide), if_neg (show ¬ nI 8 = 7 by decide), if_pos (show nI 8 = 8 from rfl), tg_3 (show 8 < 17 by decide), Option.bind_some, if_pos (show nI (TGn.getD 8 0) = 4 by decide)]
  rfl
theorem c115_9 {S : uS} {i n : Nat} (h5 : S.I 6 5 = nI n) (hn : n < 120) : fb_X4_takeTag_115 (nI i) (16 + 3 * i) (nI 9) S = some (psh S n 11 (nI (12 * i + 2)), 1) := by
  unfold fb_X4_takeTag_115 fb_X4_takeTag_261
  rw [if_neg (show ¬ nI 9 = 3 by decide), if_neg (show ¬ nI 9 = 4 by decide), if_neg (show ¬ nI 9 = 5 by decide), if_neg (show ¬ nI 9 = 6 by decide), if_neg (show ¬ nI 9 = 7 by decide), if_neg (show ¬ nI 9 = 8 by decide), if_pos (show nI 9 = 9 from rfl), show fn_X4_pushList 11 (nI i) 2 S = _ from c_pushL (l := 2) h5 hn, Option.bind_some, tg_3 (show 9 < 17 by decide), Option.bind_some, if_neg (show ¬ nI (TGn.getD 9 0) = 4 by decide)]
theorem c115_10 {S : uS} {i n : Nat} (h5 : S.I 6 5 = nI n) (hn : n < 120) : fb_X4_takeTag_115 (nI i) (16 + 3 * i) (nI 10) S = some (S, 1) := by
  unfold fb_X4_takeTag_115 fb_X4_takeTag_261
  rw [if_neg (show ¬ nI 10 = 3 by decide), if_neg (show ¬ nI 10 = 4 by decide), if_neg (show ¬ nI 10 = 5 by decide), if_neg (show ¬ nI 10 = 6 by decide), if_neg (show ¬ nI 10 = 7 by decide), if_neg (show ¬ nI 10 = 8 by decide), if_neg (show ¬ nI 10 = 9 by decide), if_pos (show nI 10 = 10 from rfl), tg_3 (show 10 < 17 by decide), Option.bind_some, if_neg (show ¬ nI (TGn.getD 10 0) = 4 by decide)]
theorem c115_11 {S : uS} {i n : Nat} (h5 : S.I 6 5 = nI n) (hn : n < 120) : fb_X4_takeTag_115 (nI i) (16 + 3 * i) (nI 11) S = some (psh S n 9 (nI (i)), 1) := by
  unfold fb_X4_takeTag_115 fb_X4_takeTag_261
  rw [if_neg (show ¬ nI 11 = 3 by decide), if_neg (show ¬ nI 11 = 4 by decide), if_neg (show ¬ nI 11 = 5 by decide), if_neg (show ¬ nI 11 = 6 by decide), if_neg (show ¬ nI 11 = 7 by decide), if_neg (show ¬ nI 11 = 8 by decide), if_neg (show ¬ nI 11 = 9 by decide), if_neg (show ¬ nI 11 = 10 by decide), if_pos (show nI 11 = 11 from rfl), c_push h5 hn, Option.bind_some, tg_3 (show 11 < 17 by decide), Option.bind_some, if_neg (show ¬ nI (TGn.getD 11 0) = 4 by decide)]
theorem c115_12 {S : uS} {i n : Nat} (h5 : S.I 6 5 = nI n) (hn : n < 120) : fb_X4_takeTag_115 (nI i) (16 + 3 * i) (nI 12) S = some (psh S n 10 (nI (12 * i + 6)), 1) := by
  unfold fb_X4_takeTag_115 fb_X4_takeTag_261
  rw [if_neg (show ¬ nI 12 = 3 by decide), if_neg (show ¬ nI 12 = 4 by decide), if_neg (show ¬ nI 12 = 5 by decide), if_neg (show ¬ nI 12 = 6 by decide), if_neg (show ¬ nI 12 = 7 by decide), if_neg (show ¬ nI 12 = 8 by decide), if_neg (show ¬ nI 12 = 9 by decide), if_neg (show ¬ nI 12 = 10 by decide), if_neg (show ¬ nI 12 = 11 by decide), if_pos (show nI 12 = 12 from rfl), show fn_X4_pushList 10 (nI i) 6 S = _ from c_pushL (l := 6) h5 hn, Option.bind_some, tg_3 (show 12 < 17 by decide), Option.bind_some, if_neg (show ¬ nI (TGn.getD 12 0) = 4 by decide)]
theorem c115_13 {S : uS} {i n : Nat} (h5 : S.I 6 5 = nI n) (hn : n < 120) : fb_X4_takeTag_115 (nI i) (16 + 3 * i) (nI 13) S = some (psh S n 11 (nI (12 * i + 8)), 1) := by
  unfold fb_X4_takeTag_115 fb_X4_takeTag_261
  rw [if_neg (show ¬ nI 13 = 3 by decide), if_neg (show ¬ nI 13 = 4 by decide), if_neg (show ¬ nI 13 = 5 by decide), if_neg (show ¬ nI 13 = 6 by decide), if_neg (show ¬ nI 13 = 7 by decide), if_neg (show ¬ nI 13 = 8 by decide), if_neg (show ¬ nI 13 = 9 by decide), if_neg (show ¬ nI 13 = 10 by decide), if_neg (show ¬ nI 13 = 11 by decide), if_neg (show ¬ nI 13 = 12 by decide), if_pos (show nI 13 = 13 from rfl), show fn_X4_pushList 11 (nI i) 8 S = _ from c_pushL (l := 8) h5 hn, Option.bind_some, tg_3 (show 13 < 17 by decide), Option.bind_some, if_neg (show ¬ nI (TGn.getD 13 0) = 4 by decide)]
theorem c115_14 {S : uS} {i n : Nat} (h5 : S.I 6 5 = nI n) (hn : n < 120) : fb_X4_takeTag_115 (nI i) (16 + 3 * i) (nI 14) S = some (psh S n 10 (nI (12 * i + 7)), 1) := by
  unfold fb_X4_takeTag_115 fb_X4_takeTag_261
  rw [if_neg (show ¬ nI 14 = 3 by decide), if_neg (show ¬ nI 14 = 4 by decide), if_neg (show ¬ nI 14 = 5 by decide), if_neg (show ¬ nI 14 = 6 by decide), if_neg (show ¬ nI 14 = 7 by decide), if_neg (show ¬ nI 14 = 8 by decide), if_neg (show ¬ nI 14 = 9 by decide), if_neg (show ¬ nI 14 = 10 by decide), if_neg (show ¬ nI 14 = 11 by decide), if_neg (show ¬ nI 14 = 12 by decide), if_neg (show ¬ nI 14 = 13 by decide), if_pos (show nI 14 = 14 from rfl), show fn_X4_pushList 10 (nI i) 7 S = _ from c_pushL (l := 7) h5 hn, Option.bind_some, tg_3 (show 14 < 17 by decide), Option.bind_some, if_neg (show ¬ nI (TGn.getD 14 0) = 4 by decide)]
theorem c115_15 {S : uS} {i n : Nat} (h5 : S.I 6 5 = nI n) (hn : n < 120) : fb_X4_takeTag_115 (nI i) (16 + 3 * i) (nI 15) S = some (S, 1) := by
  unfold fb_X4_takeTag_115 fb_X4_takeTag_261
  rw [if_neg (show ¬ nI 15 = 3 by decide), if_neg (show ¬ nI 15 = 4 by decide), if_neg (show ¬ nI 15 = 5 by decide), if_neg (show ¬ nI 15 = 6 by decide), if_neg (show ¬ nI 15 = 7 by decide), if_neg (show ¬ nI 15 = 8 by decide), if_neg (show ¬ nI 15 = 9 by decide), if_neg (show ¬ nI 15 = 10 by decide), if_neg (show ¬ nI 15 = 11 by decide), if_neg (show ¬ nI 15 = 12 by decide), if_neg (show ¬ nI 15 = 13 by decide), if_neg (show ¬ nI 15 = 14 by decide), tg_3 (show 15 < 17 by decide), Option.bind_some, if_neg (show ¬ nI (TGn.getD 15 0) = 4 by decide)]
theorem c115_16 {S : uS} {i n : Nat} (h5 : S.I 6 5 = nI n) (hn : n < 120) : fb_X4_takeTag_115 (nI i) (16 + 3 * i) (nI 16) S = some (S, 1) := by
  unfold fb_X4_takeTag_115 fb_X4_takeTag_261
  rw [if_neg (show ¬ nI 16 = 3 by decide), if_neg (show ¬ nI 16 = 4 by decide), if_neg (show ¬ nI 16 = 5 by decide), if_neg (show ¬ nI 16 = 6 by decide), if_neg (show ¬ nI 16 = 7 by decide), if_neg (show ¬ nI 16 = 8 by decide), if_neg (show ¬ nI 16 = 9 by decide), if_neg (show ¬ nI 16 = 10 by decide), if_neg (show ¬ nI 16 = 11 by decide), if_neg (show ¬ nI 16 = 12 by decide), if_neg (show ¬ nI 16 = 13 by decide), if_neg (show ¬ nI 16 = 14 by decide), tg_3 (show 16 < 17 by decide), Option.bind_some, if_neg (show ¬ nI (TGn.getD 16 0) = 4 by decide)]
