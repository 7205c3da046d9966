/-! words out of a list; special strings -/
def wdAt (L : List (List Nat)) (W : List Nat) (j : Nat) : Prop := (∀ c ∈ W, c < 128 ∧ lo c = c) ∧ W.length < 2000 ∧ (∀ a : Nat, a < L.length → eqW (L.getD a []) W = decide (a = j)) ∧ W ∈ L ∧ j < L.length
theorem wds (L : List (List Nat)) (w : List Nat) : ∃ v : Nat, v ≤ L.length ∧ oI (wix w L 0) = (if v = L.length then -1 else nI v) ∧ ∀ (W : List Nat) (j : Nat), wdAt L W j → eqW w W = decide (v = j) := by
  cases q : wix w L 0 with
  | none =>
    refine ⟨L.length, Nat.le_refl _, by rw [if_pos rfl]; rfl, fun W j hW => ?_⟩
    rw [wix_none q W hW.2.2.2.1, decide_eq_false (by have := hW.2.2.2.2; omega)]
  | some v =>
    obtain ⟨a1, a2, a3⟩ := wix_some q
    refine ⟨v, by omega, by rw [if_neg (by omega)]; rfl, fun W j hW => ?_⟩
    rw [eqW_tr a1, Nat.sub_zero]
    exact hW.2.2.1 v (by omega)
theorem r_stringIs {t : uS} {ts : List (List Nat)} {bg j : Nat} {w : List Nat} (h : rst ts bg t) (hj : j < ts.length) (hts : ts.length ≤ 301) (hbg : bg ≤ 4000) (h8 : bys (ts.getD j [])) (hw : lwc w) (hwl : w.length < 2000) : fn_X12_stringIs (nI j) w t = some (eqW (ts.getD j []) w) := by
  obtain ⟨a, p1, p2, p3, -, p4⟩ := h j hj
  generalize ts.getD j [] = y at *
  have key : ∀ bb : Bool, (bb = true → y.length = w.length) → fn_X12_stringIs_22 uFu (nI j) w bb 0 t = some (bb && decide (∀ i : Nat, i < w.length → (decide (lo (y.getD i 0) = w.getD i 0)) = true)) := by
    intro bb hbb
    cases bb with
    | false =>
      show fb_X12_stringIs_22 _ _ w false 0 t = _
      unfold fb_X12_stringIs_22
      rw [if_neg (by decide : ¬ (false = true))]
      split <;> rfl
    | true =>
      have hlen := hbb rfl
      refine cmp0 (F := fun n b i => fn_X12_stringIs_22 n (nI j) w b i t) (fin := fun b => some b) (L := w.length) (p := fun i => decide (lo (y.getD i 0) = w.getD i 0)) ?_ (by show _ < 1000000; omega) true
      intro n bb i hi
      show fb_X12_stringIs_22 _ _ w bb (nI i) t = _
      unfold fb_X12_stringIs_22
      by_cases c : w.length ≤ i
      · rw [if_pos (nI_le c (by omega)), if_pos c]
      · rw [if_neg (nI_ge (by omega) (by omega)), if_neg c]
        cases bb with
        | false => rfl
        | true =>
          have h8 := h8 i
          have hc := hw.at (show i < w.length by omega)
          have hlo := lo_lt h8
          rw [if_pos rfl, if_pos rfl, g_1116 (by omega), Option.bind_some, p2, nI_add, g_1097 (by omega), Option.bind_some, p4 i (by omega), r_lowN (by omega), Option.bind_some, stget_c (by omega) (by omega), Option.bind_some, nI_1]
          by_cases e : lo (y.getD i 0) = w.getD i 0
          · rw [if_pos (by rw [e]), decide_eq_true e]
          · rw [if_neg (by rw [nI_eq (by omega) (by omega)]; exact e), decide_eq_false e]
  unfold fn_X12_stringIs
  rw [g_1117 (by omega), Option.bind_some, p3, eqW_r hw]
  simp only [decide_eq_true_eq] at key
  by_cases c : y.length = w.length
  · rw [if_pos (by rw [c]), key true (fun _ => c), decide_eq_true c]
  · rw [if_neg (by rw [nI_eq (by omega) (by omega)]; exact c), key false (fun z => by cases z), decide_eq_false c, Bool.false_and]
/-- a string taken, the class asking of it what it will -/
def asI (i k f : Nat) : Prop := (k = 16 + 3 * i ∧ (f = 7 ∨ f = 8 ∨ f = 11)) ∨ (k = 6 ∧ f = 8)
theorem str_go {k fr : Nat} {x : List Nat} {ts : List (List Nat)} {bg b e : Nat} {σ : List (Nat × Nat)} {N M cn ob dp rq T : Nat} {s t S U V : uS} {i l a y rq1 : Nat} {str : List Nat} {G : uS → Nat → uS → Prop} (h : pj k fr x ts bg b e ((y, 12 * i + l) :: σ) N M cn ob dp rq T s t) (hi : i < 320) (hl : l < 12) (ha : s.F (18 + 3 * i) l = nI a) (ha9 : a < 10) (c3 : s.I 7 2 = 3) (hts : ts.length < 300) (h83 : s.I 8 3 = nI (ts.length + 1)) (hb : lxB k fr x (ts ++ [str]) (bg + str.length) e s t) (hbe : bg + str.length ≤ e) (hbe2 : b < e) (hS : fn_X4_isAskedFor (16 + 3 * i) (nI l) (nI ts.length) s = some (S, true)) (So : out (asI i) (fun _ _ => False) s S) (h8 : S.I 6 8 = nI rq1) (hrq : rq1 < 256) (hV : ol rnJ rnK rNo t V) (hr : pr (ts ++ [str]) (bg + str.length) M cn ob dp rq1 V) (g : ∀ (s1 t1 : uS) (b1 e1 : Nat), e ≤ b1 → out lnI' lqF (tkc S i l a ts.length σ.length) s1 → out rnI (rqP (bg + str.length)) V t1 → pj k fr x (ts ++ [str]) (bg + str.length) b1 e1 σ N M cn ob dp rq1 (T + 1) s1 t1 → G s1 (T + 1) t1) : RU x s t ((fn_X4_takeString (nI (12 * i + l)) s).bind fun r => fn_X4_parse_13 (999999 - T) r.2 (nI T + 1) r.1) (fn_X12_next V) G := by
  have hT := h.bl.2.1
  obtain ⟨hm, hr0, hk⟩ := h.2
  have hm1 := hm.1
  rw [List.length_cons] at hm1
  have SF : S.F = s.F := funext fun r => funext fun f => So.2.2 r f (fun z => z)
  rw [c_tks hi hl c3 h83 hts ha ha9 hS SF ((So.2.1 6 5 (by unfold asI; omega)).trans hm1), Option.bind_some]
  show RU x s t (fn_X4_parse_13 (999999 - T) 1 (nI T + 1) (tkc S i l a ts.length σ.length)) _ _
  rw [K_take hT]
  have oC : out cnI cnF s (tkc S i l a ts.length σ.length) := by
    unfold tkc
    refine out_I (out_F ?_ (Or.inr (Or.inr ⟨by omega, by omega⟩))) (Or.inl rfl)
    have o1 : out cnI cnF s S := out_w So (fun k f z => by unfold asI at z; unfold cnI; omega) (fun _ _ z => z.elim)
    split
    · exact out_F o1 (Or.inr (Or.inr ⟨by omega, by omega⟩))
    · exact o1
  have hmS : pm σ N cn ob rq1 (tkc S i l a ts.length σ.length) := by
    obtain ⟨m1, m2, m3, m4, m5, m6⟩ := hm
    have i6 : ∀ f : Nat, f ≠ 5 → f ≠ 8 → (tkc S i l a ts.length σ.length).I 6 f = s.I 6 f := by
      intro f h5 h8
      unfold tkc
      rw [wI_o (by omega), wF_I]
      split
      · exact So.2.1 6 f (by unfold asI; omega)
      · exact So.2.1 6 f (by unfold asI; omega)
    have f14 : ∀ r f : Nat, r = 14 ∨ r = 15 → (tkc S i l a ts.length σ.length).F r f = s.F r f := by
      intro r f hr
      unfold tkc
      rw [wI_F, wF_o (by omega)]
      split
      · rw [wF_o (by omega), SF]
      · rw [SF]
    refine ⟨wI_e _ _ _ _, m2.2.2.fr (fun i hi => ⟨f14 14 i (Or.inl rfl), f14 15 i (Or.inr rfl)⟩), (i6 2 (by omega) (by omega)).trans m3, (i6 6 (by omega) (by omega)).trans m4, (i6 7 (by omega) (by omega)).trans m5, ?_⟩
    unfold tkc
    rw [wI_o (by omega), wF_I]
    split
    · exact h8
    · exact h8
  have hpb : pb k fr x (ts ++ [str]) (bg + str.length) e σ N M cn ob dp rq1 (T + 1) (tkc S i l a ts.length σ.length) V := by
    refine ⟨hb.o oC hV, hmS, hr, ?_⟩
    obtain ⟨k1, k2, k3, k4, k5, k6, k7, k8, k9, k10, k11, k12, k13⟩ := hk
    rw [List.length_cons] at k5 k13
    refine ⟨by unfold uCl; rw [oC.1.1]; exact k1, k2, by rw [List.length_append]; show _ + 1 ≤ _; omega, hbe, by omega, k6.tl, k7, k8, k9, k10, k11, hrq, by omega⟩
  exact hpb.RU (cn_ps oC) (rn_rd hV) g
theorem pr.wF {ts : List (List Nat)} {bg M cn ob dp rq r n : Nat} {v : Int32} {t : uS} (h : pr ts bg M cn ob dp rq t) (hr : 1101 ≤ r ∧ r ≤ 1115) : pr ts bg M cn ob dp rq (wF t r n v) := by
  obtain ⟨r1, r2, r3, r4, r5, r6, r7, r8⟩ := h
  refine ⟨r1, r2, r3, r4, r5, r6, r7.out (fun j _ => ⟨wF_o (by omega), wF_o (by omega)⟩) (fun j _ => wF_o (by omega)), fun n hn => ?_⟩
  rw [wF_o (by omega), wF_o (by omega)]; exact r8 n hn
theorem getD_last {ts : List (List Nat)} {str : List Nat} : (ts ++ [str]).getD ts.length [] = str := by
  rw [List.getD_eq_getElem?_getD, List.getElem?_append_right (Nat.le_refl _), Nat.sub_self]; rfl
/-- fail behind string() -/
theorem pj.fl1 {k fr : Nat} {x : List Nat} {ts : List (List Nat)} {bg b e : Nat} {σ : List (Nat × Nat)} {N M cn ob dp rq T : Nat} {s t V : uS} (h : pj k fr x ts bg b e σ N M cn ob dp rq T s t) (hV : ol rnJ rnK rNo t V) (h41 : V.I 1079 41 = t.I 1079 41) (hls : lsO V) : FU b t (fn_X12_fail (V.I 1079 32) V) := by
  obtain ⟨h1, h2, ⟨r1, r2, r3, r4, r5, r6, r7, r8⟩, k1, k2, k3, k4, k5, k6, k7, k8, k9, k10, k11, k12, k13⟩ := h
  obtain ⟨l1, l2, l3, l4, l5, l6⟩ := h1.l
  have := l1.2.2.1
  have := l1.2.2.2.2.2.2.2
  have j : ∀ f : Nat, f < 41 → f ≠ 21 → V.I 1079 f = t.I 1079 f := fun f hf hg => hV.2.1 _ _ (by unfold rnJ; omega)
  unfold fn_X12_fail fb_X12_fail_12
  rw [j 40 (by omega) (by omega), l3, if_neg (show ¬ (0 : Int32) ≤ -1 by decide), j 32 (by omega) (by omega), l5]
  refine ⟨_, rfl, ⟨by omega, ?_, ⟨M, by omega, ?_⟩, hls⟩, ol_I (ol_I (ol_I (rn_rd hV) ⟨rfl, by omega⟩) ⟨rfl, by omega⟩) ⟨rfl, by omega⟩⟩
  · rw [wI_o (by omega), wI_o (by omega), wI_e]
  · rw [wI_o (by omega), wI_o (by omega), wI_o (by omega)]; exact h41.trans r1
