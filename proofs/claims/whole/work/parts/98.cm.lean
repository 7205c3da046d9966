/-! a string asked for, a list of strings, on both sides -/
def cLI (i l k f : Nat) : Prop := (k = 6 ∧ f = 5) ∨ k = 7 ∨ k = 8 ∨ (k = 16 + 3 * i ∧ f = 11 ∧ l = 2)
def cLF (i l k f : Nat) : Prop := k = 9 ∨ k = 10 ∨ k = 11 ∨ k = 14 ∨ k = 15 ∨ ((k = 17 + 3 * i ∨ k = 18 + 3 * i) ∧ f = l)
def rLI (k f : Nat) : Prop := k = 1079 ∧ ((30 ≤ f ∧ f ≤ 35) ∨ (37 ≤ f ∧ f ≤ 40) ∨ f = 61)
def rLF (j bg k f : Nat) : Prop := (k = 1097 ∧ bg ≤ f) ∨ ((k = 1116 ∨ k = 1117) ∧ j ≤ f)
def flB (w : List Nat) : Nat := match wix w ((spl kW_44).1 :: (spl kW_44).2) 0 with | some j => 2 ^ j | none => 0
def flL (l g : Nat) (ws : List (List Nat)) : Nat := if l = 2 then ws.foldl (fun a w => a ||| flB w) g else g
def lpl (l : Nat) : Prop := l = 0 ∨ l = 1 ∨ l = 2 ∨ l = 5 ∨ l = 6 ∨ l = 7 ∨ l = 8
theorem or_bit : ∀ g j : Nat, g < 32 → j < 5 → nI g ||| ((1 : Int32) <<< (nI j &&& 31)) = nI (g ||| 2 ^ j) ∧ g ||| 2 ^ j < 32 := by
  have : ∀ g : Fin 32, ∀ j : Fin 5, nI g.1 ||| ((1 : Int32) <<< (nI j.1 &&& 31)) = nI (g.1 ||| 2 ^ j.1) ∧ g.1 ||| 2 ^ j.1 < 32 := by decide +kernel
  exact fun g j hg hj => this ⟨g, hg⟩ ⟨j, hj⟩
theorem or_0 {g : Nat} : nI g ||| 0 = nI g := by
  apply Int32.toBitVec.inj
  show (nI g).toBitVec ||| 0 = _
  exact BitVec.or_zero
theorem ask {s : uS} {i l j bg g : Nat} {ts : List (List Nat)} (hl : lpl l) (hz : cTz s 8 2000 301 ts bg []) (hj : j < ts.length) (hg : s.I (16 + 3 * i) 11 = nI g) (hg2 : g < 32) : ∃ S : uS, fn_X4_isAskedFor (16 + 3 * i) (nI l) (nI j) s = some (S, true) ∧ S = (if l = 2 then wI s (16 + 3 * i) 11 (nI (flL l g [ts.getD j []])) else s) ∧ flL l g [ts.getD j []] < 32 := by
  obtain ⟨fr, a1, a2, a3, -⟩ := tz_rd uTx_str hz hj
  have a1 : iget 20 s 10 (nI j) = some (nI fr) := a1
  have a2 : iget 20 s 11 (nI j) = some (nI (fr + (ts.getD j []).length)) := a2
  unfold fn_X4_isAskedFor
  rw [a1, Option.bind_some, a2, Option.bind_some]
  rcases hl with q | q | q | q | q | q | q <;> subst q
  · exact ⟨_, rfl, rfl, hg2⟩
  · exact ⟨_, rfl, rfl, hg2⟩
  · rw [if_pos (show nI 2 = 2 from rfl), c_place a3 (by decide) (by decide), Option.bind_some, plc_wix]
    show ∃ S : uS, _ ∧ _ = wI s (16 + 3 * i) 11 (nI (g ||| flB (ts.getD j []))) ∧ g ||| flB (ts.getD j []) < 32
    unfold flB
    cases q : wix (ts.getD j []) ((spl kW_44).1 :: (spl kW_44).2) 0 with
    | none =>
      dsimp only
      rw [oI_n, if_neg (show ¬ (0 : Int32) ≤ -1 by decide), hg, or_0, Nat.or_zero]
      exact ⟨_, rfl, rfl, hg2⟩
    | some v =>
      dsimp only
      have hv : v < 5 := by
        have := (wix_lt q).2
        have e : ((spl kW_44).1 :: (spl kW_44).2).length = 5 := by decide
        omega
      have := or_bit g v hg2 hv
      rw [oI_s, if_pos (show (0 : Int32) ≤ nI v from nI_le (a := 0) (Nat.zero_le _) (by omega)), hg, this.1]
      exact ⟨_, rfl, rfl, this.2⟩
  · exact ⟨_, rfl, rfl, hg2⟩
  · exact ⟨_, rfl, rfl, hg2⟩
  · exact ⟨_, rfl, rfl, hg2⟩
  · exact ⟨_, rfl, rfl, hg2⟩
def chk (a : Int32) (t : uS) : Option uS := (fn_X12_is 4 t).bind fun v => if v = true then (if a = 10 then fn_X12_fail (t.I 1079 32) t else some t) else some t
/-- what a string taken leaves -/
def strG (k fr : Nat) (x : List Nat) (ts : List (List Nat)) (bg e : Nat) (σ : List (Nat × Nat)) (N M cn ob dp rq i l a g : Nat) (s t : uS) (s1 : uS) (T1 : Nat) (t1 : uS) (v : Nat) : Prop := v = ts.length ∧ a + 1 ≤ 10 ∧ ∃ (str : List Nat) (b1 e1 : Nat), e ≤ b1 ∧ pj k fr x (ts ++ [str]) (bg + str.length) b1 e1 σ N M cn ob dp rq T1 s1 t1 ∧ out (cLI i l) (cLF i l) s s1 ∧ ol rLI (rLF ts.length bg) rNo t t1 ∧ s1.F (18 + 3 * i) l = nI (a + 1) ∧ s1.F (17 + 3 * i) l = (if a = 0 then nI ts.length else s.F (17 + 3 * i) l) ∧ s1.I (16 + 3 * i) 11 = nI (flL l g [str]) ∧ flL l g [str] < 32
theorem stV.tl {p : Nat × Nat} {σ : List (Nat × Nat)} (h : stV (p :: σ)) : stV σ := fun q hq => h q (List.mem_cons_of_mem _ hq)
theorem p_str1 {k fr : Nat} {x : List Nat} {ts : List (List Nat)} {bg b e : Nat} {σ : List (Nat × Nat)} {N M cn ob dp rq T : Nat} {s t : uS} {i l a g y : Nat} (h : pj k fr x ts bg b e ((y, 12 * i + l) :: σ) N M cn ob dp rq T s t) (hi : i < 320) (hl : lpl l) (ha : s.F (18 + 3 * i) l = nI a) (ha10 : a ≤ 10) (hg : s.I (16 + 3 * i) 11 = nI g) (hg2 : g < 32) : RV x s t ((fn_X4_takeString (nI (12 * i + l)) s).bind fun r => fn_X4_parse_13 (999999 - T) r.2 (nI T + 1) r.1) ((chk (nI a) t).bind fn_X12_taken) (strG k fr x ts bg e σ N M cn ob dp rq i l a g s t) := by
  have hl12 : l < 12 := by unfold lpl at hl; omega
  have hT := h.bl.2.1
  have h4 := h.is (c := 3) (by decide)
  have hch : ∀ A : Option uS, (fn_X12_is 4 t) = some (decide (s.I 7 2 = nI 3)) := fun _ => h4
  by_cases c3 : s.I 7 2 = 3
  · by_cases cl : 300 ≤ ts.length
    · -- too many strings
      have h83 : s.I 8 3 = nI (ts.length + 1) := by
        obtain ⟨a, str, -, -, g3, -⟩ := h.q c3
        rw [g3.1, List.length_append]; rfl
      have k3 := h.2.2.2.2.2.1
      rw [c_tkm hi hl12 c3 h83 cl (by omega), Option.bind_some]
      refine h.RV out_r ?_
      unfold chk
      rw [hch none, Option.bind_some, decide_eq_true (show s.I 7 2 = nI 3 from c3), if_pos rfl]
      by_cases q : nI a = 10
      · rw [if_pos q]; exact h.fl.uv fun t1 h1 => h1.tn
      · rw [if_neg q, Option.bind_some]
        unfold fn_X12_taken
        exact (h.strN (Or.inr cl)).vv fun t1 v hv h1 => h1.nU.uv fun t2 h2 => h2.V hv
    · obtain ⟨str, y1, y2, y3, y4, y5, y6, y7⟩ := h.str c3 (by omega)
      by_cases q : a = 10
      · -- ten are there
        rw [c_tk2 hi hl12 c3 y4 (by omega) (by rw [ha, q]), Option.bind_some]
        refine h.RV out_r ?_
        unfold chk
        rw [hch none, Option.bind_some, decide_eq_true (show s.I 7 2 = nI 3 from c3), if_pos rfl, if_pos (show nI a = 10 by rw [q]; rfl)]
        exact h.fl.uv fun t1 h1 => h1.tn
      · have hz := y2.2.2.1
        have gd : (ts ++ [str]).getD ts.length [] = str := by
          rw [List.getD_eq_getElem?_getD, List.getElem?_append_right (Nat.le_refl _), Nat.sub_self]; rfl
        obtain ⟨S, z1, z2, z3⟩ := ask (i := i) (g := g) hl hz (j := ts.length) (by rw [List.length_append]; show _ < _ + 1; omega) hg hg2
        rw [gd] at z2 z3
        have SF : S.F = s.F := by rw [z2]; split <;> rfl
        have SI : ∀ k f : Nat, ¬ (k = 16 + 3 * i ∧ f = 11) → S.I k f = s.I k f := by
          intro k f hh
          rw [z2]
          split
          · exact wI_o hh
          · rfl
        have S11 : S.I (16 + 3 * i) 11 = nI (flL l g [str]) := by
          rw [z2]
          split
          · exact wI_e _ _ _ _
          · rename_i w; unfold flL; rw [if_neg w]; exact hg
        have So : out (fun k f => k = 16 + 3 * i ∧ f = 11 ∧ l = 2) (fun _ _ => False) s S := by
          rw [z2]
          split
          · exact out_I out_r ⟨rfl, rfl, by assumption⟩
          · exact out_r
        obtain ⟨hm, hr, hk⟩ := h.2
        have hm1 := hm.1
        rw [List.length_cons] at hm1
        rw [c_tks hi hl12 c3 y4 (by omega) ha (by omega) z1 SF ((SI 6 5 (by omega)).trans hm1), Option.bind_some]
        show RV x s t (fn_X4_parse_13 (999999 - T) 1 (nI T + 1) (tkc S i l a ts.length σ.length)) _ _
        rw [K_take hT]
        have oS : out (cLI i l) (cLF i l) s (tkc S i l a ts.length σ.length) := by
          unfold tkc
          refine out_I (out_F ?_ (Or.inr (Or.inr (Or.inr (Or.inr (Or.inr ⟨Or.inr rfl, rfl⟩)))))) (Or.inl ⟨rfl, rfl⟩)
          have o1 : out (cLI i l) (cLF i l) s S := out_w So (fun k f z => Or.inr (Or.inr (Or.inr z))) (fun _ _ z => z.elim)
          split
          · exact out_F o1 (Or.inr (Or.inr (Or.inr (Or.inr (Or.inr ⟨Or.inl rfl, rfl⟩)))))
          · exact o1
        have oC : out cnI cnF s (tkc S i l a ts.length σ.length) := by
          unfold tkc
          refine out_I (out_F ?_ (Or.inr (Or.inr ⟨by omega, by omega⟩))) (Or.inl rfl)
          have o1 : out cnI cnF s S := out_w So (fun k f z => Or.inr ⟨by omega, by omega⟩) (fun _ _ z => z.elim)
          split
          · exact out_F o1 (Or.inr (Or.inr ⟨by omega, by omega⟩))
          · exact o1
        have hmS : pm σ N cn ob rq (tkc S i l a ts.length σ.length) := by
          have hs : pm ((y, 12 * i + l) :: σ) N cn ob rq (wF (if a = 0 then wF S (17 + 3 * i) l (nI ts.length) else S) (18 + 3 * i) l (nI (a + 1))) := by
            refine hm.fr (fun f => ?_) (fun r f hr => ?_)
            · rw [wF_I]
              split
              · exact SI 6 f (by omega)
              · exact SI 6 f (by omega)
            · rw [wF_o (by omega)]
              split
              · rw [wF_o (by omega), SF]
              · rw [SF]
          exact hs.pop
        have hpb : pb k fr x (ts ++ [str]) (bg + str.length) e σ N M cn ob dp rq (T + 1) (tkc S i l a ts.length σ.length) (rsW t ts.length bg str.length) := by
          refine ⟨y2.o oC rsW_o, hmS, y3, ?_⟩
          obtain ⟨k1, k2, k3, k4, k5, k6, k7, k8, k9, k10, k11, k12, k13⟩ := hk
          rw [List.length_cons] at k5 k13
          refine ⟨by unfold uCl; rw [oC.1.1]; exact k1, k2, by rw [List.length_append]; show _ + 1 ≤ _; omega, y6, by omega, k6.tl, k7, k8, k9, k10, k11, k12, by omega⟩
        unfold chk fn_X12_taken
        rw [hch none, Option.bind_some, decide_eq_true (show s.I 7 2 = nI 3 from c3), if_pos rfl, if_neg (show ¬ nI a = 10 by show ¬ nI a = nI 10; rw [nI_eq (by omega) (by omega)]; exact q), Option.bind_some, y1, Option.bind_some]
        refine RU.uv (G := fun s1 T1 t1 => strG k fr x ts bg e σ N M cn ob dp rq i l a g s t s1 T1 t1 ts.length) (hpb.RU (cn_ps oC) (rn_rd rsW_o) ?_) (fun p t1 h1 => h1.V (by omega)) (fun s1 T1 t1 _ _ hG => RV.ret hG)
        intro s1 t1 b1 e1 q1 q2 q3 q4
        have f1 : s1.F (18 + 3 * i) l = nI (a + 1) := by
          rw [q2.2.2 _ _ (by unfold lqF; omega)]
          exact wF_e _ _ _ _
        have f2 : s1.F (17 + 3 * i) l = (if a = 0 then nI ts.length else s.F (17 + 3 * i) l) := by
          rw [q2.2.2 _ _ (by unfold lqF; omega)]
          show (wF (if a = 0 then wF S (17 + 3 * i) l (nI ts.length) else S) (18 + 3 * i) l (nI (a + 1))).F (17 + 3 * i) l = _
          rw [wF_o (by omega)]
          by_cases z : a = 0
          · rw [if_pos z, if_pos z]; exact wF_e _ _ _ _
          · rw [if_neg z, if_neg z, SF]
        have f3 : s1.I (16 + 3 * i) 11 = nI (flL l g [str]) := by
          rw [q2.2.1 _ _ (by unfold lnI'; omega)]
          show (wI (wF (if a = 0 then wF S (17 + 3 * i) l (nI ts.length) else S) (18 + 3 * i) l (nI (a + 1))) 6 5 (nI σ.length)).I (16 + 3 * i) 11 = _
          rw [wI_o (by omega), wF_I]
          split
          · exact S11
          · exact S11
        refine ⟨rfl, by omega, str, b1, e1, q1, q4, out_t oS (out_w q2 (fun k f z => by unfold lnI' at z; unfold cLI; omega) (fun k f z => by unfold lqF at z; unfold cLF; omega)), ol_t (ol_I (ol_F (ol_F ol_r (Or.inr ⟨Or.inl rfl, Nat.le_refl _⟩)) (Or.inr ⟨Or.inr rfl, Nat.le_refl _⟩)) ⟨rfl, Or.inr (Or.inr rfl)⟩) (ol_out (out_w q3 (fun k f z => by unfold rnI at z; unfold rLI; omega) (fun k f z => by unfold rqP at z; exact Or.inl ⟨z.1, by omega⟩))), f1, f2, f3, z3⟩
  · rw [c_tk0 hi hl12 c3, Option.bind_some]
    refine h.RV out_r ?_
    unfold chk
    rw [hch none, Option.bind_some, decide_eq_false (show ¬ s.I 7 2 = nI 3 from c3), if_neg (show ¬ false = true by decide), Option.bind_some]
    unfold fn_X12_taken
    exact (h.strN (Or.inl c3)).vv fun t1 v hv h1 => h1.nU.uv fun t2 h2 => h2.V hv
theorem p_str {k fr : Nat} {x : List Nat} {ts : List (List Nat)} {bg b e : Nat} {σ : List (Nat × Nat)} {N M cn ob dp rq T : Nat} {s t : uS} {i l a g : Nat} (h : pj k fr x ts bg b e ((10, 12 * i + l) :: σ) N M cn ob dp rq T s t) (hi : i < 320) (hl : lpl l) (ha : s.F (18 + 3 * i) l = nI a) (ha10 : a ≤ 10) (hg : s.I (16 + 3 * i) 11 = nI g) (hg2 : g < 32) : RV x s t ((fn_X4_takeString (nI (12 * i + l)) s).bind fun r => fn_X4_parse_13 (999999 - T) r.2 (nI T + 1) r.1) ((chk (nI a) t).bind fn_X12_taken) (strG k fr x ts bg e σ N M cn ob dp rq i l a g s t) := p_str1 h hi hl ha ha10 hg hg2
