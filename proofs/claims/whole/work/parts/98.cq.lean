/-! the tags of keep, fileinto, redirect -/
theorem nI_nm {a : Nat} (h : a < 2 ^ 31) : ¬ nI a = -1 := by
  intro z
  have := nI_le (a := 0) (Nat.zero_le a) h
  rw [z] at this
  exact absurd this (by decide)
def txs (ts : List (List Nat)) (f m : Nat) : List (List Nat) := (ts.drop f).take m
theorem txs_new {ts news : List (List Nat)} : txs (ts ++ news) ts.length news.length = news := by
  unfold txs
  rw [List.drop_left, List.take_length]
theorem txs_app {ts more : List (List Nat)} {f m : Nat} (h : f + m ≤ ts.length) : txs (ts ++ more) f m = txs ts f m := by
  unfold txs
  rw [List.drop_append_of_le_length (by omega), List.take_append_of_le_length (by rw [List.length_drop]; omega)]
def tgA (ts : List (List Nat)) (i n : Nat) (s t : uS) : Prop := ∃ f m : Nat, 1 ≤ m ∧ m ≤ 10 ∧ f + m ≤ ts.length ∧ t.F 1106 n = nI f ∧ t.F 1107 n = nI m ∧ s.I (16 + 3 * i) 11 = nI (flL 2 0 (txs ts f m))
def tgS (ts : List (List Nat)) (i n g : Nat) (s t : uS) : Prop := s.I (16 + 3 * i) 5 = nI g ∧ (g = 0 ∨ g = 8 ∨ g = 16 ∨ g = 24) ∧ t.F 1108 n = (if g &&& 16 = 0 then 0 else 1) ∧ (g &&& 8 = 0 → t.F 1106 n = -1 ∧ s.F (18 + 3 * i) 2 = nI 0 ∧ s.I (16 + 3 * i) 11 = nI 0) ∧ (g &&& 8 ≠ 0 → tgA ts i n s t)
theorem tgS.fr {ts more : List (List Nat)} {i n g : Nat} {s t s1 t1 : uS} (h : tgS ts i n g s t) (a : s1.I (16 + 3 * i) 5 = s.I (16 + 3 * i) 5) (b : s1.I (16 + 3 * i) 11 = s.I (16 + 3 * i) 11) (c : s1.F (18 + 3 * i) 2 = s.F (18 + 3 * i) 2) (d : t1.F 1106 n = t.F 1106 n) (e : t1.F 1107 n = t.F 1107 n) (f : t1.F 1108 n = t.F 1108 n) : tgS (ts ++ more) i n g s1 t1 := by
  obtain ⟨h1, h2, h3, h4, h5⟩ := h
  refine ⟨a.trans h1, h2, f.trans h3, fun z => ⟨d.trans (h4 z).1, c.trans (h4 z).2.1, b.trans (h4 z).2.2⟩, fun z => ?_⟩
  obtain ⟨f0, m, a1, a2, a3, a4, a5, a6⟩ := h5 z
  exact ⟨f0, m, a1, a2, by rw [List.length_append]; omega, d.trans a4, e.trans a5, by rw [b, a6, txs_app a3]⟩
def tgG (k fr : Nat) (x : List Nat) (ts : List (List Nat)) (bg b : Nat) (σ : List (Nat × Nat)) (N M cn ob dp rq i n : Nat) (s t : uS) (s1 : uS) (T1 : Nat) (t1 : uS) : Prop := ∃ (news : List (List Nat)) (bg1 b1 e1 g1 : Nat), bg ≤ bg1 ∧ b ≤ b1 ∧ pj k fr x (ts ++ news) bg1 b1 e1 σ N M cn ob dp rq T1 s1 t1 ∧ tgS (ts ++ news) i n g1 s1 t1 ∧ out (tgI i) (tgF i) s s1 ∧ ol rLI (rtF n ts.length bg) rNo t t1
theorem tgG.w {k fr : Nat} {x : List Nat} {ts new0 : List (List Nat)} {bg b bg0 b0 : Nat} {σ : List (Nat × Nat)} {N M cn ob dp rq i n : Nat} {s t s0 t0 s1 t1 : uS} {T1 : Nat} (h : tgG k fr x (ts ++ new0) bg b σ N M cn ob dp rq i n s t s1 T1 t1) (a : bg0 ≤ bg) (c : b0 ≤ b) (o : out (tgI i) (tgF i) s0 s) (q : ol rLI (rtF n ts.length bg0) rNo t0 t) : tgG k fr x ts bg0 b0 σ N M cn ob dp rq i n s0 t0 s1 T1 t1 := by
  obtain ⟨news, bg1, b1, e1, g1, h1, h2, h3, h4, h5, h6⟩ := h
  rw [List.append_assoc] at h3 h4
  exact ⟨new0 ++ news, bg1, b1, e1, g1, by omega, by omega, h3, h4, out_t o h5, ol_t q (rt_rt h6 (by rw [List.length_append]; omega) a)⟩
theorem RU.w {x : List Nat} {s t : uS} {C : Option (uS × Int32)} {A : Option uS} {G H : uS → Nat → uS → Prop} (h : RU x s t C A G) (f : ∀ (s1 : uS) (T1 : Nat) (t1 : uS), G s1 T1 t1 → H s1 T1 t1) : RU x s t C A H := by
  rcases h with h | ⟨T1, s1, t1, a1, a2, a3, a4, a5⟩
  · exact Or.inl h
  · exact Or.inr ⟨T1, s1, t1, a1, a2, a3, a4, f _ _ _ a5⟩
theorem RV.w {x : List Nat} {s t : uS} {C : Option (uS × Int32)} {A : Option (uS × Int32)} {G H : uS → Nat → uS → Nat → Prop} (h : RV x s t C A G) (f : ∀ (s1 : uS) (T1 : Nat) (t1 : uS) (v : Nat), G s1 T1 t1 v → H s1 T1 t1 v) : RV x s t C A H := by
  rcases h with h | ⟨T1, s1, t1, v, a1, a2, a3, a4, a5⟩
  · exact Or.inl h
  · exact Or.inr ⟨T1, s1, t1, v, a1, a2, a3, a4, f _ _ _ _ a5⟩
theorem stV.ps {a c : Nat} {σ : List (Nat × Nat)} (h : stV σ) (ha : a ≤ 13) (hc : c < 3840) (h9 : a ≤ 9 → c < 320) : stV ((a, c) :: σ) := by
  intro p hp
  rcases List.mem_cons.mp hp with z | z
  · rw [z]; exact ⟨ha, h9, hc⟩
  · exact h p z
theorem p_tags {k fr : Nat} {x : List Nat} {i n : Nat} (hi : i < 320) (hn : n < 520) {κ κ' : Nat} (hκ : (κ = 3 ∧ κ' = 4) ∨ (κ = 4 ∧ κ' = 5) ∨ (κ = 5 ∧ κ' = 6)) {σ : List (Nat × Nat)} (hσ : σ.length ≤ 70) {N M cn ob dp rq : Nat} : ∀ (m fu : Nat) (ts : List (List Nat)) (bg b e T g : Nat) (s t : uS), x.length + 1 ≤ m + b → m + 1 ≤ fu → pj k fr x ts bg b e ((8, i) :: σ) N M cn ob dp rq T s t → s.I (16 + 3 * i) 0 = nI κ → t.F 1098 n = nI κ' → tgS ts i n g s t → RU x s t (pd T s) (fn_X12_tags_0 fu (nI n) t) (tgG k fr x ts bg b σ N M cn ob dp rq i n s t) := by
  intro m
  induction m using Nat.strongRecOn with
  | _ m ih =>
  intro fu ts bg b e T g s t hm hfu h h0 hk' hS
  have hb := h.bl
  obtain ⟨k1, k2, k3, k4, k5, k6, k7, k8, k9, k10, k11, k12, k13⟩ := h.2.2.2
  obtain ⟨r1, r2, r3, r4, r5, r6, r7, r8⟩ := h.2.2.1
  obtain ⟨fu', rfl⟩ : ∃ fu', fu = fu' + 1 := ⟨fu - 1, by omega⟩
  rw [pd_8 h]
  show RU x s t _ (fb_X12_tags_0 (fn_X12_tags_0 fu') (nI n) t) _
  unfold fb_X12_tags_0
  have h2 : fn_X12_is 2 t = some (decide (s.I 7 2 = nI 1)) := h.is (c := 1) (by decide)
  rw [h2, Option.bind_some]
  by_cases c1 : s.I 7 2 = 1
  · rw [if_pos c1, decide_eq_true (show s.I 7 2 = nI 1 from c1), if_pos rfl]
    obtain ⟨hbe, v, v1, v2, v3⟩ := h.tag1 c1
    obtain ⟨g1, g2, g3, g4, g5⟩ := hS
    have hg : g < 1024 := by omega
    have hκ26 : κ < 26 := by omega
    -- the reference's two booleans
    have eF : ((fn_X12_wordIs kW_95 t).bind fun v5 => if v5 = true then ((iget 20 t 1098 (nI n)).bind fun v8 => if v8 = 6 then (fb_X12_tags_34 (fn_X12_tags_0 fu') (nI n) false t) else (fb_X12_tags_34 (fn_X12_tags_0 fu') (nI n) true t)) else (fb_X12_tags_34 (fn_X12_tags_0 fu') (nI n) false t)) = fb_X12_tags_60 (fn_X12_tags_0 fu') (nI n) (decide (v = 9 ∧ κ' ≠ 6)) (decide (v = 10 ∧ κ' ≠ 4)) t := by
      have e34 : ∀ z : Bool, fb_X12_tags_34 (fn_X12_tags_0 fu') (nI n) z t = fb_X12_tags_60 (fn_X12_tags_0 fu') (nI n) z (decide (v = 10 ∧ κ' ≠ 4)) t := by
        intro z
        unfold fb_X12_tags_34
        rw [v3 kW_80 10 tw_80 t ol_r, Option.bind_some]
        by_cases q : v = 10
        · rw [decide_eq_true q, if_pos rfl, g_1098 hn, Option.bind_some, hk']
          by_cases q2 : κ' = 4
          · rw [if_pos (show nI κ' = 4 by rw [q2]; rfl), decide_eq_false (fun z => z.2 q2)]
          · rw [if_neg (show ¬ nI κ' = 4 by show ¬ nI κ' = nI 4; rw [nI_eq (by omega) (by omega)]; exact q2), decide_eq_true (show v = 10 ∧ κ' ≠ 4 from ⟨q, q2⟩)]
        · rw [decide_eq_false q, if_neg (show ¬ false = true by decide), decide_eq_false (fun z => q z.1)]
      rw [v3 kW_95 9 tw_95 t ol_r, Option.bind_some]
      by_cases q : v = 9
      · rw [decide_eq_true q, if_pos rfl, g_1098 hn, Option.bind_some, hk']
        by_cases q2 : κ' = 6
        · rw [if_pos (show nI κ' = 6 by rw [q2]; rfl), decide_eq_false (fun z => z.2 q2), e34]
        · rw [if_neg (show ¬ nI κ' = 6 by show ¬ nI κ' = nI 6; rw [nI_eq (by omega) (by omega)]; exact q2), e34]
          congr 1
          exact (decide_eq_true (show v = 9 ∧ κ' ≠ 6 from ⟨q, q2⟩)).symm
      · rw [decide_eq_false q, if_neg (show ¬ false = true by decide), e34]
        congr 1
        exact (decide_eq_false (show ¬ (v = 9 ∧ κ' ≠ 6) from fun z => q z.1)).symm
    rw [eF]
    obtain ⟨fu2, rfl⟩ : ∃ fu2, fu' = fu2 + 1 := ⟨fu' - 1, by omega⟩
    have f104 : ∀ {b2 b3 : Bool} (p : Nat) (U : uS), fO p U → FU p U (fb_X12_tags_104 (fn_X12_tags_0 (fu2 + 1)) (nI n) b2 b3 U) := fun p U hU => hU.tg104 hn
    have f96 : ∀ {b2 b3 : Bool}, FU b t (fb_X12_tags_96 (fn_X12_tags_0 (fu2 + 1)) (nI n) b2 b3 t) := by
      intro b2 b3
      unfold fb_X12_tags_96
      exact h.fl.uu fun t1 h1 => h1.tg104 hn
    have bad : (TKn.getD κ 0 &&& TGn.getD v 0 = 0 ∨ ¬ g &&& TGn.getD v 0 = 0 ∨ ¬ rq &&& NBn.getD v 0 = NBn.getD v 0 ∨ v = 17) → FU b t (fb_X12_tags_60 (fn_X12_tags_0 (fu2 + 1)) (nI n) (decide (v = 9 ∧ κ' ≠ 6)) (decide (v = 10 ∧ κ' ≠ 4)) t) → RU x s t ((fn_X4_takeTag (nI i) s).bind fun r => fn_X4_parse_13 (999999 - T) r.2 (nI T + 1) r.1) (fb_X12_tags_60 (fn_X12_tags_0 (fu2 + 1)) (nI n) (decide (v = 9 ∧ κ' ≠ 6)) (decide (v = 10 ∧ κ' ≠ 4)) t) (tgG k fr x ts bg b σ N M cn ob dp rq i n s t) := by
      intro z f
      have : fn_X4_takeTag (nI i) s = some (s, 0) := by
        by_cases q : v = 17
        · exact c_tagN hi (by rw [v2, if_pos q])
        · rw [c_tag hi (show v < 17 by omega) hκ26 hg (by rw [v2, if_neg q]) h0 g1 h.2.1.2.2.2.2.2 k12, if_pos]
          rcases z with z | z | z | z
          · exact Or.inl z
          · exact Or.inr (Or.inl z)
          · exact Or.inr (Or.inr z)
          · exact absurd z q
      rw [this, Option.bind_some]
      exact h.RU out_r f
    by_cases cF : v = 9 ∧ κ' ≠ 6
    · -- :flags
      have q9 := cF.1
      have cN : ¬ (v = 10 ∧ κ' ≠ 4) := fun z => by omega
      rw [decide_eq_true cF, decide_eq_false cN] at bad ⊢
      have e60 : fb_X12_tags_60 (fn_X12_tags_0 (fu2 + 1)) (nI n) true false t = if t.F 1106 n = -1 then ((fn_X12_needs 16 t).bind fun s1 => (fn_X12_next s1).bind fun s3 => fb_X12_tags_134 (fn_X12_tags_0 (fu2 + 1)) (nI n) true s3) else fb_X12_tags_96 (fn_X12_tags_0 (fu2 + 1)) (nI n) true false t := by
        unfold fb_X12_tags_60 fb_X12_tags_69 fb_X12_tags_83 fb_X12_tags_104 fb_X12_tags_116
        rw [if_pos rfl, if_pos rfl, g_1106 hn, Option.bind_some]
        rfl
      by_cases cg : g &&& 8 = 0
      · have e1106 := (g4 cg).1
        have e11 := (g4 cg).2.2
        have e18 := (g4 cg).2.1
        rw [if_pos e1106] at e60
        have rn := r_needs (j := 4) r5 k12 (by decide)
        by_cases cr : rq &&& 16 = 16
        · rw [show fn_X12_needs 16 t = some t by rw [show (16 : Int32) = nI (2 ^ 4) from rfl, rn, if_pos cr], Option.bind_some] at e60
          rw [e60]
          have acc : fn_X4_takeTag (nI i) s = some (psh (tagW s i κ 9 g) (σ.length + 1) 11 (nI (12 * i + 2)), 1) := by
            have h5 : (tagW s i κ 9 g).I 6 5 = nI (σ.length + 1) := by
              unfold tagW
              rw [if_neg (by decide), if_neg (by omega), wI_o (by omega)]
              exact h.2.1.1
            rw [c_tag hi (show v < 17 by omega) hκ26 hg (by rw [v2, if_neg (by omega)]) h0 g1 h.2.1.2.2.2.2.2 k12, if_neg, q9]
            · exact c115_9 h5 (by omega)
            · rw [q9]
              show ¬ (TKn.getD κ 0 &&& 8 = 0 ∨ ¬ g &&& 8 = 0 ∨ ¬ rq &&& 16 = 16)
              rintro (z | z | z)
              · rcases hκ with ⟨q, -⟩ | ⟨q, -⟩ | ⟨q, q'⟩
                · rw [q] at z; exact absurd z (by decide)
                · rw [q] at z; exact absurd z (by decide)
                · exact cF.2 q'
              · exact z cg
              · exact z cr
          rw [acc, Option.bind_some]
          have hW : tagW s i κ 9 g = wI s (16 + 3 * i) 5 (nI (g ||| 8)) := by
            unfold tagW
            rw [if_neg (by decide), if_neg (by omega)]; rfl
          rw [hW]
          have hmW : pm ((8, i) :: σ) N cn ob rq (wI s (16 + 3 * i) 5 (nI (g ||| 8))) := h.2.1.fr (fun f => wI_o (by omega)) (fun _ _ _ => rfl)
          have hmP := pm.psh (a := 11) (c := 12 * i + 2) hmW
          have oC : out cnI cnF s (psh (wI s (16 + 3 * i) 5 (nI (g ||| 8))) (σ.length + 1) 11 (nI (12 * i + 2))) := psh_o (out_I out_r (Or.inr ⟨by omega, by omega⟩)) (Or.inl rfl) (Or.inl rfl) (Or.inr (Or.inl rfl))
          have oT : out (tgI i) (tgF i) s (psh (wI s (16 + 3 * i) 5 (nI (g ||| 8))) (σ.length + 1) 11 (nI (12 * i + 2))) := psh_o (out_I out_r (Or.inr (Or.inr (Or.inr ⟨rfl, Nat.le_refl _⟩)))) (Or.inl ⟨rfl, rfl⟩) (Or.inr (Or.inr (Or.inr (Or.inl rfl)))) (Or.inr (Or.inr (Or.inr (Or.inr (Or.inl rfl)))))
          rw [List.length_cons] at k5
          refine RU.uu (G := fun s2 T2 t2 => ∃ b2 e2 : Nat, e ≤ b2 ∧ out lnI' lqF (psh (wI s (16 + 3 * i) 5 (nI (g ||| 8))) (σ.length + 1) 11 (nI (12 * i + 2))) s2 ∧ out rnI (rqP bg) t t2 ∧ pj k fr x ts bg b2 e2 ((11, 12 * i + 2) :: (8, i) :: σ) N M cn ob dp rq T2 s2 t2) (pj_go h (by rw [c1]; decide) hbe oC ol_r hmP h.2.2.1 (by simp only [List.length_cons]; omega) (by simp only [List.length_cons]; omega) (k6.ps (by omega) (by omega) (fun z => by omega)) k7 k8 k9 k10 k11 k12 (fun s2 t2 b2 e2 q1 q2 q3 q4 => ⟨b2, e2, q1, q2, q3, q4⟩)) (fun p t2 h2 => h2.tg134 hn) ?_
          rintro s2 T2 t2 - - ⟨b2, e2, w1, w2, w3, w4⟩
          unfold fb_X12_tags_134
          rw [if_pos rfl, p_1106 hn, Option.bind_some]
          have w5 := w4.wF (r := 1106) (n := n) (v := t2.I 1079 61) (by omega)
          have l1 : s2.F (18 + 3 * i) 2 = nI 0 := by
            rw [w2.2.2 _ _ (by unfold lqF; omega), psh_F (by omega) (by omega)]; exact e18
          have l2 : s2.I (16 + 3 * i) 11 = nI 0 := by
            rw [w2.2.1 _ _ (by unfold lnI'; omega), psh_I (by omega), wI_o (by omega)]; exact e11
          have r61 : t2.I 1079 61 = nI ts.length := w4.2.2.1.2.2.2.2.2.1
          have pl := p_list w5 hi (l := 2) (Or.inr (Or.inr (Or.inl rfl))) (by rw [List.length_cons]; omega) l1 l2 (by decide)
          have q26 : RU x s2 (wF t2 1106 n (t2.I 1079 61)) (pd T2 s2) ((fn_X12_list (wF t2 1106 n (t2.I 1079 61))).bind fun r4 => (iput 20 r4.1 1107 (nI n) r4.2).bind fun s6 => fn_X12_tags_0 (fu2 + 1) (nI n) s6) (tgG k fr x ts bg b σ N M cn ob dp rq i n s t) := by
            refine RV.vu pl (fun p t3 v hv h3 => (h3.p1107 hn).uu fun t4 h4 => h4.tg) ?_
            rintro s3 T3 t3 v3' - - ⟨news, b3, e3, bg3, d1, d2, d3, d4, d5, d6, d7, d8, d9, d10, d11, d12⟩
            show RU x s3 t3 _ ((iput 20 t3 1107 (nI n) (nI v3')).bind _) _
            rw [p_1107 hn, Option.bind_some]
            have d6' := d6.wF (r := 1107) (n := n) (v := nI v3') (by omega)
            have hl := h.1.l
            have hl2 := w4.1.l
            have oA : out (tgI i) (tgF i) s s3 := out_t oT (out_t (ln_tg w2) (cL_tg (Or.inl rfl) d7))
            have qA : ol rLI (rtF n ts.length bg) rNo t (wF t3 1107 n (nI v3')) := by
              refine ol_F (ol_t (ol_t (rL_rt (rq_rL (j := ts.length) w3) (Nat.le_refl _) (Nat.le_refl _)) (ol_F ol_r (Or.inr ⟨by omega, rfl⟩))) (rL_rt d8 (Nat.le_refl _) (Nat.le_refl _))) (Or.inr ⟨by omega, rfl⟩)
            have hg8 : (g = 0 ∧ g ||| 8 = 8) ∨ (g = 16 ∧ g ||| 8 = 24) := by
              rcases g2 with z | z | z | z <;> rw [z] at cg ⊢ <;> revert cg <;> decide
            have rows : ∀ r : Nat, r = 1098 ∨ r = 1108 → (wF t3 1107 n (nI v3')).F r n = t.F r n := by
              intro r hr
              rw [wF_o (by omega), d8.2.2.1 _ _ (by unfold rLF; omega), wF_o (by omega), w3.2.2 _ _ (by unfold rqP; omega)]
            have nS : tgS (ts ++ news) i n (g ||| 8) s3 (wF t3 1107 n (nI v3')) := by
              refine ⟨?_, ?_, ?_, ?_, ?_⟩
              · rw [d7.2.1 _ _ (by unfold cLI; omega), w2.2.1 _ _ (by unfold lnI'; omega), psh_I (by omega), wI_e]
              · omega
              · rw [rows 1108 (Or.inr rfl), g3]
                rcases hg8 with ⟨z1, z2⟩ | ⟨z1, z2⟩ <;> rw [z2, z1] <;> rfl
              · intro z
                rcases hg8 with ⟨z1, z2⟩ | ⟨z1, z2⟩ <;> rw [z2] at z <;> exact absurd z (by decide)
              · intro _
                refine ⟨ts.length, news.length, d2, by omega, by rw [List.length_append]; omega, ?_, ?_, ?_⟩
                · rw [wF_o (by omega), d8.2.2.1 _ _ (by unfold rLF; omega), wF_e, r61]
                · rw [wF_e, d1, Nat.zero_add]
                · rw [d11, txs_new]
            have := ih (m - 1) (by omega) (fu2 + 1) (ts ++ news) bg3 b3 e3 T3 (g ||| 8) s3 (wF t3 1107 n (nI v3')) (by omega) (by omega) d6' (by rw [oA.2.1 _ _ (by unfold tgI; omega)]; exact h0) (by rw [rows 1098 (Or.inl rfl)]; exact hk') nS
            have ww := this.w (H := tgG k fr x ts bg b σ N M cn ob dp rq i n s t) (fun s4 T4 t4 hG => hG.w d4 (by omega) oA qA)
            rcases ww with ⟨p, s4, y1, y2, y3, y4⟩ | ⟨T4, s4, t4, y1, y2, y3, y4, y5⟩
            · exact Or.inl ⟨p, s4, y1, y2, y3, y4.w (ol_F ol_r (by unfold rdF; omega))⟩
            · exact Or.inr ⟨T4, s4, t4, y1, y2, y3, ol_t (ol_F ol_r (by unfold rdF; omega)) y4, y5⟩
          rcases q26 with ⟨p, s4, y1, y2, y3, y4⟩ | ⟨T4, s4, t4, y1, y2, y3, y4, y5⟩
          · exact Or.inl ⟨p, s4, y1, y2, y3, y4.w (ol_F ol_r (by unfold rdF; omega))⟩
          · exact Or.inr ⟨T4, s4, t4, y1, y2, y3, ol_t (ol_F ol_r (by unfold rdF; omega)) y4, y5⟩
        · refine bad (Or.inr (Or.inr (Or.inl (by rw [q9]; exact cr)))) ?_
          rw [e60, show fn_X12_needs 16 t = ((fn_X12_fail (t.I 1079 32) t).bind fun s2 => some s2) by rw [show (16 : Int32) = nI (2 ^ 4) from rfl, rn, if_neg cr]]
          exact (h.fl.uu fun t1 h1 => h1.U).uu fun t1 h1 => h1.nU.uu fun t2 h2 => h2.tg134 hn
      · obtain ⟨f0, m0, -, -, hts, e6, -, -⟩ := g5 cg
        refine bad (Or.inr (Or.inl (by rw [q9]; exact cg))) ?_
        rw [e60, if_neg (show ¬ t.F 1106 n = -1 by rw [e6]; exact nI_nm (by omega))]
        exact f96
    · by_cases cC : v = 10 ∧ κ' ≠ 4
      · -- :copy
        have q10 := cC.1
        rw [decide_eq_false cF, decide_eq_true cC] at bad ⊢
        have e60 : fb_X12_tags_60 (fn_X12_tags_0 (fu2 + 1)) (nI n) false true t = if t.F 1108 n = 0 then ((fn_X12_needs 8 t).bind fun s1 => (fn_X12_next s1).bind fun s3 => (iput 22 s3 1108 (nI n) 1).bind fun s6 => fn_X12_tags_0 (fu2 + 1) (nI n) s6) else fb_X12_tags_96 (fn_X12_tags_0 (fu2 + 1)) (nI n) false true t := by
          unfold fb_X12_tags_60 fb_X12_tags_69 fb_X12_tags_83 fb_X12_tags_104 fb_X12_tags_116 fb_X12_tags_134
          simp only [Bool.false_eq_true, if_false, if_true]
          rw [g_1108 hn, Option.bind_some]
        by_cases cg : g &&& 16 = 0
        · rw [g3, if_pos cg, if_pos rfl] at e60
          have rn := r_needs (j := 3) r5 k12 (by decide)
          by_cases cr : rq &&& 8 = 8
          · rw [show fn_X12_needs 8 t = some t by rw [show (8 : Int32) = nI (2 ^ 3) from rfl, rn, if_pos cr], Option.bind_some] at e60
            rw [e60]
            have hW : tagW s i κ 10 g = wI s (16 + 3 * i) 5 (nI (g ||| 16)) := by
              unfold tagW
              rw [if_neg (by decide), if_neg (by omega)]; rfl
            have acc : fn_X4_takeTag (nI i) s = some (wI s (16 + 3 * i) 5 (nI (g ||| 16)), 1) := by
              have h5 : (wI s (16 + 3 * i) 5 (nI (g ||| 16))).I 6 5 = nI (σ.length + 1) := by
                rw [wI_o (by omega)]
                exact h.2.1.1
              rw [c_tag hi (show v < 17 by omega) hκ26 hg (by rw [v2, if_neg (by omega)]) h0 g1 h.2.1.2.2.2.2.2 k12, if_neg, q10, hW]
              · exact c115_10 h5 (by rw [List.length_cons] at k5; omega)
              · rw [q10]
                show ¬ (TKn.getD κ 0 &&& 16 = 0 ∨ ¬ g &&& 16 = 0 ∨ ¬ rq &&& 8 = 8)
                rintro (z | z | z)
                · rcases hκ with ⟨q, q'⟩ | ⟨q, -⟩ | ⟨q, -⟩
                  · exact cC.2 q'
                  · rw [q] at z; exact absurd z (by decide)
                  · rw [q] at z; exact absurd z (by decide)
                · exact z cg
                · exact z cr
            rw [acc, Option.bind_some]
            have hmW : pm ((8, i) :: σ) N cn ob rq (wI s (16 + 3 * i) 5 (nI (g ||| 16))) := h.2.1.fr (fun f => wI_o (by omega)) (fun _ _ _ => rfl)
            refine RU.uu (G := fun s2 T2 t2 => ∃ b2 e2 : Nat, e ≤ b2 ∧ out lnI' lqF (wI s (16 + 3 * i) 5 (nI (g ||| 16))) s2 ∧ out rnI (rqP bg) t t2 ∧ pj k fr x ts bg b2 e2 ((8, i) :: σ) N M cn ob dp rq T2 s2 t2) (pj_go h (by rw [c1]; decide) hbe (out_I out_r (Or.inr ⟨by omega, by omega⟩)) ol_r hmW h.2.2.1 (by omega) k5 k6 k7 k8 k9 k10 k11 k12 (fun s2 t2 b2 e2 q1 q2 q3 q4 => ⟨b2, e2, q1, q2, q3, q4⟩)) (fun p t2 h2 => (h2.p1108 hn).uu fun t3 h3 => h3.tg) ?_
            rintro s2 T2 t2 - - ⟨b2, e2, w1, w2, w3, w4⟩
            rw [p_1108 hn, Option.bind_some]
            have w5 := w4.wF (r := 1108) (n := n) (v := unar 22 1) (by omega)
            have hg16 : (g = 0 ∧ g ||| 16 = 16) ∨ (g = 8 ∧ g ||| 16 = 24) := by
              rcases g2 with z | z | z | z <;> rw [z] at cg ⊢ <;> revert cg <;> decide
            have oA : out (tgI i) (tgF i) s s2 := out_t (out_I out_r (Or.inr (Or.inr (Or.inr ⟨rfl, Nat.le_refl _⟩)))) (ln_tg w2)
            have qA : ol rLI (rtF n ts.length bg) rNo t (wF t2 1108 n (unar 22 1)) := ol_F (rL_rt (rq_rL (j := ts.length) w3) (Nat.le_refl _) (Nat.le_refl _)) (Or.inr ⟨by omega, rfl⟩)
            have rows : ∀ r : Nat, r = 1098 ∨ r = 1106 ∨ r = 1107 → (wF t2 1108 n (unar 22 1)).F r n = t.F r n := by
              intro r hr
              rw [wF_o (by omega), w3.2.2 _ _ (by unfold rqP; omega)]
            have nS : tgS (ts ++ []) i n (g ||| 16) s2 (wF t2 1108 n (unar 22 1)) := by
              rw [List.append_nil]
              have i11 : s2.I (16 + 3 * i) 11 = s.I (16 + 3 * i) 11 := by rw [w2.2.1 _ _ (by unfold lnI'; omega), wI_o (by omega)]
              refine ⟨?_, ?_, ?_, fun z => ?_, fun z => ?_⟩
              · rw [w2.2.1 _ _ (by unfold lnI'; omega), wI_e]
              · omega
              · rw [wF_e]
                rcases hg16 with ⟨z1, z2⟩ | ⟨z1, z2⟩ <;> rw [z2] <;> rfl
              · have z0 : g &&& 8 = 0 := by
                  rcases hg16 with ⟨z1, z2⟩ | ⟨z1, z2⟩
                  · rw [z1]; rfl
                  · rw [z2] at z; exact absurd z (by decide)
                obtain ⟨a1, a2, a3⟩ := g4 z0
                refine ⟨by rw [rows 1106 (by omega)]; exact a1, ?_, i11.trans a3⟩
                rw [w2.2.2 _ _ (by unfold lqF; omega)]; exact a2
              · have z0 : g &&& 8 ≠ 0 := by
                  rcases hg16 with ⟨z1, z2⟩ | ⟨z1, z2⟩
                  · rw [z2] at z; exact absurd rfl z
                  · rw [z1]; decide
                obtain ⟨f0, m0, a1, a2, a3, a4, a5, a6⟩ := g5 z0
                exact ⟨f0, m0, a1, a2, a3, by rw [rows 1106 (by omega)]; exact a4, by rw [rows 1107 (by omega)]; exact a5, i11.trans a6⟩
            rw [List.append_nil] at nS
            have hl := h.1.l
            have := ih (m - 1) (by omega) (fu2 + 1) ts bg b2 e2 T2 (g ||| 16) s2 (wF t2 1108 n (unar 22 1)) (by omega) (by omega) w5 (by rw [oA.2.1 _ _ (by unfold tgI; omega)]; exact h0) (by rw [rows 1098 (Or.inl rfl)]; exact hk') nS
            have ww := this.w (H := tgG k fr x ts bg b σ N M cn ob dp rq i n s t) (fun s4 T4 t4 hG => by
              have hG' : tgG k fr x (ts ++ []) bg b2 σ N M cn ob dp rq i n s2 (wF t2 1108 n (unar 22 1)) s4 T4 t4 := by rw [List.append_nil]; exact hG
              exact hG'.w (Nat.le_refl _) (by omega) oA qA)
            rcases ww with ⟨p, s4, y1, y2, y3, y4⟩ | ⟨T4, s4, t4, y1, y2, y3, y4, y5⟩
            · exact Or.inl ⟨p, s4, y1, y2, y3, y4.w (ol_F ol_r (by unfold rdF; omega))⟩
            · exact Or.inr ⟨T4, s4, t4, y1, y2, y3, ol_t (ol_F ol_r (by unfold rdF; omega)) y4, y5⟩
          · refine bad (Or.inr (Or.inr (Or.inl (by rw [q10]; exact cr)))) ?_
            rw [e60, show fn_X12_needs 8 t = ((fn_X12_fail (t.I 1079 32) t).bind fun s2 => some s2) by rw [show (8 : Int32) = nI (2 ^ 3) from rfl, rn, if_neg cr]]
            exact (h.fl.uu fun t1 h1 => h1.U).uu fun t1 h1 => h1.nU.uu fun t2 h2 => (h2.p1108 hn).uu fun t3 h3 => h3.tg
        · refine bad (Or.inr (Or.inl (by rw [q10]; exact cg))) ?_
          rw [e60, g3, if_neg cg, if_neg (by decide)]
          exact f96
      · -- neither
        refine bad ?_ ?_
        · by_cases q : v = 17
          · exact Or.inr (Or.inr (Or.inr q))
          · left
            have hv17 : v < 17 := by omega
            have key : ∀ a : Fin 17, (a.1 ≠ 9 → TKn.getD 3 0 &&& TGn.getD a.1 0 = 0) ∧ (a.1 ≠ 9 → a.1 ≠ 10 → TKn.getD 4 0 &&& TGn.getD a.1 0 = 0) ∧ (a.1 ≠ 10 → TKn.getD 5 0 &&& TGn.getD a.1 0 = 0) := by decide
            have := key ⟨v, hv17⟩
            rcases hκ with ⟨q1, q2⟩ | ⟨q1, q2⟩ | ⟨q1, q2⟩
            · rw [q1]; exact this.1 (fun z => cF ⟨z, by omega⟩)
            · rw [q1]; exact this.2.1 (fun z => cF ⟨z, by omega⟩) (fun z => cC ⟨z, by omega⟩)
            · rw [q1]; exact this.2.2 (fun z => cC ⟨z, by omega⟩)
        · rw [decide_eq_false cF, decide_eq_false cC]
          unfold fb_X12_tags_60
          rw [if_neg (show ¬ false = true by decide), if_neg (show ¬ false = true by decide)]
          exact f96
  · rw [if_neg c1, decide_eq_false (show ¬ s.I 7 2 = nI 1 from c1), if_neg (show ¬ false = true by decide), c_pop h.2.1, Option.bind_some]
    show RU x s t (fn_X4_parse_13 (999999 - T) 2 (nI T + 1) (wI s 6 5 (nI σ.length))) _ _
    rw [K_pass hb.2.1]
    have hp := h.pop
    refine Or.inr ⟨T + 1, _, t, rfl, rfl, out_I out_r ⟨by omega, by omega⟩, ol_r, [], bg, b, e, g, Nat.le_refl _, Nat.le_refl _, ?_, ?_, out_I out_r (Or.inl ⟨rfl, rfl⟩), ol_r⟩
    · rw [List.append_nil]; exact hp
    · exact hS.fr (wI_o (by omega)) (wI_o (by omega)) rfl rfl rfl rfl
