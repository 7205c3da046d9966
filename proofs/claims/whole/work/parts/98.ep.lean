/-! the reference: addresses in a value, part by part -/
theorem fnb_at {bs : List Nat} {b : Nat} : ∀ (n i j : Nat), fnb bs b i n = some j → bs.getD j 0 = b := by
  intro n
  induction n with
  | zero => intro i j h; cases h
  | succ n ih =>
    intro i j h
    unfold fnb at h
    split at h
    · rename_i c; cases h; exact c
    · exact ih _ _ h
theorem adr_34 {w : List Nat} (h : 34 ∈ w) : adr w = none := by
  obtain ⟨j, hj, e⟩ := List.mem_iff_getElem.mp h
  have e2 : w.getD j 0 = 34 := by rw [List.getD_eq_getElem?_getD, List.getElem?_eq_getElem hj]; exact e
  unfold adr
  split
  · rfl
  · rename_i p hp
    have p1 := fnb_at _ _ _ hp
    split
    · rename_i hd
      exfalso
      obtain ⟨h1, h2⟩ := hd
      have key : ∀ (a b mo : Nat) (l : Bool), a ≤ j → j < b → dot w a b mo l = true → False := by
        intro a b mo l k1 k2 k3
        unfold dot dotB at k3
        simp only [Bool.and_eq_true] at k3
        have := allB_iff.mp k3.2.1 j k1 (by omega)
        rw [decide_eq_true_eq] at this
        unfold cnd at this
        rw [e2, if_neg (by decide)] at this
        cases l <;> revert this <;> decide
      by_cases c : j < p
      · exact key 0 p 40 true (Nat.zero_le _) c h1
      · by_cases c2 : j = p
        · subst c2; rw [e2] at p1; cases p1
        · exact key (p + 1) w.length 60 false (by omega) hj h2
    · rfl
def npI (k f : Nat) : Prop := k = 1079 ∧ (f = 21 ∨ f = 24 ∨ f = 25)
def npF (k _f : Nat) : Prop := k = 1093
/-- the value as the reference walks it -/
def rWh (t : uS) (w : List Nat) : Prop := t.I 1079 27 = nI w.length ∧ w.length ≤ 4000 ∧ bys w ∧ ∀ j : Nat, j < w.length → t.F 1095 j = nI (w.getD j 0)
theorem rWh.o {t t1 : uS} {w : List Nat} {PI PF : Nat → Nat → Prop} (h : rWh t w) (o : out PI PF t t1) (hI : ¬ PI 1079 27) (hF : ∀ f : Nat, ¬ PF 1095 f) : rWh t1 w := by
  obtain ⟨h1, h2, h3, h4⟩ := h
  exact ⟨(o.2.1 _ _ hI).trans h1, h2, h3, fun j hj => (o.2.2 _ _ (hF j)).trans (h4 j hj)⟩
theorem r1_add {t : uS} {v : List Nat} {c : Nat} (h : r1 t v) (hc : c < 256) (hl : v.length < 4100) : ∃ t1 : uS, fn_X12_add (nI c) t = some t1 ∧ r1 t1 (v ++ [c]) ∧ out npI npF t t1 := by
  obtain ⟨h1, h2, h3, h4⟩ := h
  refine ⟨wI (wF t 1093 v.length (nI c)) 1079 21 (nI (v.length + 1)), ?_, ⟨?_, ?_, bys_app h3 hc, ?_⟩, out_I (out_F out_r rfl) ⟨rfl, Or.inl rfl⟩⟩
  · unfold fn_X12_add
    rw [h1, p_1093 (by omega), Option.bind_some, wF_I, h1, nI_1]
  · rw [wI_e, List.length_append]; rfl
  · rw [List.length_append]; simp; omega
  · intro j hj
    rw [List.length_append] at hj
    simp at hj
    rw [wI_F]
    by_cases e : j = v.length
    · rw [e, wF_e, getDn_end]
    · rw [wF_o (by omega), getDn_app (by omega)]; exact h4 j (by omega)
def relC (v cur : List Nat) : Prop := v = cur ∨ (34 ∈ v ∧ 34 ∈ cur)
def vOk (v : List Nat) : List (List Nat) := if (adr v).isSome = true then [v] else []
/-- what nextPart gives -/
def npG (w : List Nat) (k a d : Nat) (q : Bool) (cur : List Nat) (t : uS) (r : Option (uS × Bool)) : Prop := ∃ (t1 : uS) (v : List Nat) (k' : Nat), r = some (t1, true) ∧ r1 t1 v ∧ t1.I 1079 25 = bI (decide (k' < w.length)) ∧ t1.I 1079 24 = nI (k' + 1) ∧ k ≤ k' ∧ k' ≤ w.length ∧ fa (w.drop k) a d q false cur = vOk v ++ (if k' < w.length then fa (w.drop (k' + 1)) 0 0 false false [] else []) ∧ out npI npF t t1
theorem r_np370 {w v cur : List Nat} {k a d : Nat} {q : Bool} {t : uS} (hw : rWh t w) (h1 : r1 t v) (hk : k ≤ w.length) (hr : relC v cur) (hf : fa (w.drop k) a d q false cur = faF a cur ++ (if k < w.length then fa (w.drop (k + 1)) 0 0 false false [] else [])) : npG w k a d q cur t (fb_X12_nextPart_370 (nI k) (decide (a = 1)) t) := by
  have hl := hw.2.1
  have e370 : fb_X12_nextPart_370 (nI k) (decide (a = 1)) t = fb_X12_nextPart_384 (nI k) (decide (a = 1)) (decide (k < w.length)) t := by
    unfold fb_X12_nextPart_370
    rw [hw.1]
    by_cases c : k < w.length
    · rw [if_neg (nI_ge c (by omega)), decide_eq_true c]
    · rw [if_pos (nI_le (by omega) (by omega)), decide_eq_false c]
  rw [e370]
  unfold fb_X12_nextPart_384 npG
  rw [nI_1]
  by_cases c : a = 1
  · refine ⟨wI (wI (wI t 1079 25 (bI (decide (k < w.length)))) 1079 24 (nI (k + 1))) 1079 21 0, [], k, if_pos (decide_eq_true c), ⟨wI_e _ _ _ _, by simp, bys_nil, fun j hj => absurd hj (by simp)⟩, ?_, ?_, Nat.le_refl _, hk, ?_, out_I (out_I (out_I out_r ⟨rfl, Or.inr (Or.inr rfl)⟩) ⟨rfl, Or.inr (Or.inl rfl)⟩) ⟨rfl, Or.inl rfl⟩⟩
    · rw [wI_o (by omega), wI_o (by omega), wI_e]
    · rw [wI_o (by omega), wI_e]
    · rw [hf]
      unfold faF vOk
      rw [if_neg (fun z => z.1 c), if_neg (show ¬ (adr []).isSome = true by decide)]
  · obtain ⟨g1, g2, g3, g4⟩ := h1
    refine ⟨wI (wI (wI t 1079 25 (bI (decide (k < w.length)))) 1079 24 (nI (k + 1))) 1079 21 ((wI (wI t 1079 25 (bI (decide (k < w.length)))) 1079 24 (nI (k + 1))).I 1079 21), v, k, if_neg (by rw [decide_eq_true_eq]; exact c), ⟨?_, g2, g3, g4⟩, ?_, ?_, Nat.le_refl _, hk, ?_, out_I (out_I (out_I out_r ⟨rfl, Or.inr (Or.inr rfl)⟩) ⟨rfl, Or.inr (Or.inl rfl)⟩) ⟨rfl, Or.inl rfl⟩⟩
    · rw [wI_e, wI_o (by omega), wI_o (by omega)]; exact g1
    · rw [wI_o (by omega), wI_o (by omega), wI_e]
    · rw [wI_o (by omega), wI_e]
    · rw [hf]
      congr 1
      unfold faF vOk
      rcases hr with e | ⟨e1, e2⟩
      · rw [e]
        by_cases z : (adr cur).isSome = true
        · rw [if_pos ⟨c, z⟩, if_pos z]
        · rw [if_neg (fun y => z y.2), if_neg z]
      · rw [adr_34 e1, adr_34 e2, if_neg (fun y => by cases y.2), if_neg (by decide)]
theorem npG.mono {w : List Nat} {k k1 a d a1 d1 : Nat} {q q1 : Bool} {cur cur1 : List Nat} {t t0 : uS} {r : Option (uS × Bool)} (h : npG w k1 a1 d1 q1 cur1 t0 r) (hk : k ≤ k1) (ho : out npI npF t t0) (hf : fa (w.drop k) a d q false cur = fa (w.drop k1) a1 d1 q1 false cur1) : npG w k a d q cur t r := by
  obtain ⟨t1, v, k', h1, h2, h3, h4, h5, h6, h7, h8⟩ := h
  exact ⟨t1, v, k', h1, h2, h3, h4, by omega, h6, hf.trans h7, out_t ho h8⟩
theorem r_keeps {a d : Nat} {t : uS} (hd : d < 2 ^ 31) (ha : a ≤ 2) : fn_X12_keeps (decide (a ≠ 0)) (decide (a = 1)) (nI d) t = some (decide (d = 0 ∧ a ≠ 2)) := by
  unfold fn_X12_keeps
  by_cases c : d = 0
  · rw [if_pos (show nI d = 0 by rw [c]; rfl)]
    have : a = 0 ∨ a = 1 ∨ a = 2 := by omega
    rcases this with e | e | e <;> subst e <;> simp [c]
  · rw [if_neg (show ¬ nI d = 0 from nI_ne (b := 0) hd (by decide) c), decide_eq_false (fun z => c z.1)]
theorem r_np {w : List Nat} : ∀ (N k a d : Nat) (q : Bool) (cur v : List Nat) (t : uS), w.length - k + 1 ≤ N → k ≤ w.length → a ≤ 2 → d ≤ k → (q = true → d = 0) → v.length ≤ k → rWh t w → r1 t v → relC v cur → (q = true → a ≠ 2 → 34 ∈ v ∧ 34 ∈ cur) → npG w k a d q cur t (fn_X12_nextPart_29 N (nI k) q (decide (a = 1)) (decide (a ≠ 0)) (nI d) t) := by
  intro N
  induction N with
  | zero => intro k a d q cur v t hN; omega
  | succ N ih =>
    intro k a d q cur v t hN hk ha hd hqd hv hw h1 hr hq
    have hl := hw.2.1
    show npG w k a d q cur t (fb_X12_nextPart_29 (fn_X12_nextPart_29 N) (nI k) q (decide (a = 1)) (decide (a ≠ 0)) (nI d) t)
    unfold fb_X12_nextPart_29
    rw [hw.1]
    by_cases c : w.length ≤ k
    · rw [if_pos (nI_le c (by omega))]
      refine r_np370 hw h1 hk hr ?_
      rw [List.drop_eq_nil_of_le c, if_neg (by omega), List.append_nil]; rfl
    rw [if_neg (nI_ge (by omega) (by omega)), g_1095 (by omega), Option.bind_some, hw.2.2.2 k (by omega)]
    have hdr : w.drop k = w.getD k 0 :: w.drop (k + 1) := dropN (by omega)
    have hb0 : w.getD k 0 < 256 := hw.2.2.1 k
    generalize hbe : w.getD k 0 = b at *
    have ne : ∀ x : Nat, x < 128 → b ≠ x → ¬ nI b = nI x := fun x hx z => nI_ne (by omega) (by omega) z
    have eqd : ∀ x : Nat, b = x → nI b = nI x := fun x z => by rw [z]
    -- next states
    have go : ∀ (k1 a1 d1 : Nat) (q1 : Bool) (cur1 v1 : List Nat) (t1 : uS), k < k1 → k1 ≤ w.length → a1 ≤ 2 → d1 ≤ k1 → (q1 = true → d1 = 0) → v1.length ≤ k1 → out npI npF t t1 → r1 t1 v1 → relC v1 cur1 → (q1 = true → a1 ≠ 2 → 34 ∈ v1 ∧ 34 ∈ cur1) → fa (w.drop k) a d q false cur = fa (w.drop k1) a1 d1 q1 false cur1 → npG w k a d q cur t (fn_X12_nextPart_29 N (nI k1) q1 (decide (a1 = 1)) (decide (a1 ≠ 0)) (nI d1) t1) := by
      intro k1 a1 d1 q1 cur1 v1 t1 z1 z2 z3 z4 z5 z6 z7 z8 z9 z10 z11
      exact (ih k1 a1 d1 q1 cur1 v1 t1 (by omega) z2 z3 z4 z5 z6 (hw.o z7 (by unfold npI; omega) (fun _ => by unfold npF; omega)) z8 z9 z10).mono (by omega) z7 z11
    have e70 : ¬ (b = 44 ∧ q = false ∧ d = 0 ∧ a ≠ 1) → npG w k a d q cur t (fb_X12_nextPart_70 (fn_X12_nextPart_29 N) (nI k) q (decide (a = 1)) (decide (a ≠ 0)) (nI d) (nI b) false t) := by
      intro z1
      unfold fb_X12_nextPart_70
      rw [if_neg (by decide)]
      -- 111 with the mark of an escape
      have e111 : ∀ B : Bool, (B = true ↔ b = 92 ∧ (q = true ∨ 0 < d) ∧ k + 1 < w.length) → npG w k a d q cur t (fb_X12_nextPart_111 (fn_X12_nextPart_29 N) (nI k) q (decide (a = 1)) (decide (a ≠ 0)) (nI d) (nI b) B t) := by
        intro B hB
        unfold fb_X12_nextPart_111
        by_cases y1 : q = true
        · rw [if_pos y1]
          have hd0 := hqd y1
          have e129 : ∀ C : Bool, C = decide (b = 34) → npG w k a d q cur t (fb_X12_nextPart_129 (fn_X12_nextPart_29 N) (nI k) (decide (a = 1)) (decide (a ≠ 0)) (nI d) (nI b) B C t) := by
            intro C hC
            unfold fb_X12_nextPart_129
            rw [r_keeps (by omega) ha, Option.bind_some]
            -- what comes behind the first add
            have e148 : ∀ (v1 : List Nat) (t1 : uS), r1 t1 v1 → v1.length ≤ k + 1 → out npI npF t t1 → relC v1 cur → (a ≠ 2 → 34 ∈ v1 ∧ 34 ∈ cur) → npG w k a d q cur t (fb_X12_nextPart_148 (fn_X12_nextPart_29 N) (nI k) (decide (a = 1)) (decide (a ≠ 0)) (nI d) B C t1) := by
              intro v1 t1 g1 g2 g3 g4 g5
              have e178 : ∀ (k1 : Nat) (v2 : List Nat) (t2 : uS), k ≤ k1 → k1 < w.length → r1 t2 v2 → v2.length ≤ k1 + 1 → out npI npF t t2 → relC v2 cur → (a ≠ 2 → 34 ∈ v2 ∧ 34 ∈ cur) → fa (w.drop k) a d q false cur = fa (w.drop (k1 + 1)) a d (!C) false cur → npG w k a d q cur t (fb_X12_nextPart_178 (fn_X12_nextPart_29 N) (nI k1) (decide (a = 1)) (decide (a ≠ 0)) (nI d) C t2) := by
                intro k1 v2 t2 i1 i2 i3 i4 i5 i6 i7 i8
                unfold fb_X12_nextPart_178 fb_X12_nextPart_188
                rw [nI_1]
                have := go (k1 + 1) a d (!C) cur v2 t2 (by omega) (by omega) ha (by omega) (fun _ => hd0) i4 i5 i3 i6 (fun _ => i7) i8
                cases C with
                | true => exact this
                | false => exact this
              unfold fb_X12_nextPart_148
              by_cases hb : B = true
              · obtain ⟨b92, -, hk2⟩ := hB.mp hb
                have hC0 : C = false := by rw [hC, decide_eq_false (by omega)]
                have fae : fa (w.drop k) a d q false cur = fa (w.drop (k + 1 + 1)) a d (!C) false cur := by
                  rw [hdr, show w.drop (k + 1) = w.getD (k + 1) 0 :: w.drop (k + 1 + 1) from dropN (by omega)]
                  rw [hC0, y1]
                  conv => lhs; unfold fa
                  rw [if_neg (by omega), if_pos ⟨Or.inl rfl, Or.inr b92⟩]
                  conv => lhs; unfold fa
                  rw [if_neg (fun z => by cases z.2.1), if_pos ⟨Or.inl rfl, Or.inl rfl⟩]
                  rfl
                rw [if_pos hb, r_keeps (by omega) ha, Option.bind_some, nI_1]
                by_cases kp : d = 0 ∧ a ≠ 2
                · obtain ⟨t2, m1, m2, m3⟩ := r1_add g1 (hw.2.2.1 (k + 1)) (by omega)
                  rw [if_pos (decide_eq_true kp), show iget 20 t1 1095 (nI (k + 1)) = some (nI (w.getD (k + 1) 0)) by rw [g_1095 (by omega), g3.2.2 _ _ (by unfold npF; omega), hw.2.2.2 (k + 1) hk2], Option.bind_some, m1, Option.bind_some]
                  have i7 : a ≠ 2 → 34 ∈ v1 ++ [w.getD (k + 1) 0] ∧ 34 ∈ cur := fun z => ⟨List.mem_append_left _ (g5 z).1, (g5 z).2⟩
                  exact e178 (k + 1) _ t2 (by omega) hk2 m2 (by rw [List.length_append]; simp; omega) (out_t g3 m3) (Or.inr (i7 kp.2)) i7 fae
                · rw [if_neg (by rw [decide_eq_true_eq]; exact kp)]
                  exact e178 (k + 1) v1 t1 (by omega) hk2 g1 (by omega) g3 g4 g5 fae
              · rw [if_neg hb]
                have hB0 : ¬ (b = 92 ∧ (q = true ∨ 0 < d) ∧ k + 1 < w.length) := fun z => hb (hB.mpr z)
                refine e178 k v1 t1 (Nat.le_refl _) (by omega) g1 (by omega) g3 g4 g5 ?_
                rw [hdr, y1]
                by_cases b92 : b = 92
                · have hk2 : w.length ≤ k + 1 := by
                    by_cases z : k + 1 < w.length
                    · exact absurd ⟨b92, Or.inl y1, z⟩ hB0
                    · omega
                  rw [List.drop_eq_nil_of_le hk2, hC]
                  conv => lhs; unfold fa
                  rw [if_neg (by omega), if_pos ⟨Or.inl rfl, Or.inr b92⟩]
                  rfl
                · conv => lhs; unfold fa
                  rw [if_neg (fun z => by cases z.2.1), if_neg (fun z => z.2.elim (fun y => by cases y) b92), if_pos rfl, hC]
                  congr 1
                  by_cases z : b = 34 <;> simp [z]
            by_cases kp : d = 0 ∧ a ≠ 2
            · obtain ⟨t2, m1, m2, m3⟩ := r1_add h1 hb0 (by omega)
              rw [if_pos (decide_eq_true kp), m1, Option.bind_some]
              have i7 : a ≠ 2 → 34 ∈ v ++ [b] ∧ 34 ∈ cur := fun z => ⟨List.mem_append_left _ (hq y1 z).1, (hq y1 z).2⟩
              exact e148 _ t2 m2 (by rw [List.length_append]; simp; omega) m3 (Or.inr (i7 kp.2)) i7
            · rw [if_neg (by rw [decide_eq_true_eq]; exact kp)]
              exact e148 v t h1 (by omega) out_r hr (hq y1)
          by_cases y2 : b = 34
          · rw [if_pos (show nI b = 34 from eqd 34 y2)]; exact e129 true (decide_eq_true y2).symm
          · rw [if_neg (show ¬ nI b = 34 from ne 34 (by decide) y2)]; exact e129 false (decide_eq_false y2).symm
        have hq0 : q = false := by rw [← Bool.not_eq_true]; exact y1
        rw [if_neg y1]
        by_cases y3 : d = 0
        · rw [if_pos (show nI d ≤ 0 by rw [y3]; decide)]
          have e44 : ¬ (b = 44 ∧ a ≠ 1) := fun z => z1 ⟨z.1, hq0, y3, z.2⟩
          have fa0 : fa (w.drop k) a d q false cur = if b = 40 then fa (w.drop (k + 1)) a (d + 1) q false cur else if b = 32 ∨ b = 9 then fa (w.drop (k + 1)) a d q false cur else if b = 60 ∧ a = 0 then fa (w.drop (k + 1)) 1 d q false [] else if b = 62 ∧ a = 1 then fa (w.drop (k + 1)) 2 d q false cur else fa (w.drop (k + 1)) a d (decide (b = 34)) false (if a = 2 then cur else cur ++ [b]) := by
            rw [hdr]
            conv => lhs; unfold fa
            rw [if_neg z1, if_neg (fun z => by rcases z.1 with y | y; exact y1 y; omega), if_neg y1]
            by_cases u1 : b = 40
            · rw [if_pos u1, if_pos u1]
            rw [if_neg u1, if_neg u1, if_neg (fun z => by omega)]
            by_cases u2 : b = 32 ∨ b = 9
            · rw [if_pos (Or.inr u2), if_pos u2]
            rw [if_neg (fun z => z.elim (fun y => by omega) u2), if_neg u2]
          by_cases u1 : b = 40
          · rw [if_pos (show nI b = 40 from eqd 40 u1), nI_1]
            refine go (k + 1) a 1 q cur v t (by omega) (by omega) ha (by omega) (fun z => absurd z y1) (by omega) out_r h1 hr (fun z => absurd z y1) ?_
            rw [fa0, if_pos u1, y3]
          rw [if_neg (show ¬ nI b = 40 from ne 40 (by decide) u1)]
          rw [if_neg u1] at fa0
          by_cases u34 : b = 34
          · rw [if_pos (show nI b = 34 from eqd 34 u34), r_keeps (by omega) ha, Option.bind_some, nI_1]
            rw [if_neg (by omega), if_neg (by omega), if_neg (by omega), decide_eq_true u34] at fa0
            by_cases kp : d = 0 ∧ a ≠ 2
            · obtain ⟨t2, m1, m2, m3⟩ := r1_add h1 hb0 (by omega)
              rw [if_neg kp.2] at fa0
              rw [if_pos (decide_eq_true kp), m1, Option.bind_some]
              have i7 : 34 ∈ v ++ [b] ∧ 34 ∈ cur ++ [b] := by rw [u34]; simp
              exact go (k + 1) a d true (cur ++ [b]) (v ++ [b]) t2 (by omega) (by omega) ha (by omega) (fun _ => y3) (by rw [List.length_append]; simp; omega) m3 m2 (Or.inr i7) (fun _ _ => i7) fa0
            · have a2 : a = 2 := by omega
              rw [if_pos a2] at fa0
              rw [if_neg (by rw [decide_eq_true_eq]; exact kp)]
              exact go (k + 1) a d true cur v t (by omega) (by omega) ha (by omega) (fun _ => y3) (by omega) out_r h1 hr (fun _ z => absurd a2 z) fa0
          rw [if_neg (show ¬ nI b = 34 from ne 34 (by decide) u34)]
          rw [decide_eq_false u34] at fa0
          -- the last branches
          have e332 : ¬ (b = 60 ∧ a = 0) → ¬ (b = 62 ∧ a = 1) → npG w k a d q cur t (fb_X12_nextPart_332 (fn_X12_nextPart_29 N) (nI k) q (decide (a = 1)) (decide (a ≠ 0)) (nI d) (nI b) t) := by
            intro x1 x2
            unfold fb_X12_nextPart_332
            rw [nI_1]
            by_cases u32 : b = 32
            · rw [if_pos (show nI b = 32 from eqd 32 u32)]
              rw [if_pos (Or.inl u32)] at fa0
              exact go (k + 1) a d q cur v t (by omega) (by omega) ha (by omega) hqd (by omega) out_r h1 hr hq fa0
            rw [if_neg (show ¬ nI b = 32 from ne 32 (by decide) u32)]
            by_cases u9 : b = 9
            · rw [if_pos (show nI b = 9 from eqd 9 u9)]
              rw [if_pos (Or.inr u9)] at fa0
              exact go (k + 1) a d q cur v t (by omega) (by omega) ha (by omega) hqd (by omega) out_r h1 hr hq fa0
            rw [if_neg (show ¬ nI b = 9 from ne 9 (by decide) u9), r_keeps (by omega) ha, Option.bind_some]
            rw [if_neg (by omega), if_neg x1, if_neg x2] at fa0
            by_cases kp : d = 0 ∧ a ≠ 2
            · obtain ⟨t2, m1, m2, m3⟩ := r1_add h1 hb0 (by omega)
              rw [if_neg kp.2] at fa0
              rw [if_pos (decide_eq_true kp), m1, Option.bind_some]
              refine go (k + 1) a d q (cur ++ [b]) (v ++ [b]) t2 (by omega) (by omega) ha (by omega) hqd (by rw [List.length_append]; simp; omega) m3 m2 ?_ (fun z => absurd z y1) (fa0.trans (by rw [hq0]))
              rcases hr with e | e
              · exact Or.inl (by rw [e])
              · exact Or.inr ⟨List.mem_append_left _ e.1, List.mem_append_left _ e.2⟩
            · have a2 : a = 2 := by omega
              rw [if_pos a2] at fa0
              rw [if_neg (by rw [decide_eq_true_eq]; exact kp)]
              exact go (k + 1) a d q cur v t (by omega) (by omega) ha (by omega) hqd (by omega) out_r h1 hr hq (fa0.trans (by rw [hq0]))
          have e316 : ¬ (b = 60 ∧ a = 0) → npG w k a d q cur t (fb_X12_nextPart_316 (fn_X12_nextPart_29 N) (nI k) q (decide (a = 1)) (decide (a ≠ 0)) (nI d) (nI b) t) := by
            intro x1
            unfold fb_X12_nextPart_316
            by_cases u62 : b = 62
            · rw [if_pos (show nI b = 62 from eqd 62 u62)]
              by_cases a1 : a = 1
              · rw [if_pos (decide_eq_true a1), nI_1]
                rw [if_neg (by omega), if_neg (by omega), if_pos ⟨u62, a1⟩] at fa0
                have := go (k + 1) 2 d q cur v t (by omega) (by omega) (by omega) (by omega) hqd (by omega) out_r h1 hr (fun z => absurd z y1) fa0
                rw [show decide (a ≠ 0) = decide (2 ≠ 0) by rw [a1]; rfl]
                exact this
              · rw [if_neg (by rw [decide_eq_true_eq]; exact a1)]
                exact e332 x1 (fun z => a1 z.2)
            · rw [if_neg (show ¬ nI b = 62 from ne 62 (by decide) u62)]
              exact e332 x1 (fun z => u62 z.1)
          by_cases u60 : b = 60
          · rw [if_pos (show nI b = 60 from eqd 60 u60)]
            by_cases a1 : a = 1
            · rw [if_pos (decide_eq_true a1)]; exact e316 (by omega)
            · rw [if_neg (by rw [decide_eq_true_eq]; exact a1)]
              by_cases a0 : a = 0
              · rw [if_neg (by rw [decide_eq_true_eq]; omega), nI_1]
                rw [if_neg (by omega), if_pos ⟨u60, a0⟩] at fa0
                exact go (k + 1) 1 d q [] [] (wI t 1079 21 0) (by omega) (by omega) (by omega) (by omega) hqd (by simp) (out_I out_r ⟨rfl, Or.inl rfl⟩) ⟨wI_e _ _ _ _, by simp, bys_nil, fun j hj => absurd hj (by simp)⟩ (Or.inl rfl) (fun z => absurd z y1) fa0
              · rw [if_pos (decide_eq_true (show a ≠ 0 from a0))]; exact e316 (by omega)
          · rw [if_neg (show ¬ nI b = 60 from ne 60 (by decide) u60)]; exact e316 (by omega)
        · -- within a comment
          have hdp : 0 < d := by omega
          rw [if_neg (nI_nle hdp (by omega))]
          have e227 : ∀ d1 : Nat, d1 ≤ d + 1 → (b ≠ 92 → fa (w.drop k) a d q false cur = fa (w.drop (k + 1)) a d1 q false cur) → (b = 92 → d1 = d) → npG w k a d q cur t (fb_X12_nextPart_227 (fn_X12_nextPart_29 N) (nI k) q (decide (a = 1)) (decide (a ≠ 0)) B (nI d1) t) := by
            intro d1 x1 x2 x3
            unfold fb_X12_nextPart_227 fb_X12_nextPart_241
            rw [nI_1, nI_1]
            by_cases hb : B = true
            · obtain ⟨b92, -, hk2⟩ := hB.mp hb
              rw [if_pos hb]
              refine go (k + 1 + 1) a d1 q cur v t (by omega) (by omega) ha (by omega) (fun z => absurd z y1) (by omega) out_r h1 hr (fun z => absurd z y1) ?_
              rw [x3 b92, hdr, show w.drop (k + 1) = w.getD (k + 1) 0 :: w.drop (k + 1 + 1) from dropN (by omega)]
              conv => lhs; unfold fa
              rw [if_neg (by omega), if_pos ⟨Or.inr hdp, Or.inr b92⟩]
              conv => lhs; unfold fa
              rw [if_neg (fun z => by omega), if_pos ⟨Or.inr hdp, Or.inl rfl⟩]
              rfl
            · rw [if_neg hb]
              refine go (k + 1) a d1 q cur v t (by omega) (by omega) ha (by omega) (fun z => absurd z y1) (by omega) out_r h1 hr (fun z => absurd z y1) ?_
              by_cases b92 : b = 92
              · have hk2 : w.length ≤ k + 1 := by
                  by_cases z : k + 1 < w.length
                  · exact absurd (hB.mpr ⟨b92, Or.inr hdp, z⟩) hb
                  · omega
                rw [hdr, List.drop_eq_nil_of_le hk2]
                conv => lhs; unfold fa
                rw [if_neg (by omega), if_pos ⟨Or.inr hdp, Or.inr b92⟩]
                rfl
              · exact x2 b92
          have fa1 : b ≠ 92 → fa (w.drop k) a d q false cur = if b = 40 then fa (w.drop (k + 1)) a (d + 1) q false cur else if b = 41 then fa (w.drop (k + 1)) a (d - 1) q false cur else fa (w.drop (k + 1)) a d q false cur := by
            intro b92
            rw [hdr]
            conv => lhs; unfold fa
            rw [if_neg (fun z => by omega), if_neg (fun z => z.2.elim (fun y => by cases y) b92), if_neg y1]
            by_cases u1 : b = 40
            · rw [if_pos u1, if_pos u1]
            rw [if_neg u1, if_neg u1]
            by_cases u2 : b = 41
            · rw [if_pos ⟨u2, hdp⟩, if_pos u2]
            rw [if_neg (fun z => u2 z.1), if_neg u2, if_pos (Or.inl hdp)]
          by_cases u1 : b = 40
          · rw [if_pos (show nI b = 40 from eqd 40 u1), nI_1]
            exact e227 (d + 1) (by omega) (fun z => by rw [fa1 z, if_pos u1]) (fun z => by omega)
          rw [if_neg (show ¬ nI b = 40 from ne 40 (by decide) u1)]
          by_cases u2 : b = 41
          · rw [if_pos (show nI b = 41 from eqd 41 u2), show nI d - 1 = nI (d - 1) from nI_sub (b := 1) hdp]
            exact e227 (d - 1) (by omega) (fun z => by rw [fa1 z, if_neg u1, if_pos u2]) (fun z => by omega)
          rw [if_neg (show ¬ nI b = 41 from ne 41 (by decide) u2)]
          exact e227 d (by omega) (fun z => by rw [fa1 z, if_neg u1, if_neg u2]) (fun _ => rfl)
      have e96 : b = 92 → (q = true ∨ 0 < d) → npG w k a d q cur t (fb_X12_nextPart_96 (fn_X12_nextPart_29 N) (nI k) q (decide (a = 1)) (decide (a ≠ 0)) (nI d) (nI b) t) := by
        intro y1 y2
        unfold fb_X12_nextPart_96
        rw [hw.1, nI_1]
        by_cases y3 : k + 1 < w.length
        · rw [if_neg (nI_ge y3 (by omega))]; exact e111 true ⟨fun _ => ⟨y1, y2, y3⟩, fun _ => rfl⟩
        · rw [if_pos (nI_le (by omega) (by omega))]; exact e111 false ⟨fun z => Bool.noConfusion z, fun z => absurd z.2.2 y3⟩
      by_cases y1 : b = 92
      · rw [if_pos (show nI b = 92 from eqd 92 y1)]
        by_cases y2 : q = true
        · rw [if_pos y2]; exact e96 y1 (Or.inl y2)
        · rw [if_neg y2]
          by_cases y3 : 0 < d
          · rw [if_neg (nI_nle y3 (by omega))]; exact e96 y1 (Or.inr y3)
          · rw [if_pos (show nI d ≤ 0 by rw [show d = 0 by omega]; decide)]
            exact e111 false ⟨fun z => Bool.noConfusion z, fun z => absurd z.2.1 (by intro w; rcases w with w | w; exact y2 w; exact y3 w)⟩
      · rw [if_neg (show ¬ nI b = 92 from ne 92 (by decide) y1)]
        exact e111 false ⟨fun z => Bool.noConfusion z, fun z => absurd z.1 y1⟩
    by_cases z0 : b = 44
    · rw [if_pos (show nI b = 44 from eqd 44 z0)]
      by_cases y1 : q = true
      · rw [if_pos y1]; exact e70 (fun z => by rw [z.2.1] at y1; cases y1)
      · rw [if_neg y1]
        have hq0 : q = false := by rw [← Bool.not_eq_true]; exact y1
        by_cases y2 : a = 1
        · rw [if_pos (decide_eq_true y2)]; exact e70 (fun z => z.2.2.2 y2)
        · rw [if_neg (by rw [decide_eq_true_eq]; exact y2)]
          by_cases y3 : d = 0
          · rw [if_pos (show nI d = 0 by rw [y3]; rfl)]
            unfold fb_X12_nextPart_70
            rw [if_pos rfl]
            refine r_np370 hw h1 hk hr ?_
            rw [hdr, if_pos (by omega)]
            conv => lhs; unfold fa
            rw [if_pos ⟨z0, hq0, y3, y2⟩, y3, hq0]
          · rw [if_neg (show ¬ nI d = 0 from nI_ne (b := 0) (by omega) (by decide) y3)]; exact e70 (fun z => y3 z.2.2.1)
    · rw [if_neg (show ¬ nI b = 44 from ne 44 (by decide) z0)]; exact e70 (fun z => z0 z.1)
