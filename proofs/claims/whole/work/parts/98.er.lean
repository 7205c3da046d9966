/-! the reference: the values of a test, one by one -/
theorem npO {t t1 : uS} (h : out npI npF t t1) : out leI leF t t1 := out_w h (fun k f z => by unfold npI at z; unfold leI; omega) (fun k f z => by unfold npF at z; unfold leF; omega)
noncomputable def vA (m r c p : Nat) (ts : List (List Nat)) (f L : Nat) (vs : List (List Nat)) : Bool := vs.any (fun v => vM m r (decide (c = 2)) (decide (c = 1)) ts f L (ptV p v))
theorem vA_app {m r c p f L : Nat} {ts vs ws : List (List Nat)} : vA m r c p ts f L (vs ++ ws) = (vA m r c p ts f L vs || vA m r c p ts f L ws) := by unfold vA; exact List.any_append
theorem fa_ad {v : List Nat} : ∀ w ∈ vOk v, w = v ∧ (adr v).isSome = true := by
  intro w hw
  unfold vOk at hw
  split at hw
  · rename_i h; exact ⟨List.mem_singleton.mp hw, h⟩
  · cases hw
theorem r_parts {n m r c p f L i : Nat} {ts : List (List Nat)} {w : List Nat} {K2 : Int32 → Int32 → uS → Option uS} : ∀ (M N k : Nat) (more : Bool) (t : uS) (x : Nat) (b : Bool), (if more = true then w.length - k + 1 else 0) ≤ M → M + 1 ≤ N → rCx t n m r c p f L ts → rWh t w → t.I 1079 24 = nI k → t.I 1079 25 = bI more → (more = true → k ≤ w.length) → rAc t x b → ∃ t1 : uS, fn_X12_headers_54 K2 N (nI n) (nI i) t = K2 (nI n) (nI (i + 1)) t1 ∧ rAc t1 (x + (if more = true then fa (w.drop k) 0 0 false false [] else []).length) (b || vA m r c p ts f L (if more = true then fa (w.drop k) 0 0 false false [] else [])) ∧ out leI leF t t1 := by
  intro M
  induction M with
  | zero =>
    intro N k more t x b hM hN hc hw h24 h25 hk ha
    obtain ⟨n1, rfl⟩ : ∃ n1, N = n1 + 1 := ⟨N - 1, by omega⟩
    have m0 : more = false := by
      cases more with
      | false => rfl
      | true => simp at hM
    subst m0
    refine ⟨t, ?_, ?_, out_r⟩
    · show fb_X12_headers_54 K2 (fn_X12_headers_54 K2 n1) _ _ _ = _
      unfold fb_X12_headers_54 fn_X12_nextPart
      rw [h25, if_pos (show bI false = 0 from rfl), Option.bind_some, if_neg (show ¬ (false = true) by decide), nI_1]
    · rw [if_neg (by decide)]
      show rAc t x (b || false)
      rw [Bool.or_false]; exact ha
  | succ M ih =>
    intro N k more t x b hM hN hc hw h24 h25 hk ha
    obtain ⟨n1, rfl⟩ : ∃ n1, N = n1 + 1 := ⟨N - 1, by omega⟩
    cases more with
    | false => exact ih (n1 + 1) k false t x b (by simp) (by omega) hc hw h24 h25 hk ha
    | true =>
      have hl := hw.2.1
      rw [if_pos rfl] at hM
      have o0 : out npI npF t (wI t 1079 21 0) := out_I out_r ⟨rfl, Or.inl rfl⟩
      obtain ⟨t1, v, k', e1, e2, e3, e4, e5, e6, e7, e8⟩ := r_np (w := w) 1000000 k 0 0 false [] [] (wI t 1079 21 0) (by omega) (hk rfl) (by omega) (by omega) (fun z => by cases z) (by simp) (hw.o o0 (by unfold npI; omega) (fun _ => by unfold npF; omega)) ⟨wI_e _ _ _ _, by simp, bys_nil, fun j hj => absurd hj (by simp)⟩ (Or.inl rfl) (fun z => by cases z)
      have o1 := npO (out_t o0 e8)
      have hnx : fn_X12_nextPart t = some (t1, true) := by
        unfold fn_X12_nextPart
        rw [h25, if_neg (show ¬ bI true = 0 by decide), h24]
        exact e1
      have hc1 := hc.o o1
      have hn : n < 520 := hc.1.1
      have a109 : rAc t1 x b := by
        refine ⟨?_, ?_⟩
        · rw [e8.2.1 _ _ (by unfold npI; omega), wI_o (by omega)]; exact ha.1
        · rw [e8.2.1 _ _ (by unfold npI; omega), wI_o (by omega)]; exact ha.2
      show ∃ t2 : uS, fb_X12_headers_54 K2 (fn_X12_headers_54 K2 n1) _ _ _ = _ ∧ _
      unfold fb_X12_headers_54
      rw [hnx, Option.bind_some, if_pos rfl, r_atOf (w := v) (t := t1) e2, Option.bind_some, if_pos rfl, e7]
      have go : ∀ (t2 : uS) (vs : List (List Nat)), out leI leF t t2 → t2.I 1079 24 = t1.I 1079 24 → t2.I 1079 25 = t1.I 1079 25 → rWh t2 w → rAc t2 (x + vs.length) (b || vA m r c p ts f L vs) → vs = vOk v → ∃ t3 : uS, fn_X12_headers_54 K2 n1 (nI n) (nI i) t2 = K2 (nI n) (nI (i + 1)) t3 ∧ rAc t3 (x + (vOk v ++ (if k' < w.length then fa (w.drop (k' + 1)) 0 0 false false [] else [])).length) (b || vA m r c p ts f L (vOk v ++ (if k' < w.length then fa (w.drop (k' + 1)) 0 0 false false [] else []))) ∧ out leI leF t t3 := by
        intro t2 vs g1 g3 g4 g5 g6 g7
        obtain ⟨t3, q1, q2, q3⟩ := ih n1 (k' + 1) (decide (k' < w.length)) t2 (x + vs.length) (b || vA m r c p ts f L vs) (by
          by_cases z : k' < w.length
          · rw [if_pos (decide_eq_true z)]; omega
          · rw [if_neg (by rw [decide_eq_true_eq]; exact z)]; omega) (by omega) (hc.o g1) g5 (g3.trans e4) (g4.trans e3) (fun z => by have := of_decide_eq_true z; omega) g6
        have hif : (if decide (k' < w.length) = true then fa (w.drop (k' + 1)) 0 0 false false [] else []) = (if k' < w.length then fa (w.drop (k' + 1)) 0 0 false false [] else []) := by
          by_cases z : k' < w.length
          · rw [if_pos (decide_eq_true z), if_pos z]
          · rw [if_neg (by rw [decide_eq_true_eq]; exact z), if_neg z]
        rw [hif] at q2
        refine ⟨t3, q1, ?_, out_t g1 q3⟩
        rw [vA_app, List.length_append, ← g7, ← Nat.add_assoc, ← Bool.or_assoc]
        exact q2
      have w1 : rWh t1 w := hw.o (out_t o0 e8) (by unfold npI; omega) (fun _ => by unfold npF; omega)
      cases e : adr v with
      | none =>
        rw [show oI (none : Option Nat) = -1 from rfl, if_neg (by decide)]
        have hv : vOk v = [] := by unfold vOk; rw [e]; rfl
        refine go t1 [] o1 rfl rfl w1 ?_ hv.symm
        show rAc t1 x (b || false)
        rw [Bool.or_false]; exact a109
      | some j =>
        have hs : (adr v).isSome = true := by rw [e]; rfl
        have hv : vOk v = [v] := by unfold vOk; rw [if_pos hs]
        have hj := fnb_lt v.length 0 j (bs := v) (b := 64) (by
          unfold adr at e
          split at e
          · cases e
          · rename_i q hq
            split at e
            · cases e; exact hq
            · cases e)
        rw [show oI (some j) = nI j from rfl, if_pos (show (0 : Int32) ≤ nI j from nI_le (a := 0) (Nat.zero_le _) (by have := e2.2.1; omega))]
        obtain ⟨t2, p1, p2, p3⟩ := r_part (p := p) hn hc1.2.2.2.2.2.2.1 hc1.2.2.2.2.2.2.2 e2 (Or.inr hs)
        rw [e, show oI (some j) = nI j from rfl] at p1
        rw [p1, Option.bind_some]
        have o2 := out_t o1 (leO2 p3)
        obtain ⟨t3, q1, q2, q3⟩ := r_val1 (hc.o o2) p2 (x := x) (b := b) ⟨(p3.2.1 _ _ (by unfold onI; omega)).trans a109.1, (p3.2.1 _ _ (by unfold onI; omega)).trans a109.2⟩
        rw [q1, Option.bind_some]
        refine go t3 [v] (out_t o2 (leO1 q3)) ?_ ?_ ?_ ?_ hv.symm
        · rw [q3.2.1 _ _ (by unfold vlI; omega), p3.2.1 _ _ (by unfold onI; omega)]
        · rw [q3.2.1 _ _ (by unfold vlI; omega), p3.2.1 _ _ (by unfold onI; omega)]
        · exact (w1.o p3 (by unfold onI; omega) (fun _ => by unfold onF; omega)).o q3 (by unfold vlI; omega) (fun _ => by unfold mkF; omega)
        · show rAc t3 (x + 1) (b || (vM m r (decide (c = 2)) (decide (c = 1)) ts f L (ptV p v) || false))
          rw [Bool.or_false]; exact q2
/-- the fields -/
theorem r_hdrs {n m r c p f L κ fN aN : Nat} {ts : List (List Nat)} {fs : List (List Nat × List Nat)} (ho : fsO fs) (hκ : κ = 11 ∨ κ = 12) (hp : κ = 11 → p = 0) (hf : fN + aN ≤ ts.length) : ∀ (rs : List (List Nat × List Nat)) (N i : Nat) (t : uS) (x : Nat) (b : Bool), fs.drop i = rs → i ≤ fs.length → rs.length + 1 ≤ N → rCx t n m r c p f L ts → rFl t fs → t.F 1098 n = nI (κ + 9) → t.F 1102 n = nI fN → t.F 1103 n = nI aN → rAc t x b → ∃ t1 : uS, fn_X12_headers_2 N (nI n) (nI i) t = some t1 ∧ rAc t1 (x + (hvs κ (lsdB ts fN aN) rs).length) (b || vA m r c p ts f L (hvs κ (lsdB ts fN aN) rs)) ∧ out leI leF t t1 := by
  intro rs
  have b3 := tot_len fs
  have b4 := ho.1
  induction rs with
  | nil =>
    intro N i t x b hd hi hN hc hfl hk h2 h3 ha
    obtain ⟨n1, rfl⟩ : ∃ n1, N = n1 + 1 := ⟨N - 1, by simp at hN; omega⟩
    have hlen : fs.length ≤ i := by
      by_cases c : i < fs.length
      · rw [List.drop_eq_getElem_cons c] at hd; cases hd
      · omega
    refine ⟨t, ?_, ?_, out_r⟩
    · show fb_X12_headers_2 _ _ _ _ = _
      unfold fb_X12_headers_2
      rw [hfl.1, if_pos (nI_le hlen (by omega))]
    · show rAc t x (b || false)
      rw [Bool.or_false]; exact ha
  | cons q rs ih =>
    intro N i t x b hd hi hN hc hfl hk h2 h3 ha
    simp only [List.length_cons] at hN
    obtain ⟨n1, rfl⟩ : ∃ n1, N = n1 + 1 := ⟨N - 1, by omega⟩
    obtain ⟨d1, d2, d3, d4⟩ := drop_fs hd
    have hn : n < 520 := hc.1.1
    show ∃ t1 : uS, fb_X12_headers_2 (fn_X12_headers_2 n1) _ _ _ = _ ∧ _
    unfold fb_X12_headers_2
    rw [hfl.1, if_neg (nI_ge (by omega) (by omega)), r_among hfl ho hc.2.1 hn h2 h3 hf d1, Option.bind_some, d2]
    have go : ∀ (t2 : uS) (vs : List (List Nat)), out leI leF t t2 → rAc t2 (x + vs.length) (b || vA m r c p ts f L vs) → vs = (if lsdB ts fN aN q.1 = true then (if κ = 11 then [q.2] else fa q.2 0 0 false false []) else []) → ∃ t1 : uS, fn_X12_headers_2 n1 (nI n) (nI (i + 1)) t2 = some t1 ∧ rAc t1 (x + (hvs κ (lsdB ts fN aN) (q :: rs)).length) (b || vA m r c p ts f L (hvs κ (lsdB ts fN aN) (q :: rs))) ∧ out leI leF t t1 := by
      intro t2 vs g1 g2 g3
      have F : ∀ k j : Nat, ¬ leF k j → t2.F k j = t.F k j := fun k j hk => g1.2.2 k j hk
      obtain ⟨t3, q1, q2, q3⟩ := ih n1 (i + 1) t2 (x + vs.length) (b || vA m r c p ts f L vs) d4 (by omega) (by omega) (hc.o g1) (hfl.o g1 (by unfold leI; omega) (fun _ _ _ _ => by unfold leF; omega)) ((F _ _ (by unfold leF; omega)).trans hk) ((F _ _ (by unfold leF; omega)).trans h2) ((F _ _ (by unfold leF; omega)).trans h3) g2
      refine ⟨t3, q1, ?_, out_t g1 q3⟩
      unfold hvs
      rw [← g3, vA_app, List.length_append, ← Nat.add_assoc, ← Bool.or_assoc]
      exact q2
    by_cases cl : lsdB ts fN aN q.1 = true
    · rw [if_pos cl]
      obtain ⟨t2, v1, v2, v3⟩ := r_oneV hfl ho d1
      rw [d3] at v2
      rw [v1, Option.bind_some, g_1098 hn, Option.bind_some, v3.2.2 _ _ (by unfold onF; omega), hk]
      have a2 : rAc t2 x b := ⟨(v3.2.1 _ _ (by unfold onI; omega)).trans ha.1, (v3.2.1 _ _ (by unfold onI; omega)).trans ha.2⟩
      have o2 := leO2 v3
      by_cases k11 : κ = 11
      · rw [if_pos (show nI (κ + 9) = 20 by rw [k11]; rfl)]
        obtain ⟨t3, q1, q2, q3⟩ := r_val1 (hc.o o2) v2 a2
        rw [q1, Option.bind_some, nI_1]
        refine go t3 [q.2] (out_t o2 (leO1 q3)) ?_ (by rw [if_pos cl, if_pos k11])
        show rAc t3 (x + 1) (b || (vM m r (decide (c = 2)) (decide (c = 1)) ts f L (ptV p q.2) || false))
        rw [Bool.or_false, hp k11]
        exact q2
      · rw [if_neg (show ¬ nI (κ + 9) = 20 from nI_ne (b := 20) (by omega) (by decide) (by omega))]
        have hql : q.2.length ≤ 4000 := by
          have := tot_vl fs i
          rw [d3] at this; omega
        obtain ⟨t3, w1, w2, w3⟩ := r_keepW v2 hql
        rw [w1, Option.bind_some]
        show ∃ t1 : uS, ((some (wI (wI t3 1079 24 0) 1079 25 1)).bind fun s12 => fn_X12_headers_54 (fn_X12_headers_2 n1) uFu (nI n) (nI i) s12) = _ ∧ _
        rw [Option.bind_some]
        have o3 : out leI leF t (wI (wI t3 1079 24 0) 1079 25 1) := out_I (out_I (out_t o2 (leO3 w3)) ⟨rfl, by omega⟩) ⟨rfl, by omega⟩
        obtain ⟨t4, z1, z2, z3⟩ := r_parts (i := i) (K2 := fn_X12_headers_2 n1) (w := q.2) (q.2.length + 1) 1000000 0 true (wI (wI t3 1079 24 0) 1079 25 1) x b (by rw [if_pos rfl]; omega) (by omega) (hc.o o3) ⟨by rw [wI_o (by omega), wI_o (by omega)]; exact w2.1, w2.2.1, w2.2.2.1, w2.2.2.2⟩ (by rw [wI_o (by omega), wI_e]; rfl) (wI_e _ _ _ _) (fun _ => Nat.zero_le _) ⟨by rw [wI_o (by omega), wI_o (by omega), w3.2.1 _ _ (by unfold kwI; omega)]; exact a2.1, by rw [wI_o (by omega), wI_o (by omega), w3.2.1 _ _ (by unfold kwI; omega)]; exact a2.2⟩
        rw [show fn_X12_headers_54 (fn_X12_headers_2 n1) uFu (nI n) (nI i) (wI (wI t3 1079 24 0) 1079 25 1) = _ from z1]
        rw [if_pos rfl, List.drop_zero] at z2
        exact go t4 _ (out_t o3 z3) z2 (by rw [if_pos cl, if_neg k11])
    · rw [if_neg cl, nI_1]
      refine go t [] out_r ?_ (by rw [if_neg cl])
      show rAc t x (b || false)
      rw [Bool.or_false]; exact ha
