/-! feed, connect, reply, tick, cut, start -/
def byt8 (x : Int32) : Nat := (x.toBitVec &&& 255#32).toNat
theorem byt8_lt (x : Int32) : byt8 x < 256 := by
  unfold byt8
  rw [BitVec.toNat_and]
  exact Nat.lt_of_le_of_lt Nat.and_le_right (by decide)
theorem byt8_and (x : Int32) : x &&& 255 = nI (byt8 x) := by
  apply Int32.toBitVec_inj.mp
  show x.toBitVec &&& 255#32 = BitVec.ofNat 32 (x.toBitVec &&& 255#32).toNat
  rw [BitVec.ofNat_toNat, BitVec.setWidth_eq]
theorem byt8_sb {x : Int32} (h : x.toInt8.toInt32 = x) : sb (byt8 x) = x := by
  unfold sb
  rw [← byt8_and]
  exact i8_and x h
theorem getD_m8 {xs : List Int32} {i : Nat} (h : i < xs.length) : (xs.map byt8).getD i 0 = byt8 (xs.getD i 0) := by
  rw [getD_ge _ _ (by rw [List.length_map]; exact h), List.getElem_map, getD_ge _ _ h]
theorem getD_msb {bs : List Nat} {i : Nat} (h : i < bs.length) : (bs.map sb).getD i 0 = sb (bs.getD i 0) := by
  rw [getD_ge _ _ (by rw [List.length_map]; exact h), List.getElem_map, getD_ge _ _ h]
theorem gP_of {xs : List Int32} {s t : uS} (h1 : cT s xs) (h2 : rT t xs) (h3 : i8L xs) : gP (xs.map byt8) s t := by
  refine ⟨by rw [List.length_map]; exact h1.1, fun j => ?_, by rw [List.length_map]; exact h1.2.1, by rw [List.length_map]; exact h2.2.1, fun i hi => ?_, fun i hi => ?_⟩
  · by_cases c : j < xs.length
    · rw [getD_m8 c]; exact byt8_lt _
    · rw [getDn_out (by rw [List.length_map]; omega)]; decide
  · rw [List.length_map] at hi
    rw [getD_m8 hi, byt8_sb (h3 i)]; exact h1.2.2 i hi
  · rw [List.length_map] at hi
    rw [getD_m8 hi, ← byt8_and]; exact h2.2.2 i hi
theorem gP_to {bs : List Nat} {s t : uS} (h : gP bs s t) : cT s (bs.map sb) ∧ rT t (bs.map sb) ∧ i8L (bs.map sb) := by
  obtain ⟨p1, p2, p3, p4, p5, p6⟩ := h
  refine ⟨⟨by rw [List.length_map]; exact p1, by rw [List.length_map]; exact p3, fun i hi => ?_⟩, ⟨by rw [List.length_map]; exact p1, by rw [List.length_map]; exact p4, fun i hi => ?_⟩, fun j => ?_⟩
  · rw [List.length_map] at hi
    rw [getD_msb hi]; exact p5 i hi
  · rw [List.length_map] at hi
    rw [getD_msb hi, sb_and (p2 i)]; exact p6 i hi
  · by_cases c : j < bs.length
    · rw [getD_msb c]; exact sb_i8 (p2 j)
    · rw [getD_df _ _ (by rw [List.length_map]; omega)]; rfl
theorem i8_t4 {xs : List Int32} (h : i8L xs) (x : Int32) : i8L (t_four xs x) := by
  have one : ∀ (ys : List Int32) (k : Nat), i8L ys → i8L (ys ++ [t_by x k]) := by
    intro ys k hy j
    by_cases c : j < ys.length
    · rw [getD_app c]; exact hy j
    · by_cases d : j = ys.length
      · rw [d, getD_end]; exact unar_21 _
      · rw [getD_df _ _ (by rw [List.length_append]; show ys.length + 1 ≤ j; omega)]; rfl
  exact one _ _ (one _ _ (one _ _ (one _ _ h)))
theorem g_feed {j : Nat} {s t : uS} (h : gJ j s t) (a b c d e : Int32) : ∃ (s1 t1 : uS) (v : Bool), fn_X11_feed a b c d e s = some (s1, v) ∧ fn_X12_feed a b c d e t = some (t1, v) ∧ gJ (j + 1) s1 t1 := by
  have h00 := h
  obtain ⟨dy, κ, τ, pw, bs, w, hK, hD, hP, hW, hn, hm, hτ, hdy⟩ := h
  obtain ⟨cm, ct, c1, c2⟩ := hK.2.1
  obtain ⟨q1, q2, q3⟩ := gP_to hP
  obtain ⟨s1, a1, a2, a3⟩ := c_feed c1.1 q1 a b c d e
  obtain ⟨t1, b1, b2, b3⟩ := r_feed c2.1 q2 a b c d e
  have f1 := zc_X11_feed a1
  have f2 := zc_X12_feed b1
  obtain ⟨x1, x2, x3, x4, x5⟩ := f1 hK.2.2.1
  obtain ⟨y1, y2, y3, y4, y5⟩ := f2 hK.2.2.2.1
  obtain ⟨en, em, ec⟩ := x3 (fun z => nomatch z)
  obtain ⟨en2, em2, ec2⟩ := y3 (fun z => nomatch z)
  have h3 := hK.2.2.1
  have h4 := hK.2.2.2.1
  have nI' : ∀ k f : Nat, k < s.n → (k ≠ 0 ∨ f ≠ 9) → s1.I k f = s.I k f ∧ s1.R k f = s.R k f := fun k f hk hne => x4 k f hk (fun z => nomatch z) (fun z => nomatch z) (fun z => by rw [List.mem_singleton] at z; have z1 := congrArg Prod.fst z; have z2 := congrArg Prod.snd z; dsimp only at z1 z2; omega)
  have nF' : ∀ k : Nat, k < s.n → k ≠ 1 → s1.F k = s.F k ∧ s1.L k = s.L k ∧ s1.P k = s.P k := fun k hk hne => x5 k hk (fun z => nomatch z) (fun z => nomatch z) (fun z => hne (List.mem_singleton.mp z))
  have mI' : ∀ k f : Nat, k < t.n → (k ≠ 1079 ∨ f ≠ 5) → t1.I k f = t.I k f := fun k f hk hne => (y4 k f hk (fun z => nomatch z) (fun z => nomatch z) (fun z => by rw [List.mem_singleton] at z; have z1 := congrArg Prod.fst z; have z2 := congrArg Prod.snd z; dsimp only at z1 z2; omega)).1
  have mF' : ∀ k : Nat, k < t.n → k ≠ 1080 → t1.F k = t.F k ∧ t1.L k = t.L k := fun k hk hne => by
    have := y5 k hk (fun z => nomatch z) (fun z => nomatch z) (fun z => hne (List.mem_singleton.mp z))
    exact ⟨this.1, this.2.1⟩
  have oX : sW wX s s1 := ⟨x1, fun k hk z => ⟨x2 k hk, funext fun f => (nI' k f hk (by unfold wX at z; omega)).1, funext fun f => (nI' k f hk (by unfold wX at z; omega)).2, (nF' k hk (by unfold wX at z; omega)).1, (nF' k hk (by unfold wX at z; omega)).2.2⟩⟩
  have hQ : ∀ u : Nat, u < 5 → pQ1 u s1 t1 := fun u hu => by
    obtain ⟨xs, z1, z2, z3⟩ := hK.1.2.2.2.1 u hu
    have hq := qk_lt hu
    exact ⟨xs, z1.fr (funext fun f => (nI' _ _ (by omega) (by omega)).1) (nF' _ (by omega) (by omega)).1, z2.fr (mF' _ (by omega) (by omega)).1 (mF' _ (by omega) (by omega)).1, z3⟩
  have hK1 : gK dy κ τ pw s1 t1 := hK.x oX (fun f hf => a3 f hf) (fun f hf => b3 f hf) (fun k z1 z2 => mF' k (by omega) (by omega)) (by rw [en2]; exact h4) hQ
  have hW1 : gW w s1 := fun u hu => ⟨(hW u hu).1, by rw [(nI' _ _ (by omega) (by omega)).1]; exact (hW u hu).2⟩
  refine ⟨s1, t1, _, a1, b1, ?_⟩
  rw [List.length_map] at a2 b2
  by_cases cc : pw = true ∧ bs.length ≤ 5980
  · rw [if_pos cc] at a2 b2
    have hl : (t_feed (bs.map sb) a b c d e).length = bs.length + 20 := by
      unfold t_feed
      rw [t_four_len, t_four_len, t_four_len, t_four_len, t_four_len, List.length_map]
    refine gJ_mk (by omega) hK1 (hD.s h3 oX) (gP_of a2 b2 (i8_t4 (i8_t4 (i8_t4 (i8_t4 (i8_t4 q3 a) b) c) d) e)) hW1 ?_ ?_ ?_
    · rw [List.length_map, hl, en]; omega
    · rw [List.length_map, hl, em, show κ + (bs.length + 20) = κ + bs.length + 20 by omega, Nat.mul_add 550 (κ + bs.length) 20, Nat.mul_succ 11000 j]
      generalize 550 * (κ + bs.length) = A at *
      generalize 450 * wS w = B at *
      generalize 11000 * j = C at *
      show s.m + (A + 11000) + B ≤ 325232 + (C + 11000)
      generalize 11000 = D at *
      omega
    · rw [List.length_map, hl]; omega
  · rw [if_neg cc] at a2 b2
    have hg := gP_of a2 b2 q3
    have hl : ((bs.map sb).map byt8).length = bs.length := by rw [List.length_map, List.length_map]
    have hJ : gJ j s1 t1 := gJ_mk hdy hK1 (hD.s h3 oX) hg hW1 (by rw [hl, en]; exact hn) (by rw [hl, em]; exact hm) (by rw [hl]; exact hτ)
    exact hJ.up
theorem i8_drop {xs : List Int32} {n : Nat} (h : i8L xs) : i8L (xs.drop n) := fun j => by
  have e : (xs.drop n).getD j 0 = xs.getD (n + j) 0 := by rw [List.getD_eq_getElem?_getD, List.getElem?_drop, ← List.getD_eq_getElem?_getD]
  rw [e]
  exact h _
theorem g_reply {j : Nat} {s t : uS} (h : gJ j s t) (x : Int32) : ∃ (s1 t1 : uS) (v : Int64), fn_X11_reply x s = some (s1, v) ∧ fn_X12_reply x t = some (t1, v) ∧ gJ j s1 t1 := by
  have h00 := h
  obtain ⟨dy, κ, τ, pw, bs, w, hK, hD, hP, hW, hn, hm, hτ, hdy⟩ := h
  have h3 := hK.2.2.1
  have h4 := hK.2.2.2.1
  by_cases cx : x < 0
  · refine ⟨s, t, 0, ?_, ?_, h00⟩
    · unfold fn_X11_reply
      rw [if_pos cx]
    · unfold fn_X12_reply
      rw [if_pos cx]
  · obtain ⟨u, hu1, rfl⟩ := nI_of cx
    by_cases cu : u < 5
    · obtain ⟨xs, z1, z2, z3⟩ := hK.1.2.2.2.1 u cu
      obtain ⟨s1, a1, a2⟩ := c_reply cu z1
      obtain ⟨t1, b1, b2, b3⟩ := r_reply cu z2 z3
      have e1 : ∃ r : uS × Int64, fn_X5_take (qk u) s = some r ∧ r.1 = s1 := by
        have := a1
        unfold fn_X11_reply at this
        rw [if_neg cx, if_pos (show nI u ≤ 4 from nI_le (b := 4) (by omega) (by decide)), pgt_que cu, Option.bind_some, if_pos (so_que cu)] at this
        obtain ⟨r, r1', r2'⟩ := uu_ob this
        exact ⟨r, r1', congrArg Prod.fst (Option.some.inj r2')⟩
      obtain ⟨r, r1', r2'⟩ := e1
      have f1 := zc_X5_take (so_que cu) r1'
      rw [r2'] at f1
      have f2 := zc_X12_reply b1
      obtain ⟨x1, x2, x3, x4, x5⟩ := f1 h3
      obtain ⟨y1, y2, y3, y4, y5⟩ := f2 h4
      obtain ⟨en, em, ec⟩ := x3 (fun z => nomatch z)
      obtain ⟨en2, em2, ec2⟩ := y3 (fun z => nomatch z)
      have hqu := qk_lt cu
      have hqv : (u < 4 ∧ qk u = 976 + 16 * u) ∨ (u = 4 ∧ qk u = 1040) := by
        unfold qk
        by_cases y : u < 4
        · rw [if_pos y]; exact Or.inl ⟨y, rfl⟩
        · rw [if_neg y]; exact Or.inr ⟨by omega, rfl⟩
      have nI' : ∀ k f : Nat, k < s.n → k ≠ qk u → s1.I k f = s.I k f ∧ s1.R k f = s.R k f := fun k f hk hne => x4 k f hk (fun z => nomatch z) (fun z => hne (List.mem_singleton.mp z)) (fun z => nomatch z)
      have nF' : ∀ k : Nat, k < s.n → k ≠ qk u → s1.F k = s.F k ∧ s1.L k = s.L k ∧ s1.P k = s.P k := fun k hk hne => x5 k hk (fun z => nomatch z) (fun z => hne (List.mem_singleton.mp z)) (fun z => nomatch z)
      have mI' : ∀ k f : Nat, k < t.n → t1.I k f = t.I k f := fun k f hk => (y4 k f hk (fun z => nomatch z) (fun z => nomatch z) (fun z => nomatch z)).1
      have mF' : ∀ k : Nat, k < t.n → (k < 1081 ∨ 1086 < k) → t1.F k = t.F k ∧ t1.L k = t.L k := fun k hk hne => by
        have := y5 k hk (fun z => nomatch z) (fun z => nomatch z) (fun z => by simp only [List.mem_cons, List.not_mem_nil, or_false] at z; omega)
        exact ⟨this.1, this.2.1⟩
      have oX : sW wX s s1 := ⟨x1, fun k hk z => ⟨x2 k hk, funext fun f => (nI' k f hk (by unfold wX at z; omega)).1, funext fun f => (nI' k f hk (by unfold wX at z; omega)).2, (nF' k hk (by unfold wX at z; omega)).1, (nF' k hk (by unfold wX at z; omega)).2.2⟩⟩
      have hQ : ∀ v : Nat, v < 5 → pQ1 v s1 t1 := fun v hv => by
        by_cases c : v = u
        · subst c; exact ⟨_, a2, b2, i8_drop z3⟩
        · obtain ⟨ys, w1, w2, w3⟩ := hK.1.2.2.2.1 v hv
          have hqv2 : (v < 4 ∧ qk v = 976 + 16 * v) ∨ (v = 4 ∧ qk v = 1040) := by
            unfold qk
            by_cases y : v < 4
            · rw [if_pos y]; exact Or.inl ⟨y, rfl⟩
            · rw [if_neg y]; exact Or.inr ⟨by omega, rfl⟩
          exact ⟨ys, w1.fr (funext fun f => (nI' _ _ (by omega) (by omega)).1) (nF' _ (by omega) (by omega)).1, b3 v hv c ys w2, w3⟩
      have hK1 : gK dy κ τ pw s1 t1 := hK.x oX (fun f hf => (nI' _ _ (by omega) (by omega)).1) (fun f hf => mI' _ _ (by omega)) (fun k w1 w2 => mF' k (by omega) (by omega)) (by rw [en2]; exact h4) hQ
      obtain ⟨p1, p2, p3, p4, p5, p6⟩ := hP
      refine ⟨s1, t1, _, a1, b1, gJ_mk hdy hK1 (hD.s h3 oX) ⟨p1, p2, (nI' _ _ (by omega) (by omega)).1.trans p3, (mI' _ _ (by omega)).trans p4, fun i hi => by rw [(nF' 1 (by omega) (by omega)).1]; exact p5 i hi, fun i hi => by rw [(mF' 1080 (by omega) (by omega)).1]; exact p6 i hi⟩ (fun v hv => ⟨(hW v hv).1, by rw [(nI' _ _ (by omega) (by omega)).1]; exact (hW v hv).2⟩) (by rw [en]; exact hn) (by rw [em]; exact hm) hτ⟩
    · have nl : ¬ nI u ≤ 4 := nI_ge (a := 4) (by omega) hu1
      refine ⟨s, t, 0, ?_, ?_, h00⟩
      · unfold fn_X11_reply
        rw [if_neg cx, if_neg nl]
      · unfold fn_X12_reply
        rw [if_neg cx, if_neg nl]
/-- a change of numbers alone -/
theorem gJ_n {j dy κ τ dy1 : Nat} {pw pw1 : Bool} {bs : List Nat} {w : Nat → Nat} {s t s1 t1 : uS} (hK : gK dy κ τ pw s t) (hD : dj s) (hP : gP bs s t) (hW : gW w s) (hn : s.n + (κ + bs.length) + wS w ≤ 1171 + 20 * j) (hm : s.m + 550 * (κ + bs.length) + 450 * wS w ≤ 325232 + 11000 * j) (hτ : τ + 2 * bs.length ≤ 40 * j) (hdy : dy1 ≤ j) (o : out (fun k f => k = 0 ∧ 13 ≤ f) rNo s s1) (q : out (fun k f => k = 1079 ∧ f < 4) rNo t t1) (hw : wW dy1 s t) (hc : ∃ cm ct : Nat, cN s1 pw1 dy1 cm ct ∧ rN t1 pw1 dy1 cm ct) : gJ j s1 t1 := by
  obtain ⟨h1, -, h3, h4, h5, h6, h7⟩ := hK
  obtain ⟨p1, p2, p3, p4, p5, p6⟩ := hP
  refine gJ_mk (dy := dy1) (κ := κ) (τ := τ) (pw := pw1) (bs := bs) (w := w) hdy ⟨hw.k h3 (pQ_o (h1.2.2.2.1 4 (by decide)) o q (fun k f a => ⟨by omega, fun z => z⟩) (fun _ _ _ z => z)) (out_w o (fun k f z => by unfold clK; omega) (fun _ _ z => z.elim)) (out_w q (fun k f z => by unfold rkJ; omega) (fun _ _ z => z.elim)), hc, by rw [o.1.2.2.2.2.1]; exact h3, by rw [q.1.2.2.2.2.1]; exact h4, h5.o q (fun _ _ _ z => z), h6.fr (fun k y1 y2 => ⟨funext fun f => o.2.1 _ _ (by omega), funext fun f => o.2.2 _ _ (fun z => z)⟩) (fun f hf => q.2.1 _ _ (by omega)) (fun k hk => funext fun f => q.2.2 _ _ (fun z => z)), fun u hu => (h7 u hu).fr (fun k f z => ⟨o.2.1 _ _ (by unfold sPl at z; omega), o.2.2 _ _ (fun z => z)⟩) (fun k f z => q.2.2 _ _ (fun z => z))⟩ (hD.o o (fun u hu => by omega)) ⟨p1, p2, (o.2.1 _ _ (by omega)).trans p3, (q.2.1 _ _ (by omega)).trans p4, fun i hi => (o.2.2 _ _ (fun z => z)).trans (p5 i hi), fun i hi => (q.2.2 _ _ (fun z => z)).trans (p6 i hi)⟩ (fun u hu => ⟨(hW u hu).1, (o.2.1 _ _ (by omega)).trans (hW u hu).2⟩) (by rw [o.1.2.2.2.2.1]; exact hn) (by rw [o.1.2.2.2.2.2]; exact hm) hτ
theorem wW.d {dy : Nat} {s t : uS} (h : wW dy s t) (hd : dy + 1 < 2 ^ 30) : wW (dy + 1) s t := by
  obtain ⟨h1, h2, h3⟩ := h
  refine ⟨h1, fun u hu => ?_, h3⟩
  obtain ⟨ns, ⟨a1, a2, a3, a4⟩, b, c⟩ := h2 u hu
  exact ⟨ns, ⟨a1, hd, a3, fun i hi => ⟨Nat.le_succ_of_le (a4 i hi).1, (a4 i hi).2⟩⟩, b, c⟩
theorem g_cut {j : Nat} {s t : uS} (h : gJ j s t) (x : Int32) : ∃ (s1 t1 : uS) (v : Bool), fn_X11_cut x s = some (s1, v) ∧ fn_X12_cut x t = some (t1, v) ∧ gJ j s1 t1 := by
  have h00 := h
  obtain ⟨dy, κ, τ, pw, bs, w, hK, hD, hP, hW, hn, hm, hτ, hdy⟩ := h
  obtain ⟨cm, ct, c1, c2⟩ := hK.2.1
  rw [c_cut c1, r_cut c2]
  by_cases c : 0 ≤ x ∧ x ≤ 1000
  · rw [if_pos c, if_pos c]
    have hx0 : ¬ x < 0 := Int32.not_lt.mpr c.1
    obtain ⟨k, k1, k2⟩ := nI_of2 (M := 1000) (n := 1000) (by decide) hx0 c.2
    refine ⟨_, _, true, rfl, rfl, gJ_n (pw1 := pw) hK hD hP hW hn hm hτ hdy (out_I out_r ⟨rfl, by omega⟩) (out_I out_r ⟨rfl, by omega⟩) hK.1 ⟨cm, k, ⟨?_, ?_, ?_, ?_, k1⟩, ?_, ?_, ?_, ?_, k1⟩⟩
    · rw [wI_o (by omega)]; exact c1.1
    · rw [wI_o (by omega)]; exact c1.2.1
    · rw [wI_o (by omega)]; exact c1.2.2.1
    · rw [wI_e]; exact k2
    · rw [wI_o (by omega)]; exact c2.1
    · rw [wI_o (by omega)]; exact c2.2.1
    · rw [wI_o (by omega)]; exact c2.2.2.1
    · rw [wI_e]; exact k2
  · rw [if_neg c, if_neg c]
    exact ⟨s, t, false, rfl, rfl, h00⟩
theorem g_start {j : Nat} {s t : uS} (h : gJ j s t) : ∃ (s1 t1 : uS) (v : Int32), fn_X11_start s = some (s1, v) ∧ fn_X12_start t = some (t1, v) ∧ gJ j s1 t1 := by
  have h00 := h
  obtain ⟨dy, κ, τ, pw, bs, w, hK, hD, hP, hW, hn, hm, hτ, hdy⟩ := h
  obtain ⟨cm, ct, c1, c2⟩ := hK.2.1
  rw [c_start c1, r_start c2]
  cases pw with
  | true =>
    rw [if_pos rfl, if_pos rfl]
    exact ⟨s, t, _, rfl, rfl, h00⟩
  | false =>
    rw [if_neg (by decide), if_neg (by decide)]
    refine ⟨_, _, _, rfl, rfl, gJ_n (pw1 := true) hK hD hP hW hn hm hτ hdy (out_I out_r ⟨rfl, by omega⟩) (out_I out_r ⟨rfl, by omega⟩) hK.1 ⟨cm, ct, ⟨?_, ?_, ?_, ?_, c1.2.2.2.2⟩, ?_, ?_, ?_, ?_, c2.2.2.2.2⟩⟩
    · rw [wI_e]; rfl
    · rw [wI_o (by omega)]; exact c1.2.1
    · rw [wI_o (by omega)]; exact c1.2.2.1
    · rw [wI_o (by omega)]; exact c1.2.2.2.1
    · rw [wI_e]; rfl
    · rw [wI_o (by omega)]; exact c2.2.1
    · rw [wI_o (by omega)]; exact c2.2.2.1
    · rw [wI_o (by omega)]; exact c2.2.2.2.1
theorem rb6 {m a b c B : Nat} (h : m + 550 * (a + b) + 450 * c ≤ B) : m + 550 * (0 + b) + 450 * 0 ≤ B := by
  rw [Nat.mul_zero, Nat.add_zero, Nat.zero_add]
  exact Nat.le_trans (Nat.add_le_add_left (Nat.mul_le_mul_left 550 (Nat.le_add_left b a)) m) (Nat.le_trans (Nat.le_add_right _ _) h)
theorem g_tick {j : Nat} {s t : uS} (hj : j ≤ 512) (h : gJ j s t) : ∃ (s1 t1 : uS) (v : Int32), fn_X11_tick s = some (s1, v) ∧ fn_X12_tick t = some (t1, v) ∧ gJ (j + 1) s1 t1 := by
  have h00 := h.up
  obtain ⟨dy, κ, τ, pw, bs, w, hK, hD, hP, hW, hn, hm, hτ, hdy⟩ := h
  obtain ⟨cm, ct, c1, c2⟩ := hK.2.1
  unfold fn_X11_tick fn_X12_tick
  cases pw with
  | false =>
    rw [if_pos (show s.I 0 16 = 0 from c1.1), if_pos (show t.I 1079 0 = 0 from c2.1)]
    exact ⟨s, t, _, rfl, rfl, h00⟩
  | true =>
    rw [if_neg (show ¬ s.I 0 16 = 0 by rw [c1.1]; decide), if_neg (show ¬ t.I 1079 0 = 0 by rw [c2.1]; decide)]
    by_cases c : ct = 1
    · subst c
      rw [c_cutoff c1, r_cutoff c2, Option.bind_some, Option.bind_some]
      dsimp only
      rw [if_neg (by decide), if_neg (by decide)]
      obtain ⟨y1, y2, y3, y4⟩ := gK_lost hK.1 ⟨c1, c2⟩ hK.2.2.1 hK.2.2.2.1 hK.2.2.2.2.1 (fun u hu => (hK.2.2.2.2.2.2 u hu).V)
      refine ⟨_, _, _, rfl, rfl, ?_⟩
      obtain ⟨s1, hs1⟩ : ∃ s1, s1 = c_lose (wI s 0 15 0) := ⟨_, rfl⟩
      obtain ⟨t1, ht1⟩ : ∃ t1, t1 = r_lose t := ⟨_, rfl⟩
      rw [← hs1] at y1 y2 y3 y4 ⊢
      rw [← ht1] at y1 ⊢
      have o : out loI rNo s s1 := by rw [hs1]; exact out_t (out_I out_r (by unfold loI; omega)) (lose_lo _)
      have q : out roI roF t t1 := by rw [ht1]; exact rlose_lo t
      obtain ⟨p1, p2, p3, p4, p5, p6⟩ := hP
      have hJ : gJ j s1 t1 := gJ_mk (w := fun _ => 0) hdy y1 (hD.o o (fun u hu => by unfold loI; omega)) ⟨p1, p2, (o.2.1 _ _ (by unfold loI; omega)).trans p3, (q.2.1 _ _ (by unfold roI; omega)).trans p4, fun i hi => (o.2.2 _ _ (fun z => z)).trans (p5 i hi), fun i hi => (q.2.2 _ _ (by unfold roF; omega)).trans (p6 i hi)⟩ (fun u hu => ⟨Nat.zero_le _, y4 u hu⟩) (by rw [y2]; show s.n + (0 + bs.length) + 0 ≤ _; omega) (by rw [y3]; exact rb6 hm) (by omega)
      exact hJ.up
    · rw [c_commit c1 c, r_commit c2 c, Option.bind_some, Option.bind_some]
      dsimp only
      rw [if_pos rfl, if_pos rfl]
      obtain ⟨s1, hs1⟩ : ∃ s1, s1 = wI (wI s 0 15 (nI (ct - 1))) 0 14 (nI (cm + 1)) := ⟨_, rfl⟩
      obtain ⟨t1, ht1⟩ : ∃ t1, t1 = wI (wI t 1079 3 (nI (ct - 1))) 1079 2 (nI (cm + 1)) := ⟨_, rfl⟩
      rw [← hs1, ← ht1]
      have i13 : s1.I 0 13 = nI dy := by rw [hs1, wI_o (by omega), wI_o (by omega)]; exact c1.2.1
      have j1 : t1.I 1079 1 = nI dy := by rw [ht1, wI_o (by omega), wI_o (by omega)]; exact c2.2.1
      rw [i13, j1, nI_1, wI_e, wI_e]
      have hJ : gJ (j + 1) (wI s1 0 13 (nI (dy + 1))) (wI t1 1079 1 (nI (dy + 1))) := by
        refine gJ_n (pw1 := true) (dy1 := dy + 1) hK hD hP hW (Nat.le_trans hn (by omega)) (Nat.le_trans hm (Nat.add_le_add_left (Nat.mul_le_mul_left _ (Nat.le_succ j)) _)) (by omega) (by omega) (by rw [hs1]; exact out_I (out_I (out_I out_r ⟨rfl, by omega⟩) ⟨rfl, by omega⟩) ⟨rfl, by omega⟩) (by rw [ht1]; exact out_I (out_I (out_I out_r ⟨rfl, by omega⟩) ⟨rfl, by omega⟩) ⟨rfl, by omega⟩) (hK.1.d (by omega)) ⟨cm + 1, ct - 1, ⟨?_, wI_e _ _ _ _, ?_, ?_, ?_⟩, ?_, wI_e _ _ _ _, ?_, ?_, ?_⟩
        · rw [wI_o (by omega), hs1, wI_o (by omega), wI_o (by omega)]; exact c1.1
        · rw [wI_o (by omega), hs1, wI_e]
        · rw [wI_o (by omega), hs1, wI_o (by omega), wI_e]
        · have := c1.2.2.2.2; omega
        · rw [wI_o (by omega), ht1, wI_o (by omega), wI_o (by omega)]; exact c2.1
        · rw [wI_o (by omega), ht1, wI_e]
        · rw [wI_o (by omega), ht1, wI_o (by omega), wI_e]
        · have := c1.2.2.2.2; omega
      exact ⟨_, _, _, rfl, rfl, hJ⟩
theorem g_connect {j : Nat} {s t : uS} (h : gJ j s t) : ∃ (s1 t1 : uS) (v : Bool), fn_X11_connect s = some (s1, v) ∧ fn_X12_connect t = some (t1, v) ∧ gJ j s1 t1 := by
  have h00 := h
  obtain ⟨dy, κ, τ, pw, bs, w, hK, hD, hP, hW, hn, hm, hτ, hdy⟩ := h
  obtain ⟨cm, ct, c1, c2⟩ := hK.2.1
  unfold fn_X11_connect fn_X12_connect
  cases pw with
  | false =>
    rw [if_pos (show s.I 0 16 = 0 from c1.1), if_pos (show t.I 1079 0 = 0 from c2.1)]
    exact ⟨s, t, _, rfl, rfl, h00⟩
  | true =>
    rw [if_neg (show ¬ s.I 0 16 = 0 by rw [c1.1]; decide), if_neg (show ¬ t.I 1079 0 = 0 by rw [c2.1]; decide)]
    unfold fn_X0_open
    rw [c_closeD, Option.bind_some, r_reset, Option.bind_some]
    obtain ⟨s0, hs0⟩ : ∃ s0, s0 = wI (cCl s) 1042 4 1 := ⟨_, rfl⟩
    obtain ⟨t0, ht0⟩ : ∃ t0, t0 = wI (wI (wI (rRs (wI (wI t 1079 113 1) 1079 114 0)) 1079 116 0) 1079 122 0) 1079 123 0 := ⟨_, rfl⟩
    rw [← hs0, ← ht0]
    have o0 : out (fun k f => fgI k f ∨ k = 1042) rNo s s0 := by rw [hs0]; exact out_t (out_w (cCl_o s) (fun k f z => by rcases z with z | z; exact Or.inl z; exact Or.inr z.1) (fun _ _ z => z)) (out_I out_r (Or.inr rfl))
    have q0 : out (fun k f => k = 1079 ∧ 113 ≤ f) rNo t t0 := by rw [ht0]; exact out_I (out_I (out_I (out_t (out_I (out_I out_r ⟨rfl, by omega⟩) ⟨rfl, by omega⟩) (out_w (rRs_o _) (fun k f z => by unfold rsJ at z; omega) (fun _ _ z => z))) ⟨rfl, by omega⟩) ⟨rfl, by omega⟩) ⟨rfl, by omega⟩
    have q1 : pQ1 4 s0 t0 := pQ_o (hK.1.2.2.2.1 4 (by decide)) o0 q0 (fun k f a => ⟨by unfold fgI; omega, fun z => z⟩) (fun _ _ _ z => z)
    obtain ⟨s1, t1, a1, a2, a3, a4, a5⟩ := t_lnR (w := kW_10) (w' := kW_163) rfl (by decide) q1
    rw [a1, Option.bind_some, Option.bind_some, a2, Option.bind_some]
    have oc : out clC clC s s1 := out_t (out_w o0 (fun k f z => by unfold fgI at z; unfold clC; omega) (fun _ _ z => z.elim)) (kq_cl (ln_c a4))
    have oq : out rlI rlG t t1 := out_t (out_w q0 (fun k f z => by unfold rlI; omega) (fun _ _ z => z.elim)) (kq_rl (ln_r a5))
    have hI : ∀ f : Nat, s1.I 1042 f = s0.I 1042 f := fun f => a4.2.1 _ _ (fun z => by have := qC4 z; omega)
    have hR : ∀ f : Nat, t1.I 1079 f = t0.I 1079 f := fun f => a5.2.1 _ _ (fun z => z)
    have hT0 : tS false none [] [] s0 t0 := by
      have b := tS_fg (gr := false) (s := wI (wI (wI (wI (wI s 1042 4 0) 1042 10 0) 1042 9 0) 1042 7 0) 1042 8 0) (t := wI (wI t 1079 113 1) 1079 114 0) (by rw [wI_o (by omega), wI_o (by omega), wI_o (by omega), wI_e]; rfl) (wI_e _ _ _ _)
      exact b.o (by rw [hs0]; exact out_I out_r (by unfold kpC; omega)) (by rw [ht0]; exact out_I (out_I (out_I out_r (by unfold kpI; omega)) (by unfold kpI; omega)) (by unfold kpI; omega))
    have hT : tS false none [] [] s1 t1 := hT0.o (kq_kp (ln_c a4)) (kq_kr (ln_r a5))
    have z0 : ∀ f : Nat, f = 7 ∨ f = 8 ∨ f = 9 → s0.I 1042 f = 0 := by
      intro f hf
      rw [hs0, wI_o (by omega)]
      show (cFg (wI (wI (wI (wI (wI s 1042 4 0) 1042 10 0) 1042 9 0) 1042 7 0) 1042 8 0)).I 1042 f = 0
      rw [(cFg_o _).2.1 _ _ (by unfold fgI; omega)]
      rcases hf with rfl | rfl | rfl
      · rw [wI_o (by omega), wI_e]
      · rw [wI_e]
      · rw [wI_o (by omega), wI_o (by omega), wI_e]
    have hZ : kZ s1 t1 := ⟨(hI 7).trans (z0 7 (by omega)), (hI 8).trans (z0 8 (by omega)), (hI 9).trans (z0 9 (by omega)), (hR 116).trans (by rw [ht0, wI_o (by omega), wI_o (by omega), wI_e]), (hR 122).trans (by rw [ht0, wI_o (by omega), wI_e]), (hR 123).trans (by rw [ht0, wI_e])⟩
    have i4 : s1.I 1042 4 = 1 := (hI 4).trans (by rw [hs0, wI_e])
    have i113 : t1.I 1079 113 = 1 := by
      rw [hR, ht0, wI_o (by omega), wI_o (by omega), wI_o (by omega), (rRs_o _).2.1 _ _ (by unfold rsJ; omega), wI_o (by omega), wI_e]
    obtain ⟨h1, h2, h3, h4, h5, h6, h7⟩ := hK
    have en : s1.n = s.n := oc.1.2.2.2.2.1
    have em : s1.m = s.m := oc.1.2.2.2.2.2
    obtain ⟨p1, p2, p3, p4, p5, p6⟩ := hP
    refine ⟨s1, t1, true, rfl, rfl, gJ_mk (κ := 0) (τ := 0) (w := w) hdy ⟨h1.l h3 a3 oc oq, cNr.o ⟨cm, ct, c1, c2⟩ oc oq (fun f => by unfold clC; omega) (fun f hf => by unfold rlI; omega), by rw [en]; exact h3, by rw [oq.1.2.2.2.2.1]; exact h4, h5.o oq (fun k f a => by unfold rlG qR; omega), Or.inr ⟨i4, i113, false, none, [], [], hT, Or.inl ⟨[], hZ.r, Nat.le_refl _⟩⟩, fun u hu => (h7 u hu).fr (fun k f z => ⟨oc.2.1 _ _ (by unfold sPl at z; unfold clC; omega), oc.2.2 _ _ (by unfold sPl at z; unfold clC; omega)⟩) (fun k f z => oq.2.2 _ _ (by unfold rPl at z; unfold rlG qR; omega))⟩ (hD.o oc (fun u hu => by unfold clC; omega)) ⟨p1, p2, (oc.2.1 _ _ (by unfold clC; omega)).trans p3, (oq.2.1 _ _ (by unfold rlI; omega)).trans p4, fun i hi => (oc.2.2 _ _ (by unfold clC; omega)).trans (p5 i hi), fun i hi => (oq.2.2 _ _ (by unfold rlG qR; omega)).trans (p6 i hi)⟩ (fun u hu => ⟨(hW u hu).1, (oc.2.1 _ _ (by unfold clC; omega)).trans (hW u hu).2⟩) ?_ ?_ ?_⟩
    · rw [en]; omega
    · rw [em]; exact Nat.le_trans (Nat.add_le_add_right (Nat.add_le_add_left (Nat.mul_le_mul_left 550 (Nat.add_le_add_right (Nat.zero_le κ) _)) s.m) _) hm
    · omega
