/-! does the message name the recipient: on both sides -/
def toB (nm : List Nat) : Bool := eqW nm kW_136 || eqW nm kW_150 || eqW nm kW_151
/-- an address is one of his -/
def meP (ts : List (List Nat)) (f m : Nat) (rcp v : List Nat) : Bool := eqT true v rcp || anyB (fun k => eqT true v (ts.getD (f + k) [])) m 0
def meB (fs : List (List Nat × List Nat)) (ts : List (List Nat)) (f m : Nat) (rcp : List Nat) : Bool := (hvs 12 toB fs).any (meP ts f m rcp)
theorem low_k58 {w : List Nat} : (plc w kW_58 0 0 true).isSome = toB w := by
  rw [plc_wix]
  unfold toB
  show (if eqW w ((spl kW_58).1) = true then some 0 else if eqW w ((spl kW_58).2.getD 0 []) = true then some 1 else if eqW w ((spl kW_58).2.getD 1 []) = true then some 2 else none : Option Nat).isSome = _
  rw [show kW_136 = (spl kW_58).1.map lo by decide, show kW_150 = ((spl kW_58).2.getD 0 []).map lo by decide, show kW_151 = ((spl kW_58).2.getD 1 []).map lo by decide, eqW_lo, eqW_lo, eqW_lo]
  cases eqW w ((spl kW_58).1) <;> cases eqW w ((spl kW_58).2.getD 0 []) <;> cases eqW w ((spl kW_58).2.getD 1 []) <;> rfl
theorem hvs_12 {l : List Nat → Bool} {p : List Nat × List Nat} {fs : List (List Nat × List Nat)} : hvs 12 l (p :: fs) = (if l p.1 = true then fa p.2 0 0 false false [] else []) ++ hvs 12 l fs := by
  show (if l p.1 = true then (if 12 = 11 then [p.2] else fa p.2 0 0 false false []) else []) ++ hvs 12 l fs = _
  rw [if_neg (show ¬ (12 = 11) by decide)]
theorem c_ad9 {fs : List (List Nat × List Nat)} {nd : Nat} {x2 : Int32} (ho : fsO fs) : ∀ (r : List (List Nat × List Nat)) (N i : Nat) (vs : List (List Nat)) (bg : Nat) (s : uS), fs.drop i = r → i ≤ fs.length → r.length + 1 ≤ N → cFl s fs → cTz s 1062 4400 1001 vs bg [] → bg + tot r ≤ 4000 → 4 * vs.length + tot r ≤ 4000 → ∃ (s1 : uS) (bg1 : Nat), fn_X6_isAddressed_9 N nd x2 (nI i) s = fn_X6_isAddressed_46 uFu nd x2 0 s1 ∧ cTz s1 1062 4400 1001 (vs ++ hvs 12 toB r) bg1 [] ∧ 4 * (vs ++ hvs 12 toB r).length ≤ 4 * vs.length + tot r ∧ out (tI 1062) (tF 1062) s s1 := by
  have tl := tot_len fs
  have ho1 := ho.1
  intro r
  induction r with
  | nil =>
    intro N i vs bg s hd hi hN hfl h hb hv
    obtain ⟨n1, rfl⟩ : ∃ n1, N = n1 + 1 := ⟨N - 1, by simp at hN; omega⟩
    have hlen : fs.length ≤ i := by
      by_cases c : i < fs.length
      · rw [List.drop_eq_getElem_cons c] at hd; cases hd
      · omega
    obtain ⟨b1, b2, n1', n2'⟩ := hfl
    refine ⟨s, bg, ?_, by rw [show hvs 12 toB [] = [] from rfl, List.append_nil]; exact h, by rw [show hvs 12 toB [] = [] from rfl, List.append_nil]; omega, out_r⟩
    show fb_X6_isAddressed_9 _ _ _ _ _ = _
    unfold fb_X6_isAddressed_9
    rw [n1'.1, List.length_map, if_pos (nI_le hlen (by omega))]
  | cons p r ih =>
    intro N i vs bg s hd hi hN hfl h hb hv
    simp only [List.length_cons] at hN
    obtain ⟨n1, rfl⟩ : ∃ n1, N = n1 + 1 := ⟨N - 1, by omega⟩
    obtain ⟨d1, d2, d3, d4⟩ := drop_fs hd
    have htot : tot (p :: r) = p.2.length + 4 + tot r := rfl
    rw [htot] at hb hv
    have hfl2 := hfl
    obtain ⟨b1, b2, m1, m2⟩ := hfl2
    have hlen1 : (fs.map Prod.fst).length = fs.length := List.length_map ..
    have go : ∀ (s1 : uS) (ws : List (List Nat)) (bg1 : Nat), out (tI 1062) (tF 1062) s s1 → cTz s1 1062 4400 1001 (vs ++ ws) bg1 [] → bg1 ≤ bg + p.2.length → 4 * (vs ++ ws).length ≤ 4 * vs.length + p.2.length + 4 → ws = (if toB p.1 = true then fa p.2 0 0 false false [] else []) → ∃ (s2 : uS) (bg2 : Nat), fn_X6_isAddressed_9 n1 nd x2 (nI (i + 1)) s1 = fn_X6_isAddressed_46 uFu nd x2 0 s2 ∧ cTz s2 1062 4400 1001 (vs ++ hvs 12 toB (p :: r)) bg2 [] ∧ 4 * (vs ++ hvs 12 toB (p :: r)).length ≤ 4 * vs.length + tot (p :: r) ∧ out (tI 1062) (tF 1062) s s2 := by
      intro s1 ws bg1 o z1 z2 z3 z4
      obtain ⟨s2, bg2', r1, r2, r3, r4⟩ := ih n1 (i + 1) (vs ++ ws) bg1 s1 d4 (by omega) (by omega) ⟨b1, b2, m1.o o (fun _ => by unfold tI; omega) (fun _ => by unfold tF; omega) (fun _ => by unfold tF; omega) (fun _ => by unfold tF; omega), m2.o o (fun _ => by unfold tI; omega) (fun _ => by unfold tF; omega) (fun _ => by unfold tF; omega) (fun _ => by unfold tF; omega)⟩ z1 (by omega) (by omega)
      rw [hvs_12, ← z4, ← List.append_assoc, htot]
      exact ⟨s2, bg2', r1, r2, by omega, out_t o r4⟩
    show ∃ (s2 : uS) (bg2 : Nat), fb_X6_isAddressed_9 (fn_X6_isAddressed_9 n1) nd x2 (nI i) s = _ ∧ _
    unfold fb_X6_isAddressed_9
    have q1 := c_plIn (W := kW_58) uTx_nm m1 (show i < (fs.map Prod.fst).length by omega) (by decide) (by decide)
    have q1' : fn_X9_placeIn 1054 kW_58 (nI i) s = some (oI (plc p.1 kW_58 0 0 true)) := by
      rw [show (fs.map Prod.fst).getD i [] = p.1 from d2] at q1
      exact q1
    rw [m1.1, hlen1, if_neg (nI_ge d1 (by omega)), q1', Option.bind_some, nI_1]
    have hk := low_k58 (w := p.1)
    cases hpl : plc p.1 kW_58 0 0 true with
    | none =>
      rw [hpl] at hk
      have hk' : toB p.1 = false := hk.symm
      rw [show oI (none : Option Nat) = -1 from rfl, if_pos (by decide)]
      exact go s [] bg out_r (by rw [List.append_nil]; exact h) (by omega) (by rw [List.append_nil]; omega) (by rw [hk', if_neg (by decide)])
    | some j =>
      rw [hpl] at hk
      have hk' : toB p.1 = true := hk.symm
      have hj := plc_b (W := kW_58) (fun ws e => by rw [← e]; decide) hpl
      rw [show oI (some j) = nI j from rfl, if_neg (nI_pos (by omega))]
      obtain ⟨fr, a1, a2, a3, a4⟩ := tz_rd uTx_vl m2 (i := i) (by rw [List.length_map]; exact d1)
      rw [show (List.map Prod.snd fs).getD i [] = p.2 from d3] at a2 a3 a4
      obtain ⟨s1, bg1, e1, e2, e3, e4, e5⟩ := c_fa p.2 1000000 fr 0 0 false false [] vs bg s (by omega) (fun j hj => a3.2.2 j hj) a3.2.1 h (by omega) (by omega) (by simp; omega) (by simp; omega) (by omega)
      unfold fn_X6_findAddresses
      rw [show iget 20 s 1061 (nI i) = _ from a2, Option.bind_some, show iget 20 s 1060 (nI i) = _ from a1, Option.bind_some, show fn_X6_findAddresses_32 uFu (nI (fr + p.2.length)) 0 0 false false (nI fr) s = some s1 from e1, Option.bind_some]
      exact go s1 _ bg1 e5 e2 (by simp at e3; omega) (by simp at e4 ⊢; omega) (by rw [hk', if_pos rfl])
/-- the class -/
theorem c_addrd {s : uS} {fs : List (List Nat × List Nat)} {ts rcs : List (List Nat)} {i f m ri bg b4 : Nat} (hi : i < 320) (h : cFl s fs) (ho : fsO fs) (hs : cTz s 8 2000 301 ts bg []) (hrc : cTz s 1047 404 4 rcs b4 []) (hri : ri < rcs.length) (h1 : 0 < m → s.F (17 + 3 * i) 8 = nI f) (h2 : s.F (18 + 3 * i) 8 = nI m) (hm : 0 < m → f + m ≤ ts.length) (hm10 : m ≤ 10) : ∃ s1 : uS, fn_X6_isAddressed (16 + 3 * i) (nI ri) s = some (s1, meB fs ts f m (rcs.getD ri [])) ∧ out (tI 1062) (tF 1062) s s1 := by
  have tl := tot_len fs
  have ho1 := ho.1
  obtain ⟨s1, a1, a2, a3⟩ := tz_clearO 1062 4400 1001 s
  have hfl : cFl s1 fs := by
    obtain ⟨b1, b2, m1, m2⟩ := h
    exact ⟨b1, b2, m1.o a3 (fun _ => by unfold tI; omega) (fun _ => by unfold tF; omega) (fun _ => by unfold tF; omega) (fun _ => by unfold tF; omega), m2.o a3 (fun _ => by unfold tI; omega) (fun _ => by unfold tF; omega) (fun _ => by unfold tF; omega) (fun _ => by unfold tF; omega)⟩
  obtain ⟨s2, bg2, c1, c2, c3, c4⟩ := c_ad9 (nd := 16 + 3 * i) (x2 := nI ri) ho fs uFu 0 [] 0 s1 (List.drop_zero ..) (Nat.zero_le _) (by show _ ≤ 1000000; omega) hfl a2 (by omega) (by simp; omega)
  rw [List.nil_append] at c2 c3
  have o2 := out_t a3 c4
  have hs2 : cTz s2 8 2000 301 ts bg [] := hs.o o2 (fun _ => by unfold tI; omega) (fun _ => by unfold tF; omega) (fun _ => by unfold tF; omega) (fun _ => by unfold tF; omega)
  have hrc2 : cTz s2 1047 404 4 rcs b4 [] := hrc.o o2 (fun _ => by unfold tI; omega) (fun _ => by unfold tF; omega) (fun _ => by unfold tF; omega) (fun _ => by unfold tF; omega)
  have g1 : 0 < m → iget 20 s2 (16 + 3 * i + 1) 8 = some (nI f) := by
    intro hm0
    rw [show (8 : Int32) = nI 8 from rfl, ig_nod hi (by decide) (Or.inl rfl), o2.2.2 _ _ (by unfold tF; omega), show 16 + 3 * i + 1 = 17 + 3 * i by omega, h1 hm0]
  have g2 : iget 20 s2 (16 + 3 * i + 2) 8 = some (nI m) := by
    rw [show (8 : Int32) = nI 8 from rfl, ig_nod hi (by decide) (Or.inr rfl), o2.2.2 _ _ (by unfold tF; omega), show 16 + 3 * i + 2 = 18 + 3 * i by omega, h2]
  refine ⟨s2, ?_, o2⟩
  unfold fn_X6_isAddressed
  rw [a1, Option.bind_some, show fn_X6_isAddressed_9 uFu (16 + 3 * i) (nI ri) 0 s1 = _ from c1]
  unfold meB
  generalize hvs 12 toB fs = vs at c2 c3 ⊢
  have c3' : 4 * vs.length ≤ tot fs := by simpa using c3
  have hl := any0 (F := fun n x => fn_X6_isAddressed_46 n (16 + 3 * i) (nI ri) x s2) (p := fun v => meP ts f m (rcs.getD ri []) (vs.getD v [])) (fin := fun B => some (s2, B)) (L := vs.length) (fun n v hv => ?_) (by show _ < 1000000; omega)
  · rw [hl]
    rw [any_B vs 0 vs (fun j => by rw [Nat.zero_add])]
  · show fb_X6_isAddressed_46 (fn_X6_isAddressed_46 n) (16 + 3 * i) (nI ri) (nI v) s2 = _
    unfold fb_X6_isAddressed_46
    rw [c2.1]
    by_cases c : vs.length ≤ v
    · rw [if_pos (nI_le c (by omega)), if_pos c]
    · rw [if_neg (nI_ge (by omega) (by omega)), if_neg c, c_sameText uTx_fd c2 (show v < vs.length by omega) uTx_rc hrc2 hri, Option.bind_some]
      rw [mrk0 (F := fun n' b x => fn_X6_isAddressed_79 (fn_X6_isAddressed_46 n) n' (16 + 3 * i) (nI ri) (nI v) b x s2) (p := fun k => eqT true (vs.getD v []) (ts.getD (f + k) [])) (fin := fun B => fb_X6_isAddressed_127 (fn_X6_isAddressed_46 n) (16 + 3 * i) (nI ri) (nI v) B s2) (L := m) (fun n' b k hk => ?_) (by show _ < 1000000; omega)]
      · unfold fb_X6_isAddressed_127
        rw [nI_1]
        rfl
      · show fb_X6_isAddressed_79 (fn_X6_isAddressed_46 n) (fn_X6_isAddressed_79 (fn_X6_isAddressed_46 n) n') (16 + 3 * i) (nI ri) (nI v) b (nI k) s2 = _
        unfold fb_X6_isAddressed_79
        rw [g2, Option.bind_some]
        by_cases d : m ≤ k
        · rw [if_pos (nI_le d (by omega)), if_pos d]
        · rw [if_neg (nI_ge (by omega) (by omega)), if_neg d]
          cases b with
          | true => rw [if_pos rfl, if_pos rfl]
          | false => rw [if_neg (by decide), if_neg (by decide), g1 (by omega), Option.bind_some, nI_add, c_sameText uTx_fd c2 (show v < vs.length by omega) uTx_str hs2 (show f + k < ts.length by have := hm (by omega); omega), Option.bind_some, nI_1]
/-! the reference -/
/-- the vacation's own addresses, the recipient, the fields -/
def rMe (t : uS) (nv f m : Nat) (ts : List (List Nat)) (rcp : List Nat) (fs : List (List Nat × List Nat)) : Prop := t.I 1079 105 = nI nv ∧ nv < 520 ∧ rSt t ts ∧ (m = 0 ∧ t.F 1104 nv = -1 ∨ t.F 1104 nv = nI f ∧ t.F 1105 nv = nI m ∧ f + m ≤ ts.length ∧ m ≤ 10) ∧ rTe t 91 1136 rcp ∧ rFl t fs
theorem rMe.o {t t1 : uS} {nv f m : Nat} {ts : List (List Nat)} {rcp : List Nat} {fs : List (List Nat × List Nat)} (h : rMe t nv f m ts rcp fs) (o : out leI leF t t1) : rMe t1 nv f m ts rcp fs := by
  obtain ⟨h1, h2, h3, h4, h5, h6⟩ := h
  have F : ∀ k f : Nat, 1096 ≤ k → k ≤ 1137 → t1.F k f = t.F k f := fun k f a b => o.2.2 _ _ (by unfold leF; omega)
  refine ⟨(o.2.1 _ _ (by unfold leI; omega)).trans h1, h2, h3.fr (fun k j z => F _ _ (by omega) (by omega)), ?_, h5.o o (by unfold leI; omega) (fun f => by unfold leF; omega), h6.o o (by unfold leI; omega) (fun k f _ _ => by unfold leF; omega)⟩
  rcases h4 with ⟨a, b⟩ | ⟨a, b, c⟩
  · exact Or.inl ⟨a, (F _ _ (by omega) (by omega)).trans b⟩
  · exact Or.inr ⟨(F _ _ (by omega) (by omega)).trans a, (F _ _ (by omega) (by omega)).trans b, c⟩
theorem r_mi48 {nv f m : Nat} {ts : List (List Nat)} {rcp v : List Nat} {fs : List (List Nat × List Nat)} : ∀ (d N q : Nat) (b : Bool) (t : uS), q + d = m → d + 1 ≤ N → rMe t nv f m ts rcp fs → r1 t v → ∃ t1 : uS, fn_X12_isMine_48 N b (nI nv) (nI q) t = some (t1, b || anyB (fun k => eqT true v (ts.getD (f + k) [])) d q) ∧ r1 t1 v ∧ out twI twF t t1 := by
  intro d
  induction d with
  | zero =>
    intro N q b t hq hN hm h1
    obtain ⟨M, rfl⟩ : ∃ M, N = M + 1 := ⟨N - 1, by omega⟩
    refine ⟨t, ?_, h1, out_r⟩
    show fb_X12_isMine_48 (fn_X12_isMine_48 M) b (nI nv) (nI q) t = some (t, b || false)
    unfold fb_X12_isMine_48
    rw [g_1104 hm.2.1, Option.bind_some, Bool.or_false]
    rcases hm.2.2.2.1 with ⟨a, c⟩ | ⟨a, c, e, g⟩
    · rw [c, if_pos (by decide)]
    · have hl := hm.2.2.1
      obtain ⟨bg, -, -, l3, -⟩ := hl
      rw [a, if_neg (nI_pos (by omega)), g_1105 hm.2.1, Option.bind_some, c, if_pos (nI_le (by omega) (by omega))]
  | succ d ih =>
    intro N q b t hq hN hm h1
    obtain ⟨M, rfl⟩ : ∃ M, N = M + 1 := ⟨N - 1, by omega⟩
    have hl := hm.2.2.1
    obtain ⟨bg, s1, s2, l3, s4⟩ := hl
    obtain ⟨a, c, e, g⟩ : t.F 1104 nv = nI f ∧ t.F 1105 nv = nI m ∧ f + m ≤ ts.length ∧ m ≤ 10 := by
      rcases hm.2.2.2.1 with ⟨a, -⟩ | z
      · omega
      · exact z
    rw [anyB_s]
    show ∃ t1 : uS, fb_X12_isMine_48 (fn_X12_isMine_48 M) b (nI nv) (nI q) t = _ ∧ _
    unfold fb_X12_isMine_48
    rw [g_1104 hm.2.1, Option.bind_some, a, if_neg (nI_pos (by omega)), g_1105 hm.2.1, Option.bind_some, c, if_neg (nI_ge (by omega) (by omega))]
    cases b with
    | true =>
      rw [if_pos rfl]
      exact ⟨t, by rw [Bool.true_or], h1, out_r⟩
    | false =>
      rw [if_neg (by decide), Option.bind_some, nI_add]
      obtain ⟨p, p1, p2, p3, pl, p4⟩ := s1 (f + q) (by omega)
      have hby := s4 (f + q)
      rw [g_1117 (by omega), Option.bind_some, p3]
      generalize hy : ts.getD (f + q) [] = y at *
      have ec : fn_X12_isMine_95 (fn_X12_isMine_48 M) uFu (nI nv) (nI q) (nI (f + q)) 0 (wI t 1079 23 (nI y.length)) = (fn_X12_likeLow (cpy (wI t 1079 23 (nI y.length)) 1094 0 0 y.length (fun j => nI (y.getD j 0)))).bind fun v2 => fn_X12_isMine_48 M v2 (nI nv) (nI (q + 1)) (cpy (wI t 1079 23 (nI y.length)) 1094 0 0 y.length (fun j => nI (y.getD j 0))) := by
        refine cpy0 (F := fun N x s => fn_X12_isMine_95 (fn_X12_isMine_48 M) N (nI nv) (nI q) (nI (f + q)) x s) (fin := fun s => (fn_X12_likeLow s).bind fun v2 => fn_X12_isMine_48 M v2 (nI nv) (nI (q + 1)) s) ?_ ?_ (by show _ < 1000000; omega)
        · intro N z hz
          show fb_X12_isMine_95 _ (fn_X12_isMine_95 _ N) (nI nv) (nI q) (nI (f + q)) (nI z) _ = _
          unfold fb_X12_isMine_95
          rw [cpy_I, wI_e, if_neg (nI_ge hz (by omega)), g_1116 (by omega), Option.bind_some, cpy_Fo (by decide), wI_F, p2, nI_add, g_1097 (by omega), Option.bind_some, cpy_Fo (by decide), wI_F, p4 z hz, p_1094 (by omega), Option.bind_some, nI_1 z, Nat.zero_add]
        · intro N
          show fb_X12_isMine_95 _ (fn_X12_isMine_95 _ N) (nI nv) (nI q) (nI (f + q)) (nI y.length) _ = _
          unfold fb_X12_isMine_95
          rw [cpy_I, wI_e, if_pos (nI_le (Nat.le_refl _) (by omega)), nI_1]
      have o1 : out twI twF t (cpy (wI t 1079 23 (nI y.length)) 1094 0 0 y.length (fun j => nI (y.getD j 0))) := out_t (out_I out_r ⟨rfl, rfl⟩) (out_cpy (fun _ => rfl))
      have r2' : r2 (cpy (wI t 1079 23 (nI y.length)) 1094 0 0 y.length (fun j => nI (y.getD j 0))) y := by
        refine ⟨by rw [cpy_I, wI_e], pl, hby, fun j hj => ?_⟩
        have := cpy_Fe (s := wI t 1079 23 (nI y.length)) (K := 1094) (off := 0) (i := 0) (L := y.length) (g := fun i => nI (y.getD i 0)) (Nat.zero_le j) hj
        rw [Nat.zero_add] at this
        exact this
      rw [ec]
      generalize cpy (wI t 1079 23 (nI y.length)) 1094 0 0 y.length (fun j => nI (y.getD j 0)) = t2 at *
      have h12 : r1 t2 v := h1.mk (o1.2.1 _ _ (by unfold twI; omega)) (fun j => o1.2.2 _ _ (by unfold twF; omega))
      rw [r_like h12 r2', Option.bind_some]
      obtain ⟨t3, x1, x2, x3⟩ := ih M (q + 1) (eqT true v y) t2 (by omega) (by omega) (hm.o (leO4 o1)) h12
      refine ⟨t3, ?_, x2, out_t o1 x3⟩
      rw [x1, Bool.false_or]
theorem r_mine {nv f m : Nat} {ts : List (List Nat)} {rcp v : List Nat} {fs : List (List Nat × List Nat)} {t : uS} (hm : rMe t nv f m ts rcp fs) (h1 : r1 t v) : ∃ t1 : uS, fn_X12_isMine t = some (t1, meP ts f m rcp v) ∧ out twI twF t t1 := by
  obtain ⟨e1, e2, e3, e4⟩ := hm.2.2.2.2.1
  have hm10 : m ≤ 10 := by rcases hm.2.2.2.1 with ⟨a, -⟩ | ⟨-, -, -, z⟩ <;> omega
  unfold fn_X12_isMine
  rw [e1]
  have ec : fn_X12_isMine_10 uFu 0 (wI t 1079 23 (nI rcp.length)) = (fn_X12_likeLow (cpy (wI t 1079 23 (nI rcp.length)) 1094 0 0 rcp.length (fun j => nI (rcp.getD j 0)))).bind fun v2 => fn_X12_isMine_48 uFu v2 ((cpy (wI t 1079 23 (nI rcp.length)) 1094 0 0 rcp.length (fun j => nI (rcp.getD j 0))).I 1079 105) 0 (cpy (wI t 1079 23 (nI rcp.length)) 1094 0 0 rcp.length (fun j => nI (rcp.getD j 0))) := by
    refine cpy0 (F := fun N x s => fn_X12_isMine_10 N x s) (fin := fun s => (fn_X12_likeLow s).bind fun v2 => fn_X12_isMine_48 uFu v2 (s.I 1079 105) 0 s) ?_ ?_ (by show _ < 1000000; omega)
    · intro N z hz
      show fb_X12_isMine_10 (fn_X12_isMine_10 N) (nI z) _ = _
      unfold fb_X12_isMine_10
      rw [cpy_I, wI_o (by omega), e1, if_neg (nI_ge hz (by omega)), g_1136 (by omega), Option.bind_some, cpy_Fo (by decide), wI_F, e4 z hz, p_1094 (by omega), Option.bind_some, nI_1 z, Nat.zero_add]
    · intro N
      show fb_X12_isMine_10 (fn_X12_isMine_10 N) (nI rcp.length) _ = _
      unfold fb_X12_isMine_10
      rw [cpy_I, wI_o (by omega), e1, if_pos (nI_le (Nat.le_refl _) (by omega))]
  have o1 : out twI twF t (cpy (wI t 1079 23 (nI rcp.length)) 1094 0 0 rcp.length (fun j => nI (rcp.getD j 0))) := out_t (out_I out_r ⟨rfl, rfl⟩) (out_cpy (fun _ => rfl))
  have r2' : r2 (cpy (wI t 1079 23 (nI rcp.length)) 1094 0 0 rcp.length (fun j => nI (rcp.getD j 0))) rcp := by
    refine ⟨by rw [cpy_I, wI_e], by omega, e3, fun j hj => ?_⟩
    have := cpy_Fe (s := wI t 1079 23 (nI rcp.length)) (K := 1094) (off := 0) (i := 0) (L := rcp.length) (g := fun i => nI (rcp.getD i 0)) (Nat.zero_le j) hj
    rw [Nat.zero_add] at this
    exact this
  rw [ec]
  generalize cpy (wI t 1079 23 (nI rcp.length)) 1094 0 0 rcp.length (fun j => nI (rcp.getD j 0)) = t2 at *
  have h12 : r1 t2 v := h1.mk (o1.2.1 _ _ (by unfold twI; omega)) (fun j => o1.2.2 _ _ (by unfold twF; omega))
  have hm2 := hm.o (leO4 o1)
  rw [r_like h12 r2', Option.bind_some, hm2.1]
  obtain ⟨t3, x1, x2, x3⟩ := r_mi48 m uFu 0 (eqT true v rcp) t2 (by omega) (by show _ ≤ 1000000; omega) hm2 h12
  exact ⟨t3, x1, out_t o1 x3⟩
theorem r_meP {nv f m i : Nat} {ts : List (List Nat)} {rcp w : List Nat} {fs : List (List Nat × List Nat)} {K4 : Bool → Int32 → uS → Option (uS × Bool)} : ∀ (M N k : Nat) (more : Bool) (t : uS) (b : Bool), (if more = true then w.length - k + 1 else 0) ≤ M → M + 1 ≤ N → rMe t nv f m ts rcp fs → rWh t w → t.I 1079 24 = nI k → t.I 1079 25 = bI more → (more = true → k ≤ w.length) → ∃ t1 : uS, fn_X12_isForMe_73 K4 N b (nI i) t = K4 (b || (if more = true then fa (w.drop k) 0 0 false false [] else []).any (meP ts f m rcp)) (nI (i + 1)) t1 ∧ out leI leF t t1 := by
  intro M
  induction M with
  | zero =>
    intro N k more t b hM hN hc hw h24 h25 hk
    obtain ⟨n1, rfl⟩ : ∃ n1, N = n1 + 1 := ⟨N - 1, by omega⟩
    have m0 : more = false := by
      cases more with
      | false => rfl
      | true => simp at hM
    subst m0
    refine ⟨t, ?_, out_r⟩
    show fb_X12_isForMe_73 K4 (fn_X12_isForMe_73 K4 n1) _ _ _ = _
    unfold fb_X12_isForMe_73 fn_X12_nextPart
    rw [h25, if_pos (show bI false = 0 from rfl), Option.bind_some, if_neg (show ¬ (false = true) by decide), nI_1, if_neg (by decide)]
    show _ = K4 (b || false) _ _
    rw [Bool.or_false]
  | succ M ih =>
    intro N k more t b hM hN hc hw h24 h25 hk
    obtain ⟨n1, rfl⟩ : ∃ n1, N = n1 + 1 := ⟨N - 1, by omega⟩
    cases more with
    | false => exact ih (n1 + 1) k false t b (by simp) (by omega) hc hw h24 h25 hk
    | true =>
      have hl := hw.2.1
      rw [if_pos rfl] at hM
      have o0 : out npI npF t (wI t 1079 21 0) := out_I out_r ⟨rfl, Or.inl rfl⟩
      obtain ⟨t1, v, k', e1, e2, e3, e4, e5, e6, e7, e8⟩ := r_np (w := w) 1000000 k 0 0 false [] [] (wI t 1079 21 0) (by omega) (hk rfl) (by omega) (by omega) (fun z => by cases z) (by simp) (hw.o o0 (by unfold npI; omega) (fun _ => by unfold npF; omega)) ⟨wI_e _ _ _ _, by simp, bys_nil, fun j hj => absurd hj (by simp)⟩ (Or.inl rfl) (fun z => by cases z)
      have o1 := npO (out_t o0 e8)
      have hnx : fn_X12_nextPart t = some (t1, true) := by
        unfold fn_X12_nextPart
        rw [h25, if_neg (show ¬ bI true = 0 by decide), h24]
        exact e1
      have hc1 := hc.o o1
      rw [if_pos rfl, e7, List.any_append]
      have w1 : rWh t1 w := hw.o (out_t o0 e8) (by unfold npI; omega) (fun _ => by unfold npF; omega)
      have go : ∀ (t2 : uS) (b2 : Bool), out leI leF t t2 → t2.I 1079 24 = t1.I 1079 24 → t2.I 1079 25 = t1.I 1079 25 → rWh t2 w → (b2 = (b || (vOk v).any (meP ts f m rcp))) → ∃ t3 : uS, fn_X12_isForMe_73 K4 n1 b2 (nI i) t2 = K4 (b || ((vOk v).any (meP ts f m rcp) || (if k' < w.length then fa (w.drop (k' + 1)) 0 0 false false [] else []).any (meP ts f m rcp))) (nI (i + 1)) t3 ∧ out leI leF t t3 := by
        intro t2 b2 g1 g3 g4 g5 g6
        obtain ⟨t3, q1, q3⟩ := ih n1 (k' + 1) (decide (k' < w.length)) t2 b2 (by
          by_cases z : k' < w.length
          · rw [if_pos (decide_eq_true z)]; omega
          · rw [if_neg (by rw [decide_eq_true_eq]; exact z)]; omega) (by omega) (hc.o g1) g5 (g3.trans e4) (g4.trans e3) (fun z => by have := of_decide_eq_true z; omega)
        have hif : (if decide (k' < w.length) = true then fa (w.drop (k' + 1)) 0 0 false false [] else []) = (if k' < w.length then fa (w.drop (k' + 1)) 0 0 false false [] else []) := by
          by_cases z : k' < w.length
          · rw [if_pos (decide_eq_true z), if_pos z]
          · rw [if_neg (by rw [decide_eq_true_eq]; exact z), if_neg z]
        rw [hif, g6, Bool.or_assoc] at q1
        refine ⟨t3, ?_, out_t g1 q3⟩
        rw [g6]
        exact q1
      show ∃ t2 : uS, fb_X12_isForMe_73 K4 (fn_X12_isForMe_73 K4 n1) _ _ _ = _ ∧ _
      unfold fb_X12_isForMe_73
      rw [hnx, Option.bind_some, if_pos rfl]
      dsimp only
      cases b with
      | true =>
        rw [if_pos rfl]
        exact go t1 true o1 rfl rfl w1 (by rw [Bool.true_or])
      | false =>
        rw [if_neg (by decide), r_atOf (w := v) (t := t1) e2, Option.bind_some]
        cases e : adr v with
        | none =>
          have hv : vOk v = [] := by unfold vOk; rw [e]; rfl
          rw [show oI (none : Option Nat) = -1 from rfl, if_pos (by decide)]
          exact go t1 false o1 rfl rfl w1 (by rw [hv]; rfl)
        | some j =>
          have hs : (adr v).isSome = true := by rw [e]; rfl
          have hv : vOk v = [v] := by unfold vOk; rw [if_pos hs]
          have hj := (adr_at e).2
          have hvl := e2.2.1
          rw [show oI (some j) = nI j from rfl, if_neg (nI_pos (by omega))]
          obtain ⟨t2, p1, p2⟩ := r_mine hc1 e2
          rw [p1, Option.bind_some]
          dsimp only
          have hh := go t2 (meP ts f m rcp v) (out_t o1 (leO4 p2)) (p2.2.1 _ _ (by unfold twI; omega)) (p2.2.1 _ _ (by unfold twI; omega)) (w1.o p2 (by unfold twI; omega) (fun _ => by unfold twF; omega)) (by rw [hv, Bool.false_or]; show _ = (meP ts f m rcp v || false); rw [Bool.or_false])
          cases hB : meP ts f m rcp v with
          | true =>
            rw [hB] at hh
            rw [if_pos rfl]
            exact hh
          | false =>
            rw [hB] at hh
            rw [if_neg (by decide)]
            exact hh
theorem r_forL {nv f m : Nat} {ts : List (List Nat)} {rcp : List Nat} {fs : List (List Nat × List Nat)} (ho : fsO fs) : ∀ (rs : List (List Nat × List Nat)) (N i : Nat) (t : uS) (b : Bool), fs.drop i = rs → i ≤ fs.length → rs.length + 1 ≤ N → rMe t nv f m ts rcp fs → ∃ t1 : uS, fn_X12_isForMe_4 N b (nI i) t = some (t1, b || (hvs 12 toB rs).any (meP ts f m rcp)) ∧ out leI leF t t1 := by
  have tl := tot_len fs
  have ho1 := ho.1
  intro rs
  induction rs with
  | nil =>
    intro N i t b hd hi hN hm
    obtain ⟨n1, rfl⟩ : ∃ n1, N = n1 + 1 := ⟨N - 1, by simp at hN; omega⟩
    have hlen : fs.length ≤ i := by
      by_cases c : i < fs.length
      · rw [List.drop_eq_getElem_cons c] at hd; cases hd
      · omega
    refine ⟨t, ?_, out_r⟩
    show fb_X12_isForMe_4 (fn_X12_isForMe_4 n1) b (nI i) t = some (t, b || false)
    unfold fb_X12_isForMe_4
    rw [hm.2.2.2.2.2.1, if_pos (nI_le hlen (by omega)), Bool.or_false]
  | cons p rs ih =>
    intro N i t b hd hi hN hm
    simp only [List.length_cons] at hN
    obtain ⟨n1, rfl⟩ : ∃ n1, N = n1 + 1 := ⟨N - 1, by omega⟩
    obtain ⟨d1, d2, d3, d4⟩ := drop_fs hd
    rw [hvs_12, List.any_append, ← Bool.or_assoc]
    obtain ⟨t1, a1, a2, a3⟩ := r_oneN hm.2.2.2.2.2 ho d1
    rw [d2] at a2
    have q1 := leO2 a3
    obtain ⟨t2, b1, b2, b3⟩ := r_oneIs (W := kW_136) a2 (by decide) (by decide)
    have q2 := out_t q1 (leO4 b3)
    obtain ⟨t3, c1, c2, c3⟩ := r_oneIs (W := kW_150) b2 (by decide) (by decide)
    have q3 := out_t q2 (leO4 c3)
    obtain ⟨t4, e1, e2, e3⟩ := r_oneIs (W := kW_151) c2 (by decide) (by decide)
    have q4 := out_t q3 (leO4 e3)
    have k52 : ∀ (B : Bool) (t' : uS), out leI leF t t' → B = toB p.1 → ∃ t1 : uS, fb_X12_isForMe_52 (fn_X12_isForMe_4 n1) b (nI i) B t' = some (t1, b || (if toB p.1 = true then fa p.2 0 0 false false [] else []).any (meP ts f m rcp) || (hvs 12 toB rs).any (meP ts f m rcp)) ∧ out leI leF t t1 := by
      intro B t' o hB
      have hm' := hm.o o
      unfold fb_X12_isForMe_52
      cases B with
      | false =>
        rw [← hB, if_neg (by decide), if_neg (by decide), nI_1]
        obtain ⟨t5, x1, x2⟩ := ih n1 (i + 1) t' b d4 (by omega) (by omega) hm'
        refine ⟨t5, ?_, out_t o x2⟩
        rw [x1]
        show _ = some (t5, b || false || _)
        rw [Bool.or_false]
      | true =>
        rw [← hB, if_pos rfl, if_pos rfl]
        obtain ⟨u1, f1, f2, f3⟩ := r_oneV hm'.2.2.2.2.2 ho d1
        rw [d3] at f2
        have hp2 : p.2.length ≤ 4000 := by have := tot_vl fs i; rw [d3] at this; omega
        obtain ⟨u2, g1, g2, g3⟩ := r_keepW f2 hp2
        rw [f1, Option.bind_some, g1, Option.bind_some]
        have oo : out leI leF t u2 := out_t o (out_t (leO2 f3) (leO3 g3))
        have ob' : out npI npF u2 (wI (wI u2 1079 24 0) 1079 25 1) := out_I (out_I out_r ⟨rfl, by omega⟩) ⟨rfl, by omega⟩
        have ob := npO ob'
        show ∃ t1 : uS, (fn_X12_isForMe_73 (fn_X12_isForMe_4 n1) uFu b (nI i) (wI (wI u2 1079 24 0) 1079 25 1)) = _ ∧ _
        obtain ⟨u3, h1, h2⟩ := r_meP (K4 := fn_X12_isForMe_4 n1) (i := i) (w := p.2) (p.2.length + 1) uFu 0 true (wI (wI u2 1079 24 0) 1079 25 1) b (by rw [if_pos rfl]; omega) (by show _ ≤ 1000000; omega) (hm.o (out_t oo ob)) (g2.o ob' (by unfold npI; omega) (fun f => by unfold npF; omega)) (by rw [wI_o (by omega), wI_e]; rfl) (by rw [wI_e]; rfl) (fun _ => Nat.zero_le _)
        obtain ⟨t5, x1, x2⟩ := ih n1 (i + 1) u3 (b || (if true = true then fa (p.2.drop 0) 0 0 false false [] else []).any (meP ts f m rcp)) d4 (by omega) (by omega) (hm.o (out_t (out_t oo ob) h2))
        refine ⟨t5, ?_, out_t (out_t (out_t oo ob) h2) x2⟩
        rw [h1, x1, if_pos rfl, List.drop_zero]
    show ∃ t1 : uS, fb_X12_isForMe_4 (fn_X12_isForMe_4 n1) b (nI i) t = _ ∧ _
    unfold fb_X12_isForMe_4
    rw [hm.2.2.2.2.2.1, if_neg (nI_ge d1 (by omega)), a1, Option.bind_some, b1, Option.bind_some]
    dsimp only
    rw [c1, Option.bind_some]
    dsimp only
    rw [e1, Option.bind_some]
    dsimp only
    have hT : toB p.1 = (eqW p.1 kW_136 || eqW p.1 kW_150 || eqW p.1 kW_151) := rfl
    cases z1 : eqW p.1 kW_136 with
    | true => rw [if_pos rfl]; exact k52 true t2 q2 (by rw [hT, z1]; rfl)
    | false =>
      rw [if_neg (by decide)]
      cases z2 : eqW p.1 kW_150 with
      | true => rw [if_pos rfl]; exact k52 true t3 q3 (by rw [hT, z1, z2]; rfl)
      | false =>
        rw [if_neg (by decide)]
        cases z3 : eqW p.1 kW_151 with
        | true => rw [if_pos rfl]; exact k52 true t4 q4 (by rw [hT, z1, z2, z3]; rfl)
        | false => rw [if_neg (by decide)]; exact k52 false t4 q4 (by rw [hT, z1, z2, z3]; rfl)
theorem r_forMe {nv f m : Nat} {ts : List (List Nat)} {rcp : List Nat} {fs : List (List Nat × List Nat)} {t : uS} (ho : fsO fs) (hm : rMe t nv f m ts rcp fs) : ∃ t1 : uS, fn_X12_isForMe t = some (t1, meB fs ts f m rcp) ∧ out leI leF t t1 := by
  have tl := tot_len fs
  have ho1 := ho.1
  obtain ⟨t1, a1, a2⟩ := r_forL ho fs uFu 0 t false (List.drop_zero ..) (Nat.zero_le _) (by show _ ≤ 1000000; omega) hm
  exact ⟨t1, a1, a2⟩
