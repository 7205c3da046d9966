/-! letters: whole, on both sides -/
def waI (k f : Nat) : Prop := k = 1075 ∨ (k = 1070 ∧ f = 8)
def waF (k _f : Nat) : Prop := 1076 ≤ k ∧ k ≤ 1078
theorem wa_t {s s1 : uS} (h : out (tI 1075) (tF 1075) s s1) : out waI waF s s1 := out_w h (fun k f z => Or.inl z) (fun k f z => by unfold tF at z; unfold waF; omega)
theorem cTz.wa {s s1 : uS} {k cap mo bg : Nat} {ts : List (List Nat)} (h : cTz s k cap mo ts bg []) (o : out waI waF s s1) (hk : k < 1070) : cTz s1 k cap mo ts bg [] := h.o o (fun f => by unfold waI; omega) (fun f => by unfold waF; omega) (fun f => by unfold waF; omega) (fun f => by unfold waF; omega)
/-- the subject of an answer -/
def sbT (κ : Nat) (sj : Option Nat) (ts : List (List Nat)) (fs : List (List Nat × List Nat)) : List Nat := if κ = 6 then kW_62 else match sj with
  | some g => ts.getD g []
  | none => kW_63 ++ sjT fs
theorem c_sjN {s : uS} {fs : List (List Nat × List Nat)} (h : cFl s fs) (ho : fsO fs) : fn_X6_fieldNamed kW_64 s = some (oI (ffst (fun f => eqW (fnm fs f) kW_97) fs.length 0)) := by
  rw [c_fnamed h ho (by decide) (by decide) (fun w j hj => plc_b (fun ws e => by rw [← e]; decide) hj)]
  congr 2
  refine ffst_c _ _ (fun j _ _ => ?_)
  rw [plc_1 (by decide), show kW_97 = kW_64.map lo by decide, eqW_lo]
  cases eqW (fnm fs j) kW_64 <;> rfl
theorem c_wrA {s : uS} {i κ f : Nat} {sj : Option Nat} {ts : List (List Nat)} {bg b3 : Nat} {fs : List (List Nat × List Nat)} {snd : List Nat} (hi : i < 320) (hκ : κ = 6 ∨ κ = 10) (h0 : s.I (16 + 3 * i) 0 = nI κ) (hs : cTz s 8 2000 301 ts bg []) (hl1 : ∀ j : Nat, (ts.getD j []).length ≤ 1000) (hsn : cTz s 1043 101 1 [snd] b3 []) (hfl : cFl s fs) (ho : fsO fs) (h5 : s.F (17 + 3 * i) 5 = nI f) (hf : f < ts.length) (h64 : κ = 10 → fn_X3_has (16 + 3 * i) 64 s = some sj.isSome) (h6 : ∀ g : Nat, κ = 10 → sj = some g → s.F (17 + 3 * i) 6 = nI g ∧ g < ts.length) : ∃ s1 : uS, fn_X7_writeAnswer (16 + 3 * i) s = some s1 ∧ cTz s1 1075 6000 1 [] 0 (ltT snd (sbT κ sj ts fs) (ts.getD f [])) ∧ s1.I 1070 8 = 1 ∧ out waI waF s s1 := by
  have hsl : snd.length ≤ 101 := by
    obtain ⟨fr, -, -, -, z⟩ := tz_rd uTx_sn hsn (i := 0) Nat.zero_lt_one
    have z' : fr + snd.length ≤ 101 := z
    omega
  have hsj := sjT_len ho
  have hln : ∀ x y : List Nat, (x ++ y).length = x.length + y.length := fun x y => List.length_append
  have k60 : kW_60.length = 4 := rfl
  have k61 : kW_61.length = 11 := rfl
  have k62 : kW_62.length = 7 := rfl
  have k63 : kW_63.length = 6 := rfl
  have k65 : kW_65.length = 4 := rfl
  have k66 : kW_66.length = 2 := rfl
  unfold fn_X7_writeAnswer
  have o0 : out waI waF s (wI s 1070 8 1) := out_I out_r (Or.inr ⟨rfl, rfl⟩)
  have e80 : (wI s 1070 8 1).I 1070 8 = 1 := wI_e _ _ _ _
  generalize wI s 1070 8 1 = s0 at *
  obtain ⟨s1, a1, a2, a3⟩ := tz_clearO 1075 6000 1 s0
  rw [a1, Option.bind_some]
  have o1 := out_t o0 (wa_t a3)
  obtain ⟨s2, b1, b2, b3'⟩ := tz_putText (W := kW_60) uTx_an a2 (by decide) (by decide) (by rw [k60]; simp)
  rw [b1, Option.bind_some]
  have o2 := out_t o1 (wa_t b3')
  obtain ⟨s3, c1, c2, c3⟩ := tz_putFrom (i := 0) uTx_an uTx_sn b2 (hsn.wa o2 (by decide)) Nat.zero_lt_one (by decide) (by show 0 + ([] ++ kW_60).length + snd.length ≤ 6000; rw [hln, k60]; simp; omega)
  have c1' : fn_X9_putFrom 1075 1043 0 s2 = some s3 := c1
  have c2' : cTz s3 1075 6000 1 [] 0 (kW_60 ++ snd) := c2
  rw [c1', Option.bind_some]
  have o3 := out_t o2 (wa_t c3)
  obtain ⟨s4, d1, d2, d3⟩ := tz_putText (W := kW_61) uTx_an c2' (by decide) (by decide) (by rw [hln, k60, k61]; omega)
  rw [d1, Option.bind_some]
  have o4 := out_t o3 (wa_t d3)
  have e4 : s4.I 1070 8 = 1 := by
    rw [d3.2.1 _ _ (by unfold tI; omega), c3.2.1 _ _ (by unfold tI; omega), b3'.2.1 _ _ (by unfold tI; omega), a3.2.1 _ _ (by unfold tI; omega)]
    exact e80
  have hcur : (kW_60 ++ snd ++ kW_61).length ≤ 116 := by rw [hln, hln, k60, k61]; omega
  have hk0 : s4.I (16 + 3 * i) 0 = nI κ := (o4.2.1 _ _ (by unfold waI; omega)).trans h0
  have fin : ∀ (s5 : uS) (sub : List Nat), sub.length ≤ 4006 → cTz s5 1075 6000 1 [] 0 (kW_60 ++ snd ++ kW_61 ++ sub) → out (tI 1075) (tF 1075) s4 s5 → sub = sbT κ sj ts fs → ∃ s1 : uS, fb_X7_writeAnswer_144 (16 + 3 * i) s5 = some s1 ∧ cTz s1 1075 6000 1 [] 0 (ltT snd (sbT κ sj ts fs) (ts.getD f [])) ∧ s1.I 1070 8 = 1 ∧ out waI waF s s1 := by
    intro s5 sub hsub z5 q5 es
    have o5 := out_t o4 (wa_t q5)
    have hrl := hl1 f
    obtain ⟨s6, f1, f2, f3⟩ := tz_putText (W := kW_65) uTx_an z5 (by decide) (by decide) (by rw [hln, k65]; omega)
    have o6 := out_t o5 (wa_t f3)
    have g5 : iget 20 s6 (16 + 3 * i + 1) 5 = some (nI f) := by
      rw [show (5 : Int32) = nI 5 from rfl, ig_nod hi (by decide) (Or.inl rfl), o6.2.2 _ _ (by unfold waF; omega), show 16 + 3 * i + 1 = 17 + 3 * i by omega, h5]
    obtain ⟨s7, g1, g2, g3⟩ := tz_putFrom (i := f) uTx_an uTx_str f2 (hs.wa o6 (by decide)) hf (by decide) (by rw [hln, hln, k65]; omega)
    have o7 := out_t o6 (wa_t g3)
    obtain ⟨s8, h1, h2, h3⟩ := tz_putText (W := kW_66) uTx_an g2 (by decide) (by decide) (by rw [hln, hln, hln, k65, k66]; omega)
    refine ⟨s8, ?_, ?_, ?_, out_t o7 (wa_t h3)⟩
    · unfold fb_X7_writeAnswer_144
      rw [f1, Option.bind_some, g5, Option.bind_some, g1, Option.bind_some, h1, Option.bind_some]
    · unfold ltT
      rw [← es]
      exact h2
    · rw [h3.2.1 _ _ (by unfold tI; omega), g3.2.1 _ _ (by unfold tI; omega), f3.2.1 _ _ (by unfold tI; omega), q5.2.1 _ _ (by unfold tI; omega)]
      exact e4
  rw [hk0]
  rcases hκ with z | z
  · rw [z, if_pos (show nI 6 = 6 from rfl)]
    obtain ⟨s5, f1, f2, f3⟩ := tz_putText (W := kW_62) uTx_an d2 (by decide) (by decide) (by rw [k62]; omega)
    rw [f1, Option.bind_some]
    exact fin s5 kW_62 (by rw [k62]; decide) f2 f3 (by unfold sbT; rw [if_pos z]) |> fun q => by rw [z] at q; exact q
  · have hne : ¬ κ = 6 := by omega
    have hh : fn_X3_has (16 + 3 * i) 64 s4 = some sj.isSome := by
      have := h64 z
      unfold fn_X3_has at this ⊢
      rw [o4.2.1 _ _ (by unfold waI; omega)]
      exact this
    rw [z, if_neg (show ¬ nI 10 = 6 by decide), hh, Option.bind_some]
    have fin' := fin
    rw [z] at fin'
    cases hsj' : sj with
    | some g =>
      obtain ⟨p1, p2⟩ := h6 g z hsj'
      have hgl := hl1 g
      have g6 : iget 20 s4 (16 + 3 * i + 1) 6 = some (nI g) := by
        rw [show (6 : Int32) = nI 6 from rfl, ig_nod hi (by decide) (Or.inl rfl), o4.2.2 _ _ (by unfold waF; omega), show 16 + 3 * i + 1 = 17 + 3 * i by omega, p1]
      obtain ⟨s5, f1, f2, f3⟩ := tz_putFrom (i := g) uTx_an uTx_str d2 (hs.wa o4 (by decide)) p2 (by decide) (by omega)
      rw [if_pos (show (some g).isSome = true from rfl), g6, Option.bind_some, f1, Option.bind_some]
      rw [hsj'] at fin'
      exact fin' s5 (ts.getD g []) (by omega) f2 f3 (by unfold sbT; rw [if_neg (by decide)])
    | none =>
      rw [hsj'] at fin'
      obtain ⟨s5, f1, f2, f3⟩ := tz_putText (W := kW_63) uTx_an d2 (by decide) (by decide) (by rw [k63]; omega)
      have o5 := out_t o4 (wa_t f3)
      have hfl5 : cFl s5 fs := by
        obtain ⟨b1, b2, m1, m2⟩ := hfl
        exact ⟨b1, b2, m1.wa o5 (by decide), m2.wa o5 (by decide)⟩
      rw [if_neg (by decide), f1, Option.bind_some, c_sjN hfl5 ho, Option.bind_some]
      cases hff : ffst (fun f => eqW (fnm fs f) kW_97) fs.length 0 with
      | none =>
        have hp : fn_X9_putFrom 1075 1058 (oI (none : Option Nat)) s5 = some s5 := by
          unfold fn_X9_putFrom
          rw [if_pos (by decide)]
        rw [hp, Option.bind_some]
        have e : sjT fs = [] := by unfold sjT; rw [hff]
        exact fin' s5 kW_63 (by rw [k63]; decide) f2 f3 (by unfold sbT; rw [if_neg (by decide), e, List.append_nil])
      | some g =>
        obtain ⟨-, hg, -⟩ := ffst_some _ _ _ hff
        have hfl6 := hfl5
        obtain ⟨b1, b2, m1, m2⟩ := hfl6
        have e : sjT fs = fvl fs g := by unfold sjT; rw [hff]
        have hvl : (fvl fs g).length ≤ 4000 := by rw [← e]; exact hsj
        obtain ⟨s6, g1, g2, g3⟩ := tz_putFrom (i := g) uTx_an uTx_vl f2 m2 (by rw [List.length_map]; omega) (by decide) (by rw [hln, k63]; show 0 + ((kW_60 ++ snd ++ kW_61).length + 6) + (fvl fs g).length ≤ 6000; omega)
        have g1' : fn_X9_putFrom 1075 1058 (oI (some g)) s5 = some s6 := g1
        rw [g1', Option.bind_some]
        refine fin' s6 (kW_63 ++ fvl fs g) (by rw [hln, k63]; omega) ?_ (out_t f3 g3) (by unfold sbT; rw [if_neg (by decide), e])
        rw [← List.append_assoc]
        exact g2
/-- the reference -/
theorem rLt.ws {t t1 : uS} {cur : List Nat} (h : rLt t cur) (e : t1.I 1079 112 = t.I 1079 112) (f : ∀ j : Nat, t1.F 1143 j = t.F 1143 j) : rLt t1 cur := ⟨e.trans h.1, h.2.1, h.2.2.1, fun j hj => (f j).trans (h.2.2.2 j hj)⟩
theorem r_wrL {t : uS} {b : Bool} {f nr nv : Nat} {sj : Option Nat} {ts : List (List Nat)} {fs : List (List Nat × List Nat)} {snd : List Nat} (hs : rSt t ts) (hsn : rTe t 93 1137 snd) (hfl : rFl t fs) (ho : fsO fs) (hf : f < ts.length) (hb1 : b = true → t.I 1079 103 = nI nr ∧ nr < 520 ∧ t.F 1102 nr = nI f) (hb0 : b = false → t.I 1079 105 = nI nv ∧ nv < 520 ∧ t.F 1102 nv = nI f ∧ t.F 1114 nv = oI sj ∧ ∀ g : Nat, sj = some g → g < ts.length) : ∃ t1 : uS, fn_X12_writeLetter b t = some t1 ∧ rLt t1 (ltT snd (sbT (if b = true then 6 else 10) sj ts fs) (ts.getD f [])) ∧ out wsI wsF t t1 := by
  obtain ⟨y1, y2, y3, y4⟩ := hsn
  have hst := hs
  obtain ⟨bg, s1, s2, s3, s4⟩ := hst
  have hsj := sjT_len ho
  have hrl : (ts.getD f []).length ≤ 1000 := by obtain ⟨a, -, -, -, z, -⟩ := s1 f hf; exact z
  have hln : ∀ x y : List Nat, (x ++ y).length = x.length + y.length := fun x y => List.length_append
  have k155 : kW_155.length = 4 := rfl
  have k156 : kW_156.length = 9 := rfl
  have k157 : kW_157.length = 7 := rfl
  have k158 : kW_158.length = 6 := rfl
  have k66 : kW_66.length = 2 := rfl
  unfold fn_X12_writeLetter
  have h0 : rLt (wI t 1079 112 0) [] := ⟨by rw [wI_e]; rfl, by decide, bys_nil, fun j hj => absurd hj (by simp)⟩
  have o0 : out wsI wsF t (wI t 1079 112 0) := out_I out_r ⟨rfl, by omega⟩
  obtain ⟨t1, a1, a2, a3⟩ := r_writeW (W := kW_155) h0 (by decide) (by decide) (by rw [k155]; decide)
  rw [a1, Option.bind_some]
  have o1 := out_t o0 (ws_w a3)
  rw [List.nil_append] at a2
  -- the sender
  have key : ∀ (d N q : Nat) (cur : List Nat) (u : uS), q + d = snd.length → d + 1 ≤ N → out wsI wsF t u → rLt u cur → cur.length + d ≤ 200 → ∃ u1 : uS, fn_X12_writeLetter_14 N b (nI q) u = ((fn_X12_writeEnd u1).bind fun s2 => (fn_X12_writeWord kW_156 s2).bind fun s5 => if b = true then ((fn_X12_writeWord kW_157 s5).bind fun s21 => fb_X12_writeLetter_102 b s21) else ((iget 20 s5 1114 (s5.I 1079 105)).bind fun v8 => if v8 < 0 then ((fn_X12_writeWord kW_158 s5).bind fun s12 => (fn_X12_writeSubject s12).bind fun s14 => fb_X12_writeLetter_102 b s14) else ((iget 20 s5 1114 (s5.I 1079 105)).bind fun v16 => (fn_X12_writeString v16 s5).bind fun s18 => fb_X12_writeLetter_102 b s18))) ∧ rLt u1 (cur ++ snd.drop q) ∧ out wsI wsF t u1 := by
    intro d
    induction d with
    | zero =>
      intro N q cur u hq hN o h hc
      obtain ⟨M, rfl⟩ : ∃ M, N = M + 1 := ⟨N - 1, by omega⟩
      refine ⟨u, ?_, by rw [List.drop_eq_nil_of_le (by omega), List.append_nil]; exact h, o⟩
      show fb_X12_writeLetter_14 (fn_X12_writeLetter_14 M) b (nI q) u = _
      unfold fb_X12_writeLetter_14
      rw [o.2.1 _ _ (by unfold wsI; omega), y1, if_pos (nI_le (by omega) (by omega))]
    | succ d ih =>
      intro N q cur u hq hN o h hc
      obtain ⟨M, rfl⟩ : ∃ M, N = M + 1 := ⟨N - 1, by omega⟩
      have hlt : q < snd.length := by omega
      obtain ⟨u1, b1, b2, b3⟩ := r_write (b := snd.getD q 0) h (y3 q) (by omega)
      obtain ⟨u2, c1, c2, c3⟩ := ih M (q + 1) (cur ++ [snd.getD q 0]) u1 (by omega) (by omega) (out_t o (ws_w b3)) b2 (by rw [List.length_append, List.length_cons, List.length_nil]; omega)
      refine ⟨u2, ?_, ?_, c3⟩
      · show fb_X12_writeLetter_14 (fn_X12_writeLetter_14 M) b (nI q) u = _
        rw [← c1]
        unfold fb_X12_writeLetter_14
        rw [o.2.1 _ _ (by unfold wsI; omega), y1, if_neg (nI_ge hlt (by omega)), g_1137 (by omega), Option.bind_some, o.2.2 _ _ (by unfold wsF; omega), y4 q hlt, b1, Option.bind_some, nI_1]
      · rw [dropN hlt]
        rw [List.append_assoc] at c2
        exact c2
  obtain ⟨t2, b1, b2, o2⟩ := key snd.length uFu 0 kW_155 t1 (by omega) (by show _ ≤ 1000000; omega) o1 a2 (by rw [k155]; omega)
  rw [List.drop_zero] at b2
  have b1' : fn_X12_writeLetter_14 uFu b 0 t1 = _ := b1
  rw [b1']
  obtain ⟨t3, c1, c2, c3⟩ := r_wEnd b2 (by rw [hln, k155]; omega)
  rw [c1, Option.bind_some]
  have o3 := out_t o2 (ws_w c3)
  obtain ⟨t4, d1, d2, d3⟩ := r_writeW (W := kW_156) c2 (by decide) (by decide) (by rw [hln, hln, k155, k66, k156]; omega)
  rw [d1, Option.bind_some]
  have o4 := out_t o3 (ws_w d3)
  have hcur : (kW_155 ++ snd ++ kW_66 ++ kW_156).length ≤ 116 := by rw [hln, hln, hln, k155, k66, k156]; omega
  have st : ∀ u : uS, out wsI wsF t u → rSt u ts := fun u o => hs.fr (fun k j z => o.2.2 _ _ (by unfold wsF; omega))
  have fin : ∀ (t5 : uS) (sub : List Nat), sub.length ≤ 4006 → rLt t5 (kW_155 ++ snd ++ kW_66 ++ kW_156 ++ sub) → out wsI wsF t t5 → sub = sbT (if b = true then 6 else 10) sj ts fs → ∃ t1 : uS, fb_X12_writeLetter_102 b t5 = some t1 ∧ rLt t1 (ltT snd (sbT (if b = true then 6 else 10) sj ts fs) (ts.getD f [])) ∧ out wsI wsF t t1 := by
    intro t5 sub hsub z5 q5 es
    obtain ⟨t6, e1, e2, e3⟩ := r_wEnd z5 (by rw [hln]; omega)
    obtain ⟨t7, f1, f2, f3⟩ := r_wEnd e2 (by rw [hln, hln, k66]; omega)
    have o7 := out_t q5 (out_t (ws_w e3) (ws_w f3))
    obtain ⟨t8, g1, g2, g3⟩ := r_writeS hf (st t7 o7) f2 (by rw [hln, hln, hln, k66]; omega)
    have o8 := out_t o7 (ws_w g3)
    obtain ⟨t9, h1, h2, h3⟩ := r_wEnd g2 (by rw [hln, hln, hln, hln, k66]; omega)
    refine ⟨t9, ?_, ?_, out_t o8 (ws_w h3)⟩
    · unfold fb_X12_writeLetter_102 fb_X12_writeLetter_136
      rw [e1, Option.bind_some, f1, Option.bind_some]
      cases hb : b with
      | true =>
        obtain ⟨p1, p2, p3⟩ := hb1 hb
        rw [if_pos rfl, o7.2.1 _ _ (by unfold wsI; omega), p1, g_1102 p2, Option.bind_some, o7.2.2 _ _ (by unfold wsF; omega), p3, g1, Option.bind_some, h1, Option.bind_some]
      | false =>
        obtain ⟨p1, p2, p3, -⟩ := hb0 hb
        rw [if_neg (by decide), o7.2.1 _ _ (by unfold wsI; omega), p1, g_1102 p2, Option.bind_some, o7.2.2 _ _ (by unfold wsF; omega), p3, g1, Option.bind_some, h1, Option.bind_some]
    · unfold ltT
      rw [← es, show kW_60 = kW_155 from rfl, show kW_61 = kW_66 ++ kW_156 from rfl, show kW_65 = kW_66 ++ kW_66 from rfl]
      simp only [List.append_assoc] at h2 ⊢
      exact h2
  cases hb : b with
  | true =>
    rw [hb] at fin
    rw [if_pos rfl]
    obtain ⟨t5, f1, f2, f3⟩ := r_writeW (W := kW_157) d2 (by decide) (by decide) (by rw [k157]; omega)
    rw [f1, Option.bind_some]
    exact fin t5 kW_157 (by rw [k157]; decide) f2 (out_t o4 (ws_w f3)) (by unfold sbT; rw [if_pos rfl, if_pos rfl]; rfl)
  | false =>
    obtain ⟨p1, p2, p3, p4, p5⟩ := hb0 hb
    rw [hb] at fin
    rw [if_neg (by decide), o4.2.1 _ _ (by unfold wsI; omega), p1, g_1114 p2, Option.bind_some, o4.2.2 _ _ (by unfold wsF; omega), p4]
    cases hsj' : sj with
    | none =>
      rw [hsj'] at fin
      obtain ⟨t5, f1, f2, f3⟩ := r_writeW (W := kW_158) d2 (by decide) (by decide) (by rw [k158]; omega)
      have o5 := out_t o4 (ws_w f3)
      obtain ⟨t6, g1, g2, g3⟩ := r_writeSub ho (hfl.o o5 (by unfold wsI; omega) (fun k f _ _ => by unfold wsF; omega)) f2 (by rw [hln, k158]; omega)
      rw [show oI (none : Option Nat) = -1 from rfl, if_pos (by decide), f1, Option.bind_some, g1, Option.bind_some]
      refine fin t6 (kW_158 ++ sjT fs) (by rw [hln, k158]; omega) ?_ (out_t o5 g3) (by unfold sbT; rw [if_neg (by decide)]; rfl)
      rw [← List.append_assoc]
      exact g2
    | some g =>
      rw [hsj'] at fin
      have hg := p5 g hsj'
      have hgl : (ts.getD g []).length ≤ 1000 := by obtain ⟨a, -, -, -, z, -⟩ := s1 g hg; exact z
      obtain ⟨t5, f1, f2, f3⟩ := r_writeS hg (st t4 o4) d2 (by omega)
      rw [show oI (some g) = nI g from rfl, if_neg (nI_pos (by omega)), Option.bind_some, f1, Option.bind_some]
      exact fin t5 (ts.getD g []) (by omega) f2 (out_t o4 (ws_w f3)) rfl
