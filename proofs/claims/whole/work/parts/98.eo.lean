/-! the class: a test that is no compound -/
theorem anyB_c {p q : Nat → Bool} : ∀ (n i : Nat), (∀ j : Nat, i ≤ j → j < i + n → p j = q j) → anyB p n i = anyB q n i
  | 0, _, _ => rfl
  | n + 1, i, h => by
    rw [anyB_s, anyB_s, h i (Nat.le_refl _) (by omega), anyB_c n (i + 1) (fun j h1 h2 => h j (by omega) (by omega))]
theorem dgn_fl : ∀ (b : List Nat) (o : Bool), dgn (fl o b) = dgn b
  | [], o => by cases o <;> rfl
  | c :: b, o => by
    cases o with
    | false => rfl
    | true =>
      show dgn (up c :: fl true b) = dgn (c :: b)
      unfold dgn
      rw [dgn_fl b true]
      have : (48 ≤ up c ∧ up c ≤ 57) ↔ (48 ≤ c ∧ c ≤ 57) := by unfold up; split <;> omega
      by_cases z : 48 ≤ c ∧ c ≤ 57
      · rw [if_pos z, if_pos (this.mpr z)]
      · rw [if_neg z, if_neg (fun w => z (this.mp w))]
theorem take_fl : ∀ (b : List Nat) (o : Bool), (fl o b).take (dgn b) = b.take (dgn b)
  | [], o => by cases o <;> rfl
  | c :: b, o => by
    cases o with
    | false => rfl
    | true =>
      show (up c :: fl true b).take (dgn (c :: b)) = (c :: b).take (dgn (c :: b))
      unfold dgn
      by_cases z : 48 ≤ c ∧ c ≤ 57
      · rw [if_pos z, List.take_succ_cons, List.take_succ_cons, take_fl b true, show up c = c by unfold up; split <;> omega]
      · rw [if_neg z]; rfl
theorem zrn_fl : ∀ (n : Nat) (b : List Nat) (o : Bool), zrn n (fl o b) = zrn n b
  | 0, b, o => by unfold zrn; rfl
  | n + 1, [], o => by cases o <;> rfl
  | n + 1, c :: b, o => by
    cases o with
    | false => rfl
    | true =>
      show zrn (n + 1) (up c :: fl true b) = zrn (n + 1) (c :: b)
      unfold zrn
      rw [zrn_fl n b true]
      have : up c = 48 ↔ c = 48 := by unfold up; split <;> omega
      by_cases z : c = 48
      · rw [if_pos z, if_pos (this.mpr z)]
      · rw [if_neg z, if_neg (fun w => z (this.mp w))]
theorem nmC_fl (a b : List Nat) (o : Bool) : nmC a (fl o b) = nmC a b := by
  unfold nmC
  rw [dgn_fl, take_fl, zrn_fl]
/-- every value against every key, folded or not -/
noncomputable def hdF (m r : Nat) (nm fo : Bool) (vs ks : List (List Nat)) (f a : Nat) : Bool := anyB (fun v => anyB (fun k => mB m r nm (fl fo (vs.getD v [])) (fl fo (ks.getD (f + k) []))) a 0) vs.length 0
/-- the values that a test looks at -/
def lvs (κ f a : Nat) (ts : List (List Nat)) (fs : List (List Nat × List Nat)) (snd rcp : List Nat) (g : Nat) : List (List Nat) := if κ = 11 ∨ κ = 12 then hvs κ (lsdB ts f a) fs else if κ = 13 then (if evB ts f a kW_135 = true then [snd] else []) ++ (if evB ts f a kW_136 = true then [rcp] else []) else if κ = 14 then flV g else []
/-- how it comes out -/
noncomputable def lfV (κ m r c p fN aN f a d : Nat) (ov : Bool) (ts : List (List Nat)) (fs : List (List Nat × List Nat)) (snd rcp : List Nat) (g sz : Nat) : Bool := if κ = 15 then allN fs ts fN aN else if κ = 16 then (if ov = true then decide (d < sz) else decide (sz < d)) else if κ = 20 then true else if κ = 21 then false else if m = 3 then ctB r (lvs κ fN aN ts fs snd rcp g).length ts f a else hdF m r (decide (c = 2)) (decide (c = 0)) ((lvs κ fN aN ts fs snd rcp g).map (ptV p)) ts f a
/-- a test as the class holds it -/
def cNd (s : uS) (nd κ m r c p fN aN f a d : Nat) (ov : Bool) (L : Nat) : Prop := s.I nd 0 = nI κ ∧ (κ ≤ 14 → s.I nd 6 = nI m ∧ m < 5 ∧ (3 ≤ m → s.I nd 7 = nI r ∧ r < 6) ∧ s.I nd 8 = nI c ∧ c < 3 ∧ s.I nd 9 = nI p ∧ p < 3 ∧ s.F (nd + 1) 1 = nI f ∧ s.F (nd + 2) 1 = nI a ∧ f + a ≤ L) ∧ (κ ≤ 13 ∨ κ = 15 → s.F (nd + 1) 0 = nI fN ∧ s.F (nd + 2) 0 = nI aN ∧ fN + aN ≤ L) ∧ (κ = 16 → d < 2 ^ 31 ∧ s.I nd 10 = nI d ∧ s.I nd 12 = bI ov) ∧ (15 ≤ κ → s.F (nd + 2) 1 = nI 0)
/-- the message as the class holds it -/
def cMs (s : uS) (fs : List (List Nat × List Nat)) (snd : List Nat) (rcs : List (List Nat)) (sz : Nat) : Prop := cFl s fs ∧ (∃ b3 : Nat, cTz s 1043 101 1 [snd] b3 []) ∧ (∃ b4 : Nat, cTz s 1047 404 4 rcs b4 []) ∧ s.I 1042 3 = nI sz ∧ sz ≤ 4000
def lgI (k _f : Nat) : Prop := k = 1062 ∨ k = 1066
def lgF (k _f : Nat) : Prop := tF 1062 k _f ∨ tF 1066 k _f ∨ k = 9
theorem raise0 {s : uS} {k : Nat} {x : Int32} : fn_X9_raise k x (nI 0) s = some s := by
  show fb_X9_raise_2 (fn_X9_raise_2 999999) k x (nI 0) x s = _
  unfold fb_X9_raise_2
  rw [show x + nI 0 = x from Int32.add_zero x, if_pos (Int32.le_refl x)]
theorem cMs.o {s s1 : uS} {fs : List (List Nat × List Nat)} {snd : List Nat} {rcs : List (List Nat)} {sz : Nat} {PI PF : Nat → Nat → Prop} (h : cMs s fs snd rcs sz) (o : out PI PF s s1) (hI : ∀ k f : Nat, 1042 ≤ k → k ≤ 1058 → ¬ PI k f) (hF : ∀ k f : Nat, 1042 ≤ k → k ≤ 1061 → ¬ PF k f) : cMs s1 fs snd rcs sz := by
  obtain ⟨⟨b1, b2, m1, m2⟩, ⟨b3, m3⟩, ⟨b4, m4⟩, m5, m6⟩ := h
  have tz : ∀ {k cap mo bg : Nat} {ts : List (List Nat)} {cur : List Nat}, cTz s k cap mo ts bg cur → 1042 ≤ k → k ≤ 1058 → cTz s1 k cap mo ts bg cur := fun q k1 k2 => q.o o (fun f => hI _ f (by omega) (by omega)) (fun f => hF _ f (by omega) (by omega)) (fun f => hF _ f (by omega) (by omega)) (fun f => hF _ f (by omega) (by omega))
  exact ⟨⟨b1, b2, tz m1 (by omega) (by omega), tz m2 (by omega) (by omega)⟩, ⟨b3, tz m3 (by omega) (by omega)⟩, ⟨b4, tz m4 (by omega) (by omega)⟩, (o.2.1 _ _ (hI _ _ (by omega) (by omega))).trans m5, m6⟩
theorem c_leaf {s : uS} {i κ m r c p fN aN f a d ri g bg sz : Nat} {ov : Bool} {ts rcs : List (List Nat)} {fs : List (List Nat × List Nat)} {snd : List Nat} (hi : i < 320) (hκ : 11 ≤ κ ∧ κ ≤ 21 ∧ κ ≠ 17 ∧ κ ≠ 18 ∧ κ ≠ 19) (hN : cNd s (16 + 3 * i) κ m r c p fN aN f a d ov ts.length) (hM : cMs s fs snd rcs sz) (ho : fsO fs) (hri : ri < rcs.length) (hg : g < 32) (hs : cTz s 8 2000 301 ts bg []) (hl : ∀ j : Nat, j < ts.length → (ts.getD j []).length ≤ 1000) : ∃ s1 : uS, ((fn_X6_gather (16 + 3 * i) (nI ri) (nI g) s).bind fun s2 => fn_X6_holds (16 + 3 * i) s2) = some (s1, lfV κ m r c p fN aN f a d ov ts fs snd (rcs.getD ri []) g sz) ∧ (∃ ts1 : List (List Nat), cTz s1 8 2000 301 ts1 bg [] ∧ ts1.length = ts.length ∧ ∀ j : Nat, j < ts.length → ts1.getD j [] = ts.getD j [] ∨ κ ≤ 14 ∧ f ≤ j ∧ j < f + a ∧ ts1.getD j [] = fl true (ts.getD j [])) ∧ out lgI lgF s s1 := by
  obtain ⟨n1, n2, n3, n4, n5⟩ := hN
  obtain ⟨M1, ⟨b3, M2⟩, ⟨b4, M3⟩, M4, M5⟩ := hM
  have tl := tot_len fs
  have ho1 := ho.1
  obtain ⟨s1, a1, a2, a3⟩ := tz_clearO 1062 4400 1001 s
  have I1 : ∀ k q : Nat, k ≠ 1062 → s1.I k q = s.I k q := fun k q hne => a3.2.1 k q hne
  have fl1 : cFl s1 fs := by
    obtain ⟨b1, b2, m1, m2⟩ := M1
    exact ⟨b1, b2, m1.o a3 (fun _ => by unfold tI; omega) (fun _ => by unfold tF; omega) (fun _ => by unfold tF; omega) (fun _ => by unfold tF; omega), m2.o a3 (fun _ => by unfold tI; omega) (fun _ => by unfold tF; omega) (fun _ => by unfold tF; omega) (fun _ => by unfold tF; omega)⟩
  have hs1 := hs.o a3 (fun _ => by unfold tI; omega) (fun _ => by unfold tF; omega) (fun _ => by unfold tF; omega) (fun _ => by unfold tF; omega)
  have gN : ∀ S : uS, out (tI 1062) (tF 1062) s S → (κ ≤ 13 ∨ κ = 15) → iget 20 S (16 + 3 * i + 1) 0 = some (nI fN) ∧ iget 20 S (16 + 3 * i + 2) 0 = some (nI aN) := fun S o z => ⟨gfr o (fun _ => by unfold tF; omega) ((g_fst (l := 0) hi (by omega)).trans (by rw [show s.F (17 + 3 * i) 0 = nI fN by have := (n3 z).1; rw [show 16 + 3 * i + 1 = 17 + 3 * i by omega] at this; exact this])), gfr o (fun _ => by unfold tF; omega) ((g_amt (l := 0) hi (by omega)).trans (by rw [show s.F (18 + 3 * i) 0 = nI aN by have := (n3 z).2.1; rw [show 16 + 3 * i + 2 = 18 + 3 * i by omega] at this; exact this]))⟩
  have gK : ∀ S : uS, out (tI 1062) (tF 1062) s S → κ ≤ 14 → iget 20 S (16 + 3 * i + 1) 1 = some (nI f) ∧ iget 20 S (16 + 3 * i + 2) 1 = some (nI a) := fun S o z => ⟨gfr o (fun _ => by unfold tF; omega) ((g_fst (l := 1) hi (by omega)).trans (by rw [show s.F (17 + 3 * i) 1 = nI f by have := (n2 z).2.2.2.2.2.2.2.1; rw [show 16 + 3 * i + 1 = 17 + 3 * i by omega] at this; exact this])), gfr o (fun _ => by unfold tF; omega) ((g_amt (l := 1) hi (by omega)).trans (by rw [show s.F (18 + 3 * i) 1 = nI a by have := (n2 z).2.2.2.2.2.2.2.2.1; rw [show 16 + 3 * i + 2 = 18 + 3 * i by omega] at this; exact this]))⟩
  obtain ⟨s2, bg2, c1, c2, c3, c4⟩ := c_ga10 (x2 := nI ri) (x3 := nI g) (f := fN) (a := aN) (bg2 := bg) (κ := κ) (nd := 16 + 3 * i) (ts := ts) (by omega) ho (by omega) (fun z => (n3 (Or.inl (by omega))).2.2) fs 1000000 0 [] 0 s1 rfl (Nat.zero_le _) (by omega) fl1 hs1 ((I1 _ _ (by omega)).trans n1) (fun z => gN s1 a3 (Or.inl (by omega))) a2 (by omega) (by simp; omega)
  have o2 := out_t a3 c4
  have I2 : ∀ k q : Nat, k ≠ 1062 → s2.I k q = s.I k q := fun k q hne => o2.2.1 k q hne
  have hs2 := hs.o o2 (fun _ => by unfold tI; omega) (fun _ => by unfold tF; omega) (fun _ => by unfold tF; omega) (fun _ => by unfold tF; omega)
  rw [List.nil_append] at c2
  -- all values
  have av : ∃ (s3 : uS) (bg3 : Nat), gaK (16 + 3 * i) (nI ri) (nI g) s2 = fn_X6_gather_123 uFu (16 + 3 * i) 0 s3 ∧ cTz s3 1062 4400 1001 (lvs κ fN aN ts fs snd (rcs.getD ri []) g) bg3 [] ∧ out (tI 1062) (tF 1062) s s3 := by
    unfold gaK lvs
    rw [I2 _ _ (by omega), n1]
    by_cases k13 : κ = 13
    · rw [if_pos (show nI κ = 13 by rw [k13]; rfl), if_neg (by omega), if_pos k13]
      rw [if_neg (by omega)] at c2
      obtain ⟨q1, q2⟩ := gN s2 o2 (Or.inl (by omega))
      obtain ⟨s3, bg3, e1, e2, e3⟩ := c_genv (ri := ri) (rcs := rcs) (snd := snd) hs2 q1 q2 (n3 (Or.inl (by omega))).2.2 (M2.o o2 (fun _ => by unfold tI; omega) (fun _ => by unfold tF; omega) (fun _ => by unfold tF; omega) (fun _ => by unfold tF; omega)) (M3.o o2 (fun _ => by unfold tI; omega) (fun _ => by unfold tF; omega) (fun _ => by unfold tF; omega) (fun _ => by unfold tF; omega)) hri c2 (c3 (by omega))
      rw [e1, Option.bind_some]
      exact ⟨s3, bg3, rfl, e2, out_t o2 e3⟩
    rw [if_neg (show ¬ nI κ = 13 from nI_ne (b := 13) (by omega) (by decide) k13), if_neg k13]
    by_cases k14 : κ = 14
    · rw [if_pos (show nI κ = 14 by rw [k14]; rfl), if_neg (by omega), if_pos k14]
      rw [if_neg (by omega)] at c2
      obtain ⟨s3, bg3, e1, e2, e3⟩ := c_gflags hg c2 (c3 (by omega))
      rw [e1, Option.bind_some]
      exact ⟨s3, bg3, rfl, e2, out_t o2 e3⟩
    rw [if_neg (show ¬ nI κ = 14 from nI_ne (b := 14) (by omega) (by decide) k14), if_neg k14]
    exact ⟨s2, bg2, rfl, c2, o2⟩
  obtain ⟨s3, bg3, d1, d2, d3⟩ := av
  have gat : fn_X6_gather (16 + 3 * i) (nI ri) (nI g) s = fn_X6_gather_123 uFu (16 + 3 * i) 0 s3 := by
    unfold fn_X6_gather
    rw [a1, Option.bind_some]
    exact c1.trans d1
  rw [gat]
  have I3 : ∀ k q : Nat, k ≠ 1062 → s3.I k q = s.I k q := fun k q hne => d3.2.1 k q hne
  have hs3 := hs.o d3 (fun _ => by unfold tI; omega) (fun _ => by unfold tF; omega) (fun _ => by unfold tF; omega) (fun _ => by unfold tF; omega)
  have tl2 := hs.2.1
  have w1 : out lgI lgF s s3 := out_w d3 (fun _ _ z => Or.inl z) (fun _ _ z => Or.inl z)
  by_cases k15 : 15 ≤ κ
  · -- nothing is looked at
    have e0 : lvs κ fN aN ts fs snd (rcs.getD ri []) g = [] := by unfold lvs; rw [if_neg (by omega), if_neg (by omega), if_neg (by omega)]
    rw [e0] at d2
    have e1 : fn_X6_gather_123 uFu (16 + 3 * i) 0 s3 = fb_X6_gather_158 (16 + 3 * i) s3 := by
      show fb_X6_gather_123 (fn_X6_gather_123 999999) _ _ _ = _
      unfold fb_X6_gather_123
      rw [d2.1, if_pos (by decide)]
    have e2 : fb_X6_gather_158 (16 + 3 * i) s3 = some s3 := by
      unfold fb_X6_gather_158
      rw [d2.1]
      by_cases z : s3.I (16 + 3 * i) 8 = 0
      · rw [if_pos z, show fn_X9_raise 1062 0 (nI ([] : List (List Nat)).length) s3 = some s3 from raise0, Option.bind_some, show iget 20 s3 (16 + 3 * i + 1) 1 = _ from g_fst (l := 1) hi (by omega), Option.bind_some, show iget 20 s3 (16 + 3 * i + 2) 1 = _ from g_amt (l := 1) hi (by omega), Option.bind_some]
        have := n5 k15
        rw [show s3.F (18 + 3 * i) 1 = nI 0 from (d3.2.2 _ _ (by unfold tF; omega)).trans (by rw [show 16 + 3 * i + 2 = 18 + 3 * i by omega] at this; exact this), raise0, Option.bind_some]
      · rw [if_neg z]
    rw [e1, e2, Option.bind_some]
    unfold fn_X6_holds lfV
    rw [I3 _ _ (by omega), n1]
    have hts : ∃ ts1 : List (List Nat), cTz s3 8 2000 301 ts1 bg [] ∧ ts1.length = ts.length ∧ ∀ j : Nat, j < ts.length → ts1.getD j [] = ts.getD j [] ∨ κ ≤ 14 ∧ f ≤ j ∧ j < f + a ∧ ts1.getD j [] = fl true (ts.getD j []) := ⟨ts, hs3, rfl, fun j _ => Or.inl rfl⟩
    by_cases q15 : κ = 15
    · obtain ⟨q1, q2⟩ := gN s3 d3 (Or.inr q15)
      have fl3 : cFl s3 fs := by
        obtain ⟨b1, b2, m1, m2⟩ := M1
        exact ⟨b1, b2, m1.o d3 (fun _ => by unfold tI; omega) (fun _ => by unfold tF; omega) (fun _ => by unfold tF; omega) (fun _ => by unfold tF; omega), m2.o d3 (fun _ => by unfold tI; omega) (fun _ => by unfold tF; omega) (fun _ => by unfold tF; omega) (fun _ => by unfold tF; omega)⟩
      rw [if_pos (show nI κ = 15 by rw [q15]; rfl), if_pos q15, c_allF fl3 hs3 q1 q2 (n3 (Or.inr q15)).2.2, Option.bind_some]
      exact ⟨s3, rfl, hts, w1⟩
    rw [if_neg (show ¬ nI κ = 15 from nI_ne (b := 15) (by omega) (by decide) q15), if_neg q15]
    by_cases q16 : κ = 16
    · obtain ⟨x1, x2, x3⟩ := n4 q16
      rw [if_pos (show nI κ = 16 by rw [q16]; rfl), if_pos q16, I3 _ 12 (by omega), x3, I3 _ 10 (by omega), x2, I3 1042 3 (by omega), M4]
      cases ov with
      | false =>
        rw [if_pos (show bI false = 0 from rfl), if_neg (show ¬ (false = true) by decide)]
        by_cases y : sz < d
        · rw [if_neg (nI_ge y (by omega)), decide_eq_true y]; exact ⟨s3, rfl, hts, w1⟩
        · rw [if_pos (nI_le (by omega) (by omega)), decide_eq_false y]; exact ⟨s3, rfl, hts, w1⟩
      | true =>
        rw [if_neg (show ¬ bI true = 0 by decide), if_pos rfl]
        by_cases y : d < sz
        · rw [if_neg (nI_ge y (by omega)), decide_eq_true y]; exact ⟨s3, rfl, hts, w1⟩
        · rw [if_pos (nI_le (by omega) (by omega)), decide_eq_false y]; exact ⟨s3, rfl, hts, w1⟩
    rw [if_neg (show ¬ nI κ = 16 from nI_ne (b := 16) (by omega) (by decide) q16), if_neg q16, if_neg (show ¬ nI κ = 17 from nI_ne (b := 17) (by omega) (by decide) (by omega)), if_neg (show ¬ nI κ = 18 from nI_ne (b := 18) (by omega) (by decide) (by omega)), if_neg (show ¬ nI κ = 19 from nI_ne (b := 19) (by omega) (by decide) (by omega))]
    by_cases q20 : κ = 20
    · rw [if_pos (show nI κ = 20 by rw [q20]; rfl), if_pos q20]; exact ⟨s3, rfl, hts, w1⟩
    · rw [if_neg (show ¬ nI κ = 20 from nI_ne (b := 20) (by omega) (by decide) q20), if_neg q20, if_pos (show nI κ = 21 by rw [show κ = 21 by omega]; rfl), if_pos (by omega)]; exact ⟨s3, rfl, hts, w1⟩
  · obtain ⟨m1, m2, m3, m4, m5, m6, m7, m8, m9, m10⟩ := n2 (by omega)
    obtain ⟨s4, e1, e2, e3⟩ := c_nar (nd := 16 + 3 * i) (p := p) (vs := lvs κ fN aN ts fs snd (rcs.getD ri []) g) m7 (by omega) (lvs κ fN aN ts fs snd (rcs.getD ri []) g).length 1000000 0 _ s3 (by omega) (by have := d2.2.1; omega) ((I3 _ _ (by omega)).trans m6) d2 rfl (fun j _ => by rw [if_neg (by omega)])
    have o4 := out_t d3 e3
    have I4 : ∀ k q : Nat, k ≠ 1062 → s4.I k q = s.I k q := fun k q hne => o4.2.1 k q hne
    rw [show fn_X6_gather_123 uFu (16 + 3 * i) 0 s3 = _ from e1]
    have hs4 := hs.o o4 (fun _ => by unfold tI; omega) (fun _ => by unfold tF; omega) (fun _ => by unfold tF; omega) (fun _ => by unfold tF; omega)
    obtain ⟨q1, q2⟩ := gK s4 o4 (by omega)
    generalize hvs' : lvs κ fN aN ts fs snd (rcs.getD ri []) g = vs at *
    -- raised or not
    have rs : ∃ (s5 : uS) (ts1 : List (List Nat)), fb_X6_gather_158 (16 + 3 * i) s4 = some s5 ∧ cTz s5 1062 4400 1001 ((vs.map (ptV p)).map (fl (decide (c = 0)))) bg3 [] ∧ cTz s5 8 2000 301 ts1 bg [] ∧ ts1.length = ts.length ∧ (∀ j : Nat, j < ts.length → ts1.getD j [] = ts.getD j [] ∨ f ≤ j ∧ j < f + a ∧ ts1.getD j [] = fl true (ts.getD j [])) ∧ (∀ j : Nat, f ≤ j → j < f + a → ts1.getD j [] = fl (decide (c = 0)) (ts.getD j [])) ∧ out lgI lgF s s5 := by
      unfold fb_X6_gather_158
      rw [I4 _ _ (by omega), m4]
      by_cases y : c = 0
      · rw [if_pos (show nI c = 0 by rw [y]; rfl), e2.1]
        have vl := e2.2.1
        obtain ⟨s5, x1, x2, x3⟩ := tz_raise (f := 0) (a := (vs.map (ptV p)).length) uTx_fd e2 rfl (by omega)
        rw [show fn_X9_raise 1062 0 (nI (vs.map (ptV p)).length) s4 = some s5 from x1, Option.bind_some]
        have hs5 := hs4.o x3 (fun _ z => z) (fun _ => by omega) (fun _ => by omega) (fun _ => by omega)
        obtain ⟨s6, x4, x5, x6⟩ := tz_raise (f := f) (a := a) uTx_str hs5 rfl (by omega)
        rw [gfr x3 (fun _ => by omega) q1, Option.bind_some, gfr x3 (fun _ => by omega) q2, Option.bind_some, x4, Option.bind_some, decide_eq_true y]
        rw [rsL_all] at x2
        refine ⟨s6, rsL ts f a, rfl, x2.o x6 (fun _ z => z) (fun _ => by omega) (fun _ => by omega) (fun _ => by omega), x5, rsL_len, fun j hj => ?_, fun j j1 j2 => ?_, ?_⟩
        · rw [rsL_get hj]
          by_cases w : f ≤ j ∧ j < f + a
          · exact Or.inr ⟨w.1, w.2, if_pos w⟩
          · exact Or.inl (if_neg w)
        · rw [rsL_get (by omega), if_pos ⟨j1, j2⟩]
        · exact out_t (out_w o4 (fun _ _ z => Or.inl z) (fun _ _ z => Or.inl z)) (out_t (out_w x3 (fun _ _ z => z.elim) (fun _ _ z => Or.inl (Or.inl z))) (out_w x6 (fun _ _ z => z.elim) (fun _ _ z => Or.inr (Or.inr z))))
      · rw [if_neg (show ¬ nI c = 0 from nI_ne (b := 0) (by omega) (by decide) y), decide_eq_false y]
        refine ⟨s4, ts, rfl, ?_, hs4, rfl, fun j _ => Or.inl rfl, fun j _ _ => rfl, out_w o4 (fun _ _ z => Or.inl z) (fun _ _ z => Or.inl z)⟩
        rw [show (vs.map (ptV p)).map (fl false) = vs.map (ptV p) from by rw [show fl false = id from rfl]; exact List.map_id _]
        exact e2
    obtain ⟨s5, ts1, r1, r2, r3, r4, r5, r6, r7⟩ := rs
    have I5 : ∀ k q : Nat, k ≠ 1062 → k ≠ 1066 → s5.I k q = s.I k q := fun k q h1 h2 => r7.2.1 k q (by unfold lgI; omega)
    obtain ⟨q3, q4⟩ : iget 20 s5 (16 + 3 * i + 1) 1 = some (nI f) ∧ iget 20 s5 (16 + 3 * i + 2) 1 = some (nI a) := by
      obtain ⟨z1, z2⟩ := gK s out_r (by omega)
      exact ⟨gfr r7 (fun _ => by unfold lgF tF; omega) z1, gfr r7 (fun _ => by unfold lgF tF; omega) z2⟩
    rw [r1, Option.bind_some]
    have hh : fn_X6_holds (16 + 3 * i) s5 = if s5.I (16 + 3 * i) 6 = 3 then ((fn_X6_isCount (16 + 3 * i) s5).bind fun r16 => some (r16.1, r16.2)) else fn_X6_holds_123 uFu (16 + 3 * i) 0 s5 := by
      unfold fn_X6_holds
      rw [I5 _ 0 (by omega) (by omega), n1, if_neg (show ¬ nI κ = 15 from nI_ne (b := 15) (by omega) (by decide) (by omega)), if_neg (show ¬ nI κ = 16 from nI_ne (b := 16) (by omega) (by decide) (by omega)), if_neg (show ¬ nI κ = 17 from nI_ne (b := 17) (by omega) (by decide) (by omega)), if_neg (show ¬ nI κ = 18 from nI_ne (b := 18) (by omega) (by decide) (by omega)), if_neg (show ¬ nI κ = 19 from nI_ne (b := 19) (by omega) (by decide) (by omega)), if_neg (show ¬ nI κ = 20 from nI_ne (b := 20) (by omega) (by decide) (by omega)), if_neg (show ¬ nI κ = 21 from nI_ne (b := 21) (by omega) (by decide) (by omega))]
    rw [hh, I5 _ 6 (by omega) (by omega), m1]
    unfold lfV
    rw [if_neg (show ¬ κ = 15 by omega), if_neg (show ¬ κ = 16 by omega), if_neg (show ¬ κ = 20 by omega), if_neg (show ¬ κ = 21 by omega), hvs']
    have r5' : ∀ j : Nat, j < ts.length → ts1.getD j [] = ts.getD j [] ∨ κ ≤ 14 ∧ f ≤ j ∧ j < f + a ∧ ts1.getD j [] = fl true (ts.getD j []) := fun j hj => (r5 j hj).imp id (fun z => ⟨by omega, z.1, z.2.1, z.2.2⟩)
    by_cases y3 : m = 3
    · obtain ⟨R1, R2⟩ := m3 (by omega)
      rw [if_pos (show nI m = 3 by rw [y3]; rfl), if_pos y3]
      obtain ⟨s6, t1, t2⟩ := c_isCnt (r := r) ((I5 _ _ (by omega) (by omega)).trans R1) R2 (by omega) r2 r3 q3 q4 (by omega)
      rw [t1, Option.bind_some]
      refine ⟨s6, ?_, ⟨ts1, r3.o t2 (fun _ => by unfold tI; omega) (fun _ => by unfold tF; omega) (fun _ => by unfold tF; omega) (fun _ => by unfold tF; omega), r4, r5'⟩, out_t r7 (out_w t2 (fun _ _ z => Or.inr z) (fun _ _ z => Or.inr (Or.inl z)))⟩
      rw [List.length_map, List.length_map]
      congr 2
      unfold ctB
      exact anyB_c _ _ (fun j _ j2 => by rw [r6 (f + j) (by omega) (by omega), nmC_fl])
    · rw [if_neg (show ¬ nI m = 3 from nI_ne (b := 3) (by omega) (by decide) y3), if_neg y3, c_hold (r := r) (c := c) ((I5 _ _ (by omega) (by omega)).trans m1) m2 (fun z => ⟨(I5 _ _ (by omega) (by omega)).trans (m3 z).1, (m3 z).2⟩) ((I5 _ _ (by omega) (by omega)).trans m4) m5 r2 r3 q3 q4 (by omega) (fun j hj => by
        rcases r5 j (by omega) with w | w
        · rw [w]; exact hl j (by omega)
        · rw [w.2.2, fl_len]; exact hl j (by omega))]
      refine ⟨s5, ?_, ⟨ts1, r3, r4, r5'⟩, r7⟩
      congr 2
      unfold hdB hdF
      rw [List.length_map (f := fl (decide (c = 0)))]
      exact anyB_c _ _ (fun v _ v2 => anyB_c _ _ (fun j _ j2 => by rw [getD_mapL (by omega), r6 (f + j) (by omega) (by omega)]))
