/-! the class: gather, ended -/
theorem anyB_s {p : Nat → Bool} {n i : Nat} : anyB p (n + 1) i = (p i || anyB p n (i + 1)) := rfl
def fmL : List (List Nat) := (spl kW_50).1 :: (spl kW_50).2
theorem fm_w (w : List Nat) : ∃ v : Nat, v ≤ 2 ∧ oI (plc w kW_50 0 0 true) = (if v = 2 then -1 else nI v) ∧ eqW w kW_135 = decide (v = 0) ∧ eqW w kW_136 = decide (v = 1) := by
  obtain ⟨v, h1, h2, h3⟩ := wds fmL w
  refine ⟨v, h1, ?_, h3 kW_135 0 (by unfold wdAt; decide), h3 kW_136 1 (by unfold wdAt; decide)⟩
  rw [plc_wix]; exact h2
/-- the envelope's parts that a list of names asks for -/
def evB (ts : List (List Nat)) (f a : Nat) (W : List Nat) : Bool := anyB (fun k => eqW (ts.getD (f + k) []) W) a 0
def evK (x2 : Int32) (b3 b4 : Bool) (s : uS) : Option uS := if b3 = true then ((fn_X9_addFrom 1062 1043 0 s).bind fun s5 => fb_X6_gatherEnvelope_122 x2 b4 s5) else (fb_X6_gatherEnvelope_122 x2 b4 s)
theorem c_env0 {s : uS} {nd f a bg : Nat} {ts : List (List Nat)} {x2 : Int32} (hs : cTz s 8 2000 301 ts bg []) (h1 : iget 20 s (nd + 1) 0 = some (nI f)) (h2 : iget 20 s (nd + 2) 0 = some (nI a)) (hf : f + a ≤ ts.length) : ∀ (d N q : Nat) (b3 b4 : Bool), q + d = a → d + 1 ≤ N → fn_X6_gatherEnvelope_8 N nd x2 b3 b4 (nI q) s = evK x2 (b3 || anyB (fun k => eqW (ts.getD (f + k) []) kW_135) d q) (b4 || anyB (fun k => eqW (ts.getD (f + k) []) kW_136) d q) s := by
  have hl := hs.2.1
  intro d
  induction d with
  | zero =>
    intro N q b3 b4 hq hN
    obtain ⟨n1, rfl⟩ : ∃ n1, N = n1 + 1 := ⟨N - 1, by omega⟩
    show fb_X6_gatherEnvelope_8 _ _ _ _ _ _ _ = _
    unfold fb_X6_gatherEnvelope_8 anyB evK
    rw [h2, Option.bind_some, if_pos (nI_le (by omega) (by omega)), Bool.or_false, Bool.or_false]
  | succ d ih =>
    intro N q b3 b4 hq hN
    obtain ⟨n1, rfl⟩ : ∃ n1, N = n1 + 1 := ⟨N - 1, by omega⟩
    obtain ⟨fr, a1, a2, a3, a4⟩ := tz_rd uTx_str hs (i := f + q) (by omega)
    obtain ⟨v, v1, v2, v3, v4⟩ := fm_w (ts.getD (f + q) [])
    show fb_X6_gatherEnvelope_8 (fn_X6_gatherEnvelope_8 n1) _ _ _ _ _ _ = _
    unfold fb_X6_gatherEnvelope_8
    rw [h2, Option.bind_some, if_neg (nI_ge (by omega) (by omega)), h1, Option.bind_some, nI_add, show iget 20 s 10 (nI (f + q)) = some (nI fr) from a1, Option.bind_some, show iget 20 s 11 (nI (f + q)) = _ from a2, Option.bind_some, show fn_X9_place kW_50 9 (nI fr) (nI (fr + (ts.getD (f + q) []).length)) s = _ from c_place a3 (by decide) (by decide), Option.bind_some, v2]
    have e78 : ∀ B : Bool, fb_X6_gatherEnvelope_78 (fn_X6_gatherEnvelope_8 n1) nd x2 b4 (nI q) (if v = 2 then -1 else nI v) B s = fn_X6_gatherEnvelope_8 n1 nd x2 B (b4 || decide (v = 1)) (nI (q + 1)) s := by
      intro B
      unfold fb_X6_gatherEnvelope_78
      rw [nI_1]
      cases b4 with
      | true => rfl
      | false =>
        rw [if_neg (by decide), Bool.false_or]
        have : v = 0 ∨ v = 1 ∨ v = 2 := by omega
        rcases this with w | w | w <;> subst w <;> rfl
    have e0 : (if b3 = true then fb_X6_gatherEnvelope_78 (fn_X6_gatherEnvelope_8 n1) nd x2 b4 (nI q) (if v = 2 then -1 else nI v) true s else if (if v = 2 then (-1 : Int32) else nI v) = 0 then fb_X6_gatherEnvelope_78 (fn_X6_gatherEnvelope_8 n1) nd x2 b4 (nI q) (if v = 2 then -1 else nI v) true s else fb_X6_gatherEnvelope_78 (fn_X6_gatherEnvelope_8 n1) nd x2 b4 (nI q) (if v = 2 then -1 else nI v) false s) = fn_X6_gatherEnvelope_8 n1 nd x2 (b3 || decide (v = 0)) (b4 || decide (v = 1)) (nI (q + 1)) s := by
      rw [e78, e78]
      cases b3 with
      | true => rfl
      | false =>
        have : v = 0 ∨ v = 1 ∨ v = 2 := by omega
        rcases this with w | w | w <;> subst w <;> rfl
    rw [e0, ih n1 (q + 1) _ _ (by omega) (by omega)]
    rw [anyB_s, anyB_s, v3, v4, Bool.or_assoc, Bool.or_assoc]
theorem c_genv {s : uS} {nd f a bg ri b3 b4 bgv : Nat} {ts rcs : List (List Nat)} {snd : List Nat} (hs : cTz s 8 2000 301 ts bg []) (h1 : iget 20 s (nd + 1) 0 = some (nI f)) (h2 : iget 20 s (nd + 2) 0 = some (nI a)) (hf : f + a ≤ ts.length) (hsn : cTz s 1043 101 1 [snd] b3 []) (hrc : cTz s 1047 404 4 rcs b4 []) (hri : ri < rcs.length) (h : cTz s 1062 4400 1001 [] bgv []) (hb : bgv = 0) : ∃ (s1 : uS) (bg1 : Nat), fn_X6_gatherEnvelope nd (nI ri) s = some s1 ∧ cTz s1 1062 4400 1001 ((if evB ts f a kW_135 = true then [snd] else []) ++ (if evB ts f a kW_136 = true then [rcs.getD ri []] else [])) bg1 [] ∧ out (tI 1062) (tF 1062) s s1 := by
  have hl := hs.2.1
  have l1 := tz_le uTx_sn hsn (i := 0) (by simp)
  have l2 := tz_le uTx_rc hrc hri
  unfold fn_X6_gatherEnvelope
  rw [show fn_X6_gatherEnvelope_8 uFu nd (nI ri) false false 0 s = evK (nI ri) (evB ts f a kW_135) (evB ts f a kW_136) s from c_env0 hs h1 h2 hf a 1000000 0 false false (by omega) (by omega)]
  unfold evK
  have stp : ∀ (s0 : uS) (vs : List (List Nat)) (bg0 : Nat), cTz s0 1062 4400 1001 vs bg0 [] → bg0 ≤ 101 → vs.length ≤ 1 → out (tI 1062) (tF 1062) s s0 → ∃ (s1 : uS) (bg1 : Nat), fb_X6_gatherEnvelope_122 (nI ri) (evB ts f a kW_136) s0 = some s1 ∧ cTz s1 1062 4400 1001 (vs ++ (if evB ts f a kW_136 = true then [rcs.getD ri []] else [])) bg1 [] ∧ out (tI 1062) (tF 1062) s s1 := by
    intro s0 vs bg0 z1 z2 z3 z4
    unfold fb_X6_gatherEnvelope_122
    by_cases c : evB ts f a kW_136 = true
    · rw [if_pos c, if_pos c]
      have hrc0 := hrc.o z4 (fun _ => by unfold tI; omega) (fun _ => by unfold tF; omega) (fun _ => by unfold tF; omega) (fun _ => by unfold tF; omega)
      obtain ⟨s1, a1, a2, a3⟩ := tz_addFrom uTx_fd uTx_rc z1 hrc0 hri (by decide) (by omega) (by omega)
      rw [a1, Option.bind_some]
      exact ⟨s1, _, rfl, a2, out_t z4 a3⟩
    · rw [if_neg c, if_neg c, List.append_nil]
      exact ⟨s0, bg0, rfl, z1, z4⟩
  by_cases c : evB ts f a kW_135 = true
  · rw [if_pos c, if_pos c]
    obtain ⟨s1, a1, a2, a3⟩ := tz_addFrom uTx_fd uTx_sn h hsn (i := 0) (by simp) (by decide) (by omega) (by simp)
    rw [show fn_X9_addFrom 1062 1043 0 s = some s1 from a1, Option.bind_some]
    exact stp s1 _ _ a2 (by omega) (by simp) a3
  · rw [if_neg c, if_neg c]
    exact stp s [] bgv h (by omega) (by simp) out_r
/-- the values of the fields -/
def hvs (κ : Nat) (l : List Nat → Bool) : List (List Nat × List Nat) → List (List Nat)
  | [] => []
  | p :: fs => (if l p.1 = true then (if κ = 11 then [p.2] else fa p.2 0 0 false false []) else []) ++ hvs κ l fs
theorem drop_fs {fs : List (List Nat × List Nat)} {i : Nat} {p : List Nat × List Nat} {r : List (List Nat × List Nat)} (h : fs.drop i = p :: r) : i < fs.length ∧ fnm fs i = p.1 ∧ fvl fs i = p.2 ∧ fs.drop (i + 1) = r := by
  have hi : i < fs.length := by
    by_cases c : i < fs.length
    · exact c
    · rw [List.drop_eq_nil_of_le (by omega)] at h; cases h
  rw [List.drop_eq_getElem_cons hi] at h
  injection h with h1 h2
  refine ⟨hi, ?_, ?_, h2⟩
  · unfold fnm; rw [List.getD_eq_getElem?_getD, List.getElem?_map, List.getElem?_eq_getElem hi, h1]; rfl
  · unfold fvl; rw [List.getD_eq_getElem?_getD, List.getElem?_map, List.getElem?_eq_getElem hi, h1]; rfl
/-- what follows the fields -/
def gaK (nd : Nat) (x2 x3 : Int32) (s : uS) : Option uS := if (s.I nd 0) = 13 then ((fn_X6_gatherEnvelope nd x2 s).bind fun s6 => fn_X6_gather_123 uFu nd 0 s6) else (if (s.I nd 0) = 14 then ((fn_X6_gatherFlags x3 s).bind fun s4 => fn_X6_gather_123 uFu nd 0 s4) else (fn_X6_gather_123 uFu nd 0 s))
theorem c_ga10 {fs : List (List Nat × List Nat)} {ts : List (List Nat)} {nd f a bg2 κ : Nat} {x2 x3 : Int32} (hnd : nd < 1000) (ho : fsO fs) (hκ : κ < 30) (hf : κ = 11 ∨ κ = 12 → f + a ≤ ts.length) : ∀ (r : List (List Nat × List Nat)) (N i : Nat) (vs : List (List Nat)) (bg : Nat) (s : uS), fs.drop i = r → i ≤ fs.length → r.length + 1 ≤ N → cFl s fs → cTz s 8 2000 301 ts bg2 [] → s.I nd 0 = nI κ → (κ = 11 ∨ κ = 12 → iget 20 s (nd + 1) 0 = some (nI f) ∧ iget 20 s (nd + 2) 0 = some (nI a)) → cTz s 1062 4400 1001 vs bg [] → bg + tot r ≤ 4000 → 4 * vs.length + tot r ≤ 4000 → ∃ (s1 : uS) (bg1 : Nat), fn_X6_gather_10 N nd x2 x3 (nI i) s = gaK nd x2 x3 s1 ∧ cTz s1 1062 4400 1001 (vs ++ (if κ = 11 ∨ κ = 12 then hvs κ (lsdB ts f a) r else [])) bg1 [] ∧ (¬ (κ = 11 ∨ κ = 12) → bg1 = bg) ∧ out (tI 1062) (tF 1062) s s1 := by
  intro r
  have tl := tot_len fs
  have ho1 := ho.1
  induction r with
  | nil =>
    intro N i vs bg s hd hi hN hfl hs hk hg h hb hv
    obtain ⟨n1, rfl⟩ : ∃ n1, N = n1 + 1 := ⟨N - 1, by simp at hN; omega⟩
    have hlen : fs.length ≤ i := by
      by_cases c : i < fs.length
      · rw [List.drop_eq_getElem_cons c] at hd; cases hd
      · omega
    obtain ⟨b1, b2, n1', n2'⟩ := hfl
    refine ⟨s, bg, ?_, by rw [show (if κ = 11 ∨ κ = 12 then hvs κ (lsdB ts f a) [] else []) = [] by split <;> rfl, List.append_nil]; exact h, fun _ => rfl, out_r⟩
    show fb_X6_gather_10 _ _ _ _ _ _ = _
    unfold fb_X6_gather_10 gaK
    rw [n1'.1, List.length_map]
    rw [if_pos (nI_le hlen (by omega))]
  | cons p r ih =>
    intro N i vs bg s hd hi hN hfl hs hk hg h hb hv
    simp only [List.length_cons] at hN
    obtain ⟨n1, rfl⟩ : ∃ n1, N = n1 + 1 := ⟨N - 1, by omega⟩
    obtain ⟨d1, d2, d3, d4⟩ := drop_fs hd
    have htot : tot (p :: r) = p.2.length + 4 + tot r := rfl
    rw [htot] at hb hv
    have hfl2 := hfl
    obtain ⟨b1, b2, m1, m2⟩ := hfl2
    -- on with the rest
    have go : ∀ (s1 : uS) (vs1 ws : List (List Nat)) (bg1 : Nat), out (tI 1062) (tF 1062) s s1 → cTz s1 1062 4400 1001 (vs ++ ws) bg1 [] → bg1 ≤ bg + p.2.length → 4 * (vs ++ ws).length ≤ 4 * vs.length + p.2.length + 4 → (¬ (κ = 11 ∨ κ = 12) → bg1 = bg) → (κ = 11 ∨ κ = 12 → ws = (if lsdB ts f a p.1 = true then (if κ = 11 then [p.2] else fa p.2 0 0 false false []) else [])) → (¬ (κ = 11 ∨ κ = 12) → ws = []) → ∃ (s2 : uS) (bg2 : Nat), fn_X6_gather_10 n1 nd x2 x3 (nI (i + 1)) s1 = gaK nd x2 x3 s2 ∧ cTz s2 1062 4400 1001 (vs ++ (if κ = 11 ∨ κ = 12 then hvs κ (lsdB ts f a) (p :: r) else [])) bg2 [] ∧ (¬ (κ = 11 ∨ κ = 12) → bg2 = bg) ∧ out (tI 1062) (tF 1062) s s2 := by
      intro s1 vs1 ws bg1 o z1 z2 z3 z4 z5 z6
      have I : ∀ k q : Nat, k ≠ 1062 → s1.I k q = s.I k q := fun k q hne => o.2.1 k q hne
      obtain ⟨s2, bg2', r1, r2, r3, r4⟩ := ih n1 (i + 1) (vs ++ ws) bg1 s1 d4 (by omega) (by omega) ⟨b1, b2, m1.o o (fun _ => by unfold tI; omega) (fun _ => by unfold tF; omega) (fun _ => by unfold tF; omega) (fun _ => by unfold tF; omega), m2.o o (fun _ => by unfold tI; omega) (fun _ => by unfold tF; omega) (fun _ => by unfold tF; omega) (fun _ => by unfold tF; omega)⟩ (hs.o o (fun _ => by unfold tI; omega) (fun _ => by unfold tF; omega) (fun _ => by unfold tF; omega) (fun _ => by unfold tF; omega)) ((I nd 0 (by omega)).trans hk) (fun z => ⟨gfr o (fun _ => by unfold tF; omega) (hg z).1, gfr o (fun _ => by unfold tF; omega) (hg z).2⟩) z1 (by omega) (by omega)
      refine ⟨s2, bg2', r1, ?_, fun z => (r3 z).trans (z4 z), out_t o r4⟩
      by_cases c : κ = 11 ∨ κ = 12
      · rw [if_pos c] at r2 ⊢
        rw [z5 c, List.append_assoc] at r2
        exact r2
      · rw [if_neg c] at r2 ⊢
        rw [z6 c, List.append_nil] at r2
        exact r2
    have h57 : (κ = 11 → lsdB ts f a p.1 = false) → ∃ (s2 : uS) (bg2 : Nat), fb_X6_gather_57 (fn_X6_gather_10 n1) nd x2 x3 (nI i) s = gaK nd x2 x3 s2 ∧ cTz s2 1062 4400 1001 (vs ++ (if κ = 11 ∨ κ = 12 then hvs κ (lsdB ts f a) (p :: r) else [])) bg2 [] ∧ (¬ (κ = 11 ∨ κ = 12) → bg2 = bg) ∧ out (tI 1062) (tF 1062) s s2 := by
      intro h11
      unfold fb_X6_gather_57
      rw [hk, nI_1]
      by_cases c12 : κ = 12
      · rw [if_pos (show nI κ = 12 by rw [c12]; rfl), c_listed hfl hs (hg (Or.inr c12)).1 (hg (Or.inr c12)).2 (hf (Or.inr c12)) d1, Option.bind_some, d2]
        by_cases c : lsdB ts f a p.1 = true
        · rw [if_pos c]
          have vl : (fvl fs i) = p.2 := d3
          obtain ⟨fr, a1, a2, a3, a4⟩ := tz_rd uTx_vl m2 (i := i) (by rw [List.length_map]; exact d1)
          rw [show (List.map Prod.snd fs).getD i [] = p.2 from d3] at a2 a3 a4
          obtain ⟨s1, bg1, e1, e2, e3, e4, e5⟩ := c_fa p.2 1000000 fr 0 0 false false [] vs bg s (by omega) (fun j hj => a3.2.2 j hj) a3.2.1 h (by omega) (by omega) (by simp; omega) (by simp; omega) (by omega)
          unfold fn_X6_findAddresses
          rw [show iget 20 s 1061 (nI i) = _ from a2, Option.bind_some, show iget 20 s 1060 (nI i) = _ from a1, Option.bind_some, show fn_X6_findAddresses_32 uFu (nI (fr + p.2.length)) 0 0 false false (nI fr) s = some s1 from e1, Option.bind_some]
          exact go s1 vs _ bg1 e5 e2 (by simp at e3; omega) (by simp at e4 ⊢; omega) (fun z => absurd (Or.inr c12) z) (fun _ => by rw [if_pos c, if_neg (by omega)]) (fun z => absurd (Or.inr c12) z)
        · rw [if_neg c]
          exact go s vs [] bg out_r (by rw [List.append_nil]; exact h) (by omega) (by simp; omega) (fun _ => rfl) (fun _ => by rw [if_neg c]) (fun _ => rfl)
      · rw [if_neg (show ¬ nI κ = 12 from nI_ne (b := 12) (by omega) (by decide) c12)]
        exact go s vs [] bg out_r (by rw [List.append_nil]; exact h) (by omega) (by simp; omega) (fun _ => rfl) (fun z => by rw [h11 (by omega)]; rfl) (fun _ => rfl)
    show ∃ (s2 : uS) (bg2 : Nat), fb_X6_gather_10 (fn_X6_gather_10 n1) _ _ _ _ _ = _ ∧ _
    unfold fb_X6_gather_10
    rw [m1.1, List.length_map, if_neg (nI_ge (by omega) (by omega)), hk]
    by_cases c11 : κ = 11
    · rw [if_pos (show nI κ = 11 by rw [c11]; rfl), c_listed hfl hs (hg (Or.inl c11)).1 (hg (Or.inl c11)).2 (hf (Or.inl c11)) d1, Option.bind_some, d2]
      by_cases c : lsdB ts f a p.1 = true
      · rw [if_pos c]
        obtain ⟨s1, e1, e2, e3⟩ := tz_addFrom uTx_fd uTx_vl h m2 (i := i) (by rw [List.length_map]; exact d1) (by decide) (by rw [show (List.map Prod.snd fs).getD i [] = p.2 from d3]; omega) (by omega)
        rw [show (List.map Prod.snd fs).getD i [] = p.2 from d3] at e2
        rw [e1, Option.bind_some, nI_1]
        exact go s1 vs [p.2] _ e3 e2 (by omega) (by simp; omega) (fun z => absurd (Or.inl c11) z) (fun _ => by rw [if_pos c, if_pos c11]) (fun z => absurd (Or.inl c11) z)
      · rw [if_neg c]
        exact h57 (fun _ => by rw [← Bool.not_eq_true]; exact c)
    · rw [if_neg (show ¬ nI κ = 11 from nI_ne (b := 11) (by omega) (by decide) c11)]
      exact h57 (fun z => absurd z c11)
