/-! the class: gather -/
theorem exD {a b : List (List Nat)} (hl : a.length = b.length) (h : ∀ j : Nat, j < b.length → a.getD j [] = b.getD j []) : a = b := by
  apply List.ext_getElem?
  intro j
  by_cases c : j < b.length
  · have := h j c
    rw [List.getD_eq_getElem?_getD, List.getD_eq_getElem?_getD, List.getElem?_eq_getElem c, List.getElem?_eq_getElem (by omega)] at this
    rw [List.getElem?_eq_getElem c, List.getElem?_eq_getElem (by omega)]
    exact congrArg some this
  · rw [List.getElem?_eq_none (by omega), List.getElem?_eq_none (by omega)]
theorem getD_mapL {f : List Nat → List Nat} {a : List (List Nat)} {j : Nat} (h : j < a.length) : (a.map f).getD j [] = f (a.getD j []) := by
  rw [List.getD_eq_getElem?_getD, List.getD_eq_getElem?_getD, List.getElem?_map, List.getElem?_eq_getElem h]; rfl
theorem rsL_all (vs : List (List Nat)) : rsL vs 0 vs.length = vs.map (fl true) := by
  apply exD
  · rw [rsL_len, List.length_map]
  · intro j hj
    rw [List.length_map] at hj
    rw [rsL_get hj, if_pos ⟨Nat.zero_le _, by omega⟩, getD_mapL hj]
theorem gfr {s s1 : uS} {PI PF : Nat → Nat → Prop} (o : out PI PF s s1) {k : Nat} {x v : Int32} {T : Nat} (hk : ∀ f : Nat, ¬ PF k f) (h : iget T s k x = some v) : iget T s1 k x = some v := by
  unfold iget uIs uOk uIn uCl at *
  rw [o.1.1, o.1.2.2.2.2.1, show s1.F k = s.F k from funext fun f => o.2.2 k f (hk f)]
  exact h
theorem cTz.o {s s1 : uS} {PI PF : Nat → Nat → Prop} {k cap mo bg : Nat} {ts : List (List Nat)} {cur : List Nat} (h : cTz s k cap mo ts bg cur) (o : out PI PF s s1) (hI : ∀ f : Nat, ¬ PI k f) (h1 : ∀ f : Nat, ¬ PF (k + 1) f) (h2 : ∀ f : Nat, ¬ PF (k + 2) f) (h3 : ∀ f : Nat, ¬ PF (k + 3) f) : cTz s1 k cap mo ts bg cur :=
  h.fr (o.2.1 _ _ (hI _)) (o.2.1 _ _ (hI _)) (o.2.1 _ _ (hI _)) (funext fun f => o.2.2 _ _ (h1 f)) (funext fun f => o.2.2 _ _ (h2 f)) (funext fun f => o.2.2 _ _ (h3 f))
/-- parts, one by one -/
theorem c_nar {nd p : Nat} {vs : List (List Nat)} {bg : Nat} (hp : p < 3) (hnd : nd < 1000) : ∀ (d N q : Nat) (ws : List (List Nat)) (s : uS), q + d = vs.length → d + 1 ≤ N → s.I nd 9 = nI p → cTz s 1062 4400 1001 ws bg [] → ws.length = vs.length → (∀ j : Nat, j < vs.length → ws.getD j [] = if j < q then ptV p (vs.getD j []) else vs.getD j []) → ∃ s1 : uS, fn_X6_gather_123 N nd (nI q) s = fb_X6_gather_158 nd s1 ∧ cTz s1 1062 4400 1001 (vs.map (ptV p)) bg [] ∧ out (tI 1062) (tF 1062) s s1 := by
  intro d
  induction d with
  | zero =>
    intro N q ws s hq hN h9 h hl hw
    obtain ⟨n1, rfl⟩ : ∃ n1, N = n1 + 1 := ⟨N - 1, by omega⟩
    have q2 := h.2.1
    refine ⟨s, ?_, ?_, out_r⟩
    · show fb_X6_gather_123 _ _ _ _ = _
      unfold fb_X6_gather_123
      rw [h.1, if_pos (nI_le (by omega) (by omega))]
    · rw [show vs.map (ptV p) = ws from exD (by rw [List.length_map, hl]) (fun j hj => by rw [getD_mapL (by omega), hw j (by omega), if_pos (by omega)])]
      exact h
  | succ d ih =>
    intro N q ws s hq hN h9 h hl hw
    obtain ⟨n1, rfl⟩ : ∃ n1, N = n1 + 1 := ⟨N - 1, by omega⟩
    have q2 := h.2.1
    show ∃ s1 : uS, fb_X6_gather_123 (fn_X6_gather_123 n1) _ _ _ = _ ∧ _
    unfold fb_X6_gather_123
    rw [h.1, if_neg (nI_ge (by omega) (by omega)), h9]
    by_cases c : p = 0
    · rw [if_pos (show nI p = 0 by rw [c]; rfl)]
      refine ⟨s, rfl, ?_, out_r⟩
      rw [show vs.map (ptV p) = ws from exD (by rw [List.length_map, hl]) (fun j hj => by
        rw [getD_mapL (by omega), hw j (by omega)]
        unfold ptV
        rw [if_pos c]
        split <;> rfl)]
      exact h
    · rw [if_neg (show ¬ nI p = 0 from nI_ne (b := 0) (by omega) (by decide) c)]
      obtain ⟨s1, a1, a2, a3⟩ := c_narrow h (i := q) (p := p) (by omega) (by omega)
      rw [a1, Option.bind_some, nI_1]
      obtain ⟨s2, b1, b2, b3⟩ := ih n1 (q + 1) _ s1 (by omega) (by omega) ((a3.2.1 _ _ (by unfold tI; omega)).trans h9) a2 (by rw [List.length_set]; exact hl) (fun j hj => by
        rw [getD_setL (by omega)]
        by_cases e : j = q
        · rw [if_pos e, if_pos (by omega), e, hw q (by omega), if_neg (by omega)]
        · rw [if_neg e, hw j hj]
          by_cases e2 : j < q
          · rw [if_pos e2, if_pos (by omega)]
          · rw [if_neg e2, if_neg (by omega)])
      exact ⟨s2, b1, b2, out_t a3 b3⟩
/-- flags -/
def gf (g : Nat) : List Nat → Nat → List Nat → List (List Nat)
  | [], i, cur => if g.testBit i = true then [cur] else []
  | c :: W, i, cur => if c = 32 then (if g.testBit i = true then [cur] else []) ++ gf g W (i + 1) [] else gf g W i (if g.testBit i = true then cur ++ [c] else cur)
def flV (g : Nat) : List (List Nat) := (if g.testBit 0 = true then [kW_137] else []) ++ (if g.testBit 1 = true then [kW_138] else []) ++ (if g.testBit 2 = true then [kW_139] else []) ++ (if g.testBit 3 = true then [kW_140] else []) ++ (if g.testBit 4 = true then [kW_141] else [])
theorem gf_flV : ∀ g : Nat, g < 32 → gf g kW_51 0 [] = flV g := by
  have : ∀ g : Fin 32, gf g.1 kW_51 0 [] = flV g.1 := by decide +kernel
  exact fun g hg => this ⟨g, hg⟩
theorem tbit : ∀ g i : Nat, g < 32 → i < 6 → (((nI g >>> (nI i &&& 31)) &&& 1) = 0 ↔ ¬ g.testBit i = true) := by
  have : ∀ g : Fin 32, ∀ i : Fin 6, (((nI g.1 >>> (nI i.1 &&& 31)) &&& 1) = 0 ↔ ¬ g.1.testBit i.1 = true) := by decide +kernel
  exact fun g i hg hi => this ⟨g, hg⟩ ⟨i, hi⟩
theorem getD_dropN {l : List Nat} {i : Nat} {b : Nat} {r : List Nat} (h : l.drop i = b :: r) : i < l.length ∧ l.getD i 0 = b ∧ l.drop (i + 1) = r := by
  have hi : i < l.length := by
    by_cases c : i < l.length
    · exact c
    · rw [List.drop_eq_nil_of_le (by omega)] at h; cases h
  rw [List.drop_eq_getElem_cons hi] at h
  injection h with h1 h2
  exact ⟨hi, by rw [List.getD_eq_getElem?_getD, List.getElem?_eq_getElem hi]; exact h1, h2⟩
theorem kW51_len : kW_51.length = 40 := by decide
theorem c_gfl {g : Nat} (hg : g < 32) : ∀ (W : List Nat) (N p i : Nat) (cur : List Nat) (vs : List (List Nat)) (bg : Nat) (s : uS), kW_51.drop p = W → p + W.length = 40 → W.length + 2 ≤ N → i + (W.filter (fun c => decide (c = 32))).length ≤ 4 → (¬ g.testBit i = true → cur = []) → bys W → cTz s 1062 4400 1001 vs bg cur → bg + cur.length + W.length ≤ 4000 → vs.length + (W.filter (fun c => decide (c = 32))).length ≤ 900 → ∃ (s1 : uS) (bg1 : Nat), fn_X6_gatherFlags_4 N (nI g) (nI i) (nI p) s = some s1 ∧ cTz s1 1062 4400 1001 (vs ++ gf g W i cur) bg1 [] ∧ bg1 ≤ bg + cur.length + W.length ∧ out (tI 1062) (tF 1062) s s1 := by
  intro W
  induction W with
  | nil =>
    intro N p i cur vs bg s hW hp hN hi hc hby h hb hv
    simp only [List.length_nil, List.filter_nil, Nat.add_zero] at *
    obtain ⟨n1, rfl⟩ : ∃ n1, N = n1 + 1 + 1 := ⟨N - 2, by omega⟩
    have e0 : ∀ s2 : uS, fn_X6_gatherFlags_4 (n1 + 1) (nI g) (nI i + 1) (nI p + 1) s2 = some s2 := by
      intro s2
      show fb_X6_gatherFlags_4 _ _ _ _ _ = _
      unfold fb_X6_gatherFlags_4
      rw [nI_1 p, kW51_len, if_pos (nI_lt (by omega) (by omega))]
    show ∃ (s1 : uS) (bg1 : Nat), fb_X6_gatherFlags_4 (fn_X6_gatherFlags_4 (n1 + 1)) _ _ _ _ = _ ∧ _
    unfold fb_X6_gatherFlags_4
    rw [kW51_len, if_neg (nI_nlt (by omega) (by omega))]
    unfold gf
    by_cases c : g.testBit i = true
    · rw [if_neg (fun z => (tbit g i hg (by omega)).mp z c), if_pos c]
      unfold fb_X6_gatherFlags_26
      rw [kW51_len, if_pos (nI_le (by omega) (by omega))]
      unfold fb_X6_gatherFlags_69
      obtain ⟨s1, a1, a2, a3⟩ := tz_closeO uTx_fd h (by omega)
      rw [if_pos rfl, a1, Option.bind_some, e0]
      exact ⟨s1, _, rfl, a2, by omega, a3⟩
    · rw [if_pos ((tbit g i hg (by omega)).mpr c), if_neg c, List.append_nil]
      unfold fb_X6_gatherFlags_26
      rw [kW51_len, if_pos (nI_le (by omega) (by omega))]
      unfold fb_X6_gatherFlags_69
      rw [if_neg (by decide), e0]
      rw [hc c] at h
      exact ⟨s, _, rfl, h, by omega, out_r⟩
  | cons b W ih =>
    intro N p i cur vs bg s hW hp hN hi hc hby h hb hv
    obtain ⟨w1, w2, w3⟩ := getD_dropN hW
    have hb0 : b < 256 := hby 0
    have hbW : bys W := fun j => hby (j + 1)
    rw [List.filter_cons] at hi hv
    simp only [List.length_cons] at *
    obtain ⟨n1, rfl⟩ : ∃ n1, N = n1 + 1 := ⟨N - 1, by omega⟩
    show ∃ (s1 : uS) (bg1 : Nat), fb_X6_gatherFlags_4 (fn_X6_gatherFlags_4 n1) _ _ _ _ = _ ∧ _
    unfold fb_X6_gatherFlags_4
    rw [kW51_len, if_neg (nI_nlt (by omega) (by omega))]
    have st : stget kW_51 (nI p) = some (nI b) := by rw [stget_c w1 (by decide), w2]
    have e26 : ∀ B : Bool, fb_X6_gatherFlags_26 (fn_X6_gatherFlags_4 n1) (nI g) (nI i) (nI p) B s = if b = 32 then (fb_X6_gatherFlags_69 (fn_X6_gatherFlags_4 n1) (nI g) (nI i) (nI p) B s) else if B = true then ((fn_X9_put 1062 (nI b) s).bind fun s11 => fn_X6_gatherFlags_4 n1 (nI g) (nI i) (nI (p + 1)) s11) else fn_X6_gatherFlags_4 n1 (nI g) (nI i) (nI (p + 1)) s := by
      intro B
      unfold fb_X6_gatherFlags_26
      rw [kW51_len, if_neg (nI_ge (by omega) (by omega)), st, Option.bind_some, nI_1 p]
      by_cases e : b = 32
      · rw [if_pos (show nI b = 32 by rw [e]; rfl), if_pos e]
      · rw [if_neg (show ¬ nI b = 32 from nI_ne (b := 32) (by omega) (by decide) e), if_neg e, Option.bind_some]
    unfold gf
    by_cases e : b = 32
    · rw [if_pos (decide_eq_true e)] at hi hv
      simp only [List.length_cons] at hi hv
      rw [if_pos e]
      by_cases c : g.testBit i = true
      · rw [if_neg (fun z => (tbit g i hg (by omega)).mp z c), if_pos c, e26, if_pos e]
        unfold fb_X6_gatherFlags_69
        obtain ⟨s1, a1, a2, a3⟩ := tz_closeO uTx_fd h (by omega)
        rw [if_pos rfl, a1, Option.bind_some, nI_1, nI_1]
        obtain ⟨s2, bg2, b1, b2, b3, b4⟩ := ih n1 (p + 1) (i + 1) [] (vs ++ [cur]) (bg + cur.length) s1 w3 (by omega) (by omega) (by omega) (fun _ => rfl) hbW a2 (by simp; omega) (by simp; omega)
        exact ⟨s2, bg2, b1, by rw [← List.append_assoc]; exact b2, by simp at b3; omega, out_t a3 b4⟩
      · rw [if_pos ((tbit g i hg (by omega)).mpr c), if_neg c, e26, if_pos e, List.nil_append]
        unfold fb_X6_gatherFlags_69
        rw [if_neg (by decide), nI_1, nI_1]
        rw [hc c] at h
        obtain ⟨s2, bg2, b1, b2, b3, b4⟩ := ih n1 (p + 1) (i + 1) [] vs bg s w3 (by omega) (by omega) (by omega) (fun _ => rfl) hbW h (by simp; omega) (by omega)
        exact ⟨s2, bg2, b1, b2, by simp at b3; omega, b4⟩
    · rw [if_neg (by rw [decide_eq_false e]; decide)] at hi hv
      rw [if_neg e]
      by_cases c : g.testBit i = true
      · rw [if_neg (fun z => (tbit g i hg (by omega)).mp z c), if_pos c, e26, if_neg e, if_pos rfl]
        obtain ⟨s1, a1, a2, a3⟩ := tz_putO uTx_fd h (b := b) (x := nI b) (by omega) hb0 rfl
        rw [a1, Option.bind_some]
        obtain ⟨s2, bg2, b1, b2, b3, b4⟩ := ih n1 (p + 1) i _ vs bg s1 w3 (by omega) (by omega) (by omega) (fun z => absurd c z) hbW a2 (by rw [List.length_append]; simp; omega) (by omega)
        exact ⟨s2, bg2, b1, b2, by rw [List.length_append] at b3; simp at b3; omega, out_t a3 b4⟩
      · rw [if_pos ((tbit g i hg (by omega)).mpr c), if_neg c, e26, if_neg e, if_neg (by decide)]
        obtain ⟨s2, bg2, b1, b2, b3, b4⟩ := ih n1 (p + 1) i _ vs bg s w3 (by omega) (by omega) (by omega) hc hbW h (by omega) (by omega)
        exact ⟨s2, bg2, b1, b2, by omega, b4⟩
theorem c_gflags {g bg : Nat} {s : uS} (hg : g < 32) (h : cTz s 1062 4400 1001 [] bg []) (hb : bg = 0) : ∃ (s1 : uS) (bg1 : Nat), fn_X6_gatherFlags (nI g) s = some s1 ∧ cTz s1 1062 4400 1001 (flV g) bg1 [] ∧ out (tI 1062) (tF 1062) s s1 := by
  obtain ⟨s1, bg1, a1, a2, a3, a4⟩ := c_gfl hg kW_51 1000000 0 0 [] [] bg s rfl (by rw [kW51_len]) (by rw [kW51_len]; omega) (by decide) (fun _ => rfl) (fun j => by
    by_cases c : j < 40
    · have : ∀ q : Fin 40, kW_51.getD q.1 0 < 256 := by decide
      exact this ⟨j, c⟩
    · rw [getDn_out (by rw [kW51_len]; omega)]; decide) h (by rw [kW51_len, hb]; simp) (by decide)
  rw [List.nil_append, gf_flV g hg] at a2
  exact ⟨s1, bg1, a1, a2, a4⟩
