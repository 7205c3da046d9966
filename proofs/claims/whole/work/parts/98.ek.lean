/-! the class: addresses in a value -/
theorem tz_pr {s : uS} {K cap mo bg k1 cap1 mo1 fr : Nat} {ts : List (List Nat)} {cur x : List Nat} (hK : uTx K cap mo) (hK1 : uTx k1 cap1 mo1) (h : cTz s K cap mo ts bg cur) (hr : rdC s (k1 + 1) fr x) (hfr : fr + x.length ≤ cap1) (hne : k1 ≠ K) (hfit : bg + cur.length + x.length ≤ cap) : ∃ s1 : uS, fn_X9_putRange K (k1 + 1) (nI fr) (nI (fr + x.length)) s = some s1 ∧ cTz s1 K cap mo ts bg (cur ++ x) ∧ out (txI K) (txF K) s s1 := by
  have c1 : uCl s (k1 + 1) = (21, cap1) := by rw [uCl_c (by have := hK1.1; omega)]; exact hK1.2.1
  have c3 := hK1.2.2.2.2.1
  by_cases z : x = []
  · subst z
    refine ⟨s, ?_, by rw [List.append_nil]; exact h, out_r⟩
    unfold fn_X9_putRange
    have h4 := h.2.2.2.1
    have k5 := hK.2.2.2.2.1
    rw [ulen_c (by have := hK1.1; omega) hK1.2.1 (by decide), Option.bind_some, ulen_c (by have := hK.1; omega) hK.2.1 (by decide), Option.bind_some]
    show (if nI fr < 0 then _ else _) = _
    simp only [List.length_nil, Nat.add_zero] at hfr ⊢
    have hfit2 : bg + cur.length ≤ cap := by simpa using hfit
    have m1 : (if nI cap1 < nI fr then nI cap1 else nI fr) = nI fr := if_neg (nI_nlt (by omega) (by omega))
    rw [if_neg (nI_pos (by omega)), m1, h4]
    have m2 : (if nI cap - nI (bg + cur.length) < nI fr - nI fr then nI cap - nI (bg + cur.length) else nI fr - nI fr) = nI 0 := by
      rw [nI_sub (by omega), nI_sub (by omega), Nat.sub_self]
      exact if_neg (nI_nlt (by omega) (by omega))
    rw [m2, if_pos (by decide)]
  · have hx0 : 0 < x.length := by cases x with | nil => exact absurd rfl z | cons _ _ => simp
    obtain ⟨s1, a1, a2, a3⟩ := tz_range (a := 0) (b := x.length) hK h hr (by rw [c1]; exact c3) (by omega) hx0 (Nat.zero_le _) (Nat.le_refl _) (by omega)
    refine ⟨s1, a1, ?_, a3⟩
    have : sub x 0 x.length = x := by unfold sub; simp
    rw [this] at a2
    exact a2
theorem out_tx {k : Nat} {s s1 : uS} (h : out (txI k) (txF k) s s1) : out (tI k) (tF k) s s1 := out_w h (fun _ _ z => z.1) (fun _ _ z => Or.inl z)
theorem tz_addFrom {s : uS} {K cap mo bg k1 cap1 mo1 bg1 i : Nat} {ts ts1 : List (List Nat)} {cur1 : List Nat} (hK : uTx K cap mo) (hK1 : uTx k1 cap1 mo1) (h : cTz s K cap mo ts bg []) (h1 : cTz s k1 cap1 mo1 ts1 bg1 cur1) (hi : i < ts1.length) (hne : k1 ≠ K) (hfit : bg + (ts1.getD i []).length ≤ cap) (hl : ts.length < mo) : ∃ s1 : uS, fn_X9_addFrom K k1 (nI i) s = some s1 ∧ cTz s1 K cap mo (ts ++ [ts1.getD i []]) (bg + (ts1.getD i []).length) [] ∧ out (tI K) (tF K) s s1 := by
  obtain ⟨fr, a1, a2, a3, a4⟩ := tz_rd hK1 h1 hi
  have q1 := h1.2.1
  have q2 := hK1.2.2.2.2.2
  obtain ⟨s1, b1, b2, b3⟩ := tz_pr hK hK1 h a3 a4 hne (by simpa using hfit)
  rw [List.nil_append] at b2
  obtain ⟨s2, d1, d2, d3⟩ := tz_closeO hK b2 hl
  refine ⟨s2, ?_, d2, out_t (out_tx b3) d3⟩
  unfold fn_X9_addFrom
  rw [if_neg (nI_pos (by omega)), h1.1, if_neg (nI_ge hi (by omega)), a1, Option.bind_some, a2, Option.bind_some, b1, Option.bind_some]
  unfold fb_X9_addFrom_32
  rw [d1]; rfl
def faF (a : Nat) (cur : List Nat) : List (List Nat) := if a ≠ 1 ∧ (adr cur).isSome = true then [cur] else []
/-- the addresses in a value: a 1 within angles, 2 behind them; d how deep in comments; q quoted; e behind a backslash -/
def fa : List Nat → Nat → Nat → Bool → Bool → List Nat → List (List Nat)
  | [], a, _, _, _, cur => faF a cur
  | b :: x, a, d, q, e, cur =>
    if b = 44 ∧ q = false ∧ d = 0 ∧ a ≠ 1 then faF a cur ++ fa x 0 d q e []
    else if (q = true ∨ 0 < d) ∧ (e = true ∨ b = 92) then fa x a d q (!e) cur
    else if q = true then fa x a d (decide (b ≠ 34)) e cur
    else if b = 40 then fa x a (d + 1) q e cur
    else if b = 41 ∧ 0 < d then fa x a (d - 1) q e cur
    else if 0 < d ∨ b = 32 ∨ b = 9 then fa x a d q e cur
    else if b = 60 ∧ a = 0 then fa x 1 d q e []
    else if b = 62 ∧ a = 1 then fa x 2 d q e cur
    else fa x a d (decide (b = 34)) e (if a = 2 then cur else cur ++ [b])
theorem adr_len {w : List Nat} (h : (adr w).isSome = true) : 3 ≤ w.length := by
  unfold adr at h
  split at h
  · cases h
  · rename_i p hp
    split at h
    · rename_i hd
      obtain ⟨h1, h2⟩ := hd
      unfold dot at h1 h2
      simp only [Bool.and_eq_true, decide_eq_true_eq] at h1 h2
      omega
    · cases h
theorem faF_len {a : Nat} {cur : List Nat} : 4 * (faF a cur).length ≤ cur.length + 1 ∧ (∀ v ∈ faF a cur, (adr v).isSome = true) := by
  unfold faF
  split
  · rename_i h
    have := adr_len h.2
    refine ⟨by simp; omega, fun v hv => ?_⟩
    rw [List.mem_singleton] at hv; rw [hv]; exact h.2
  · exact ⟨by simp, fun v hv => absurd hv (by simp)⟩
theorem c_fa101 {K : Int32 → Int32 → Int32 → Bool → Bool → Int32 → uS → Option uS} {x2 x4 x7 : Int32} {q e : Bool} {a bg : Nat} {vs : List (List Nat)} {cur : List Nat} {s : uS} (h : cTz s 1062 4400 1001 vs bg cur) (ha : a ≤ 2) (hn : 4 * vs.length + cur.length ≤ 4003) : ∃ (s1 : uS) (bg1 : Nat), fb_X6_findAddresses_101 K x2 (nI a) x4 q e x7 s = K x2 0 x4 q e (x7 + 1) s1 ∧ cTz s1 1062 4400 1001 (vs ++ faF a cur) bg1 [] ∧ bg1 ≤ bg + cur.length ∧ out (tI 1062) (tF 1062) s s1 := by
  obtain ⟨h1, h2, h3, h4, h5, h6, h7, fr, h8, h9⟩ := h
  have hh : cTz s 1062 4400 1001 vs bg cur := ⟨h1, h2, h3, h4, h5, h6, h7, fr, h8, h9⟩
  have drp : ∀ (s0 : uS) (vs0 : List (List Nat)) (bg0 : Nat) (cur0 : List Nat), cTz s0 1062 4400 1001 vs0 bg0 cur0 → ∃ s1 : uS, fb_X6_findAddresses_140 K x2 x4 q e x7 s0 = K x2 0 x4 q e (x7 + 1) s1 ∧ cTz s1 1062 4400 1001 vs0 bg0 [] ∧ out (tI 1062) (tF 1062) s0 s1 := by
    intro s0 vs0 bg0 cur0 h0
    obtain ⟨s1, a1, a2, a3⟩ := tz_dropO h0
    exact ⟨s1, by unfold fb_X6_findAddresses_140; rw [a1, Option.bind_some], a2, a3⟩
  unfold fb_X6_findAddresses_101 faF
  by_cases c : a = 1
  · rw [if_pos (show nI a = 1 by rw [c]; rfl), if_neg (fun z => z.1 c), List.append_nil]
    obtain ⟨s1, a1, a2, a3⟩ := drp s vs bg cur hh
    exact ⟨s1, bg, a1, a2, by omega, a3⟩
  · rw [if_neg (show ¬ nI a = 1 from nI_ne (b := 1) (by omega) (by decide) c), h3, h4, c_addr (k := 1063) (fr := bg) (w := cur) ⟨by omega, h6, fun j hj => by rw [iget_c (N := 4400) (by omega) (by decide) (by omega) (by omega), h7 j hj]⟩ (by omega), Option.bind_some]
    by_cases d : (adr cur).isSome = true
    · have := adr_len d
      obtain ⟨s1, a1, a2, a3⟩ := tz_closeO uTx_fd hh (by omega)
      obtain ⟨s2, b1, b2, b3⟩ := drp s1 _ _ _ a2
      rw [if_pos d, a1, Option.bind_some, b1, if_pos ⟨c, d⟩]
      exact ⟨s2, _, rfl, b2, Nat.le_refl _, out_t a3 b3⟩
    · rw [if_neg d, if_neg (fun z => d z.2), List.append_nil]
      obtain ⟨s1, a1, a2, a3⟩ := drp s vs bg cur hh
      exact ⟨s1, bg, a1, a2, by omega, a3⟩
theorem c_fa59 {K : Int32 → Int32 → Int32 → Bool → Bool → Int32 → uS → Option uS} {x2 x3 x7 v : Int32} {q e : Bool} {d : Nat} {s : uS} (hd : d < 2 ^ 31) : fb_X6_findAddresses_59 K x2 x3 (nI d) q e x7 v s = fb_X6_findAddresses_76 K x2 x3 (nI d) q e x7 v (q || decide (0 < d)) s := by
  unfold fb_X6_findAddresses_59
  cases q with
  | true => rfl
  | false =>
    rw [if_neg (by decide), Bool.false_or]
    by_cases c : 0 < d
    · rw [if_neg (nI_nle c hd), decide_eq_true c]
    · rw [if_pos (show nI d ≤ 0 by rw [show d = 0 by omega]; decide), decide_eq_false c]
theorem nI_dec {d : Nat} (h : 0 < d) : nI d + (-1) = nI (d - 1) := by
  have := nI_sub (a := d) (b := 1) h
  rw [← this, Int32.sub_eq_add_neg]; rfl
theorem c_fa : ∀ (x : List Nat) (N i a d : Nat) (q e : Bool) (cur : List Nat) (vs : List (List Nat)) (bg : Nat) (s : uS), x.length + 2 ≤ N → (∀ j : Nat, j < x.length → iget 21 s 1059 (nI (i + j)) = some (sb (x.getD j 0))) → bys x → cTz s 1062 4400 1001 vs bg cur → a ≤ 2 → d + x.length ≤ 5000 → bg + cur.length + x.length ≤ 4400 → 4 * vs.length + cur.length + x.length ≤ 4003 → i + x.length ≤ 10000 → ∃ (s1 : uS) (bg1 : Nat), fn_X6_findAddresses_32 N (nI (i + x.length)) (nI a) (nI d) q e (nI i) s = some s1 ∧ cTz s1 1062 4400 1001 (vs ++ fa x a d q e cur) bg1 [] ∧ bg1 ≤ bg + cur.length + x.length ∧ 4 * (vs ++ fa x a d q e cur).length ≤ 4 * vs.length + cur.length + x.length + 1 ∧ out (tI 1062) (tF 1062) s s1 := by
  intro x
  induction x with
  | nil =>
    intro N i a d q e cur vs bg s hN hx hb h ha hd h1 h2 h3
    simp only [List.length_nil, Nat.add_zero] at *
    obtain ⟨n1, rfl⟩ : ∃ n1, N = n1 + 1 := ⟨N - 1, by omega⟩
    show ∃ (s1 : uS) (bg1 : Nat), fb_X6_findAddresses_32 (fn_X6_findAddresses_32 n1) _ _ _ q e _ s = _ ∧ _
    unfold fb_X6_findAddresses_32
    rw [if_neg (nI_nlt (Nat.le_refl _) (by omega)), if_pos (nI_le (Nat.le_refl _) (by omega)), c_fa59 (by omega)]
    unfold fb_X6_findAddresses_76
    rw [if_pos rfl]
    obtain ⟨s1, bg1, a1, a2, a3, a4⟩ := c_fa101 (K := fn_X6_findAddresses_32 n1) (x2 := nI i) (x4 := nI d) (x7 := nI i) (q := q) (e := e) h ha h2
    obtain ⟨n2, rfl⟩ : ∃ n2, n1 = n2 + 1 := ⟨n1 - 1, by omega⟩
    refine ⟨s1, bg1, ?_, a2, a3, ?_, a4⟩
    · rw [a1, nI_1]
      show fb_X6_findAddresses_32 (fn_X6_findAddresses_32 n2) _ _ _ q e _ s1 = _
      unfold fb_X6_findAddresses_32
      rw [if_pos (nI_lt (by omega) (by omega))]
    · have := (faF_len (a := a) (cur := cur)).1
      show 4 * (vs ++ faF a cur).length ≤ _
      rw [List.length_append]; omega
  | cons b x ih =>
    intro N i a d q e cur vs bg s hN hx hb h ha hd h1 h2 h3
    have hb0 : b < 256 := hb 0
    have hbx : bys x := fun j => hb (j + 1)
    have hxx : ∀ j : Nat, j < x.length → iget 21 s 1059 (nI (i + 1 + j)) = some (sb (x.getD j 0)) := fun j hj => by
      have := hx (j + 1) (by simp; omega)
      rw [show i + (j + 1) = i + 1 + j by omega] at this
      exact this
    have hx0 := hx 0 (by simp)
    rw [Nat.add_zero, show (b :: x).getD 0 0 = b from rfl] at hx0
    simp only [List.length_cons] at *
    obtain ⟨n1, rfl⟩ : ∃ n1, N = n1 + 1 := ⟨N - 1, by omega⟩
    have hE : i + (x.length + 1) = i + 1 + x.length := by omega
    rw [hE]
    show ∃ (s1 : uS) (bg1 : Nat), fb_X6_findAddresses_32 (fn_X6_findAddresses_32 n1) _ _ _ q e _ s = _ ∧ _
    unfold fb_X6_findAddresses_32
    rw [if_neg (nI_nlt (by omega) (by omega)), if_neg (nI_ge (by omega) (by omega)), hx0, Option.bind_some, c_fa59 (by omega)]
    unfold fb_X6_findAddresses_76
    rw [if_neg (nI_ne (by omega) (by omega) (by omega))]
    have cb : ∀ c : Nat, c < 128 → (sb b = nI c ↔ b = c) := fun c hc => sb_e hb0 hc
    -- going on with another state of the machine
    have go : ∀ (a' d' : Nat) (q' e' : Bool) (cur' : List Nat) (s' : uS), cTz s' 1062 4400 1001 vs bg cur' → out (tI 1062) (tF 1062) s s' → a' ≤ 2 → d' ≤ d + 1 → cur'.length ≤ cur.length + 1 → ∃ (s1 : uS) (bg1 : Nat), fn_X6_findAddresses_32 n1 (nI (i + 1 + x.length)) (nI a') (nI d') q' e' (nI i + 1) s' = some s1 ∧ cTz s1 1062 4400 1001 (vs ++ fa x a' d' q' e' cur') bg1 [] ∧ bg1 ≤ bg + cur.length + (x.length + 1) ∧ 4 * (vs ++ fa x a' d' q' e' cur').length ≤ 4 * vs.length + cur.length + (x.length + 1) + 1 ∧ out (tI 1062) (tF 1062) s s1 := by
      intro a' d' q' e' cur' s' z1 z2 z3 z4 z5
      obtain ⟨s1, bg1, r1, r2, r3, r4, r5⟩ := ih n1 (i + 1) a' d' q' e' cur' vs bg s' (by omega) (fun j hj => by
        have := hxx j hj
        unfold iget uIs uOk uIn uCl at *
        rw [z2.1.1, z2.1.2.2.2.2.1, show s'.F 1059 = s.F 1059 from funext fun f => z2.2.2 _ f (by unfold tF; omega)]
        exact this) hbx z1 z3 (by omega) (by omega) (by omega) (by omega)
      exact ⟨s1, bg1, by rw [nI_1]; exact r1, r2, by omega, by omega, out_t z2 r5⟩
    have same : ∀ (a' d' : Nat) (q' e' : Bool), a' ≤ 2 → d' ≤ d + 1 → _ := fun a' d' q' e' z3 z4 => go a' d' q' e' cur s h out_r z3 z4 (by omega)
    unfold fa
    -- what is done unless a part ends
    have rest : ¬ (b = 44 ∧ q = false ∧ d = 0 ∧ a ≠ 1) → ∃ (s1 : uS) (bg1 : Nat), fb_X6_findAddresses_152 (fn_X6_findAddresses_32 n1) (nI (i + 1 + x.length)) (nI a) (nI d) q e (nI i) (sb b) (q || decide (0 < d)) s = some s1 ∧ cTz s1 1062 4400 1001 (vs ++ (if b = 44 ∧ q = false ∧ d = 0 ∧ a ≠ 1 then faF a cur ++ fa x 0 d q e [] else if (q = true ∨ 0 < d) ∧ (e = true ∨ b = 92) then fa x a d q (!e) cur else if q = true then fa x a d (decide (b ≠ 34)) e cur else if b = 40 then fa x a (d + 1) q e cur else if b = 41 ∧ 0 < d then fa x a (d - 1) q e cur else if 0 < d ∨ b = 32 ∨ b = 9 then fa x a d q e cur else if b = 60 ∧ a = 0 then fa x 1 d q e [] else if b = 62 ∧ a = 1 then fa x 2 d q e cur else fa x a d (decide (b = 34)) e (if a = 2 then cur else cur ++ [b]))) bg1 [] ∧ bg1 ≤ bg + cur.length + (x.length + 1) ∧ 4 * (vs ++ (if b = 44 ∧ q = false ∧ d = 0 ∧ a ≠ 1 then faF a cur ++ fa x 0 d q e [] else if (q = true ∨ 0 < d) ∧ (e = true ∨ b = 92) then fa x a d q (!e) cur else if q = true then fa x a d (decide (b ≠ 34)) e cur else if b = 40 then fa x a (d + 1) q e cur else if b = 41 ∧ 0 < d then fa x a (d - 1) q e cur else if 0 < d ∨ b = 32 ∨ b = 9 then fa x a d q e cur else if b = 60 ∧ a = 0 then fa x 1 d q e [] else if b = 62 ∧ a = 1 then fa x 2 d q e cur else fa x a d (decide (b = 34)) e (if a = 2 then cur else cur ++ [b]))).length ≤ 4 * vs.length + cur.length + (x.length + 1) + 1 ∧ out (tI 1062) (tF 1062) s s1 := by
      intro z1
      rw [if_neg z1]
      unfold fb_X6_findAddresses_152
      have e184 : ¬ ((q = true ∨ 0 < d) ∧ (e = true ∨ b = 92)) → ∃ (s1 : uS) (bg1 : Nat), fb_X6_findAddresses_184 (fn_X6_findAddresses_32 n1) (nI (i + 1 + x.length)) (nI a) (nI d) q e (nI i) (sb b) s = some s1 ∧ cTz s1 1062 4400 1001 (vs ++ (if q = true then fa x a d (decide (b ≠ 34)) e cur else if b = 40 then fa x a (d + 1) q e cur else if b = 41 ∧ 0 < d then fa x a (d - 1) q e cur else if 0 < d ∨ b = 32 ∨ b = 9 then fa x a d q e cur else if b = 60 ∧ a = 0 then fa x 1 d q e [] else if b = 62 ∧ a = 1 then fa x 2 d q e cur else fa x a d (decide (b = 34)) e (if a = 2 then cur else cur ++ [b]))) bg1 [] ∧ bg1 ≤ bg + cur.length + (x.length + 1) ∧ 4 * (vs ++ (if q = true then fa x a d (decide (b ≠ 34)) e cur else if b = 40 then fa x a (d + 1) q e cur else if b = 41 ∧ 0 < d then fa x a (d - 1) q e cur else if 0 < d ∨ b = 32 ∨ b = 9 then fa x a d q e cur else if b = 60 ∧ a = 0 then fa x 1 d q e [] else if b = 62 ∧ a = 1 then fa x 2 d q e cur else fa x a d (decide (b = 34)) e (if a = 2 then cur else cur ++ [b]))).length ≤ 4 * vs.length + cur.length + (x.length + 1) + 1 ∧ out (tI 1062) (tF 1062) s s1 := by
        intro z2
        unfold fb_X6_findAddresses_184
        by_cases y1 : q = true
        · rw [if_pos y1, if_pos y1]
          by_cases y2 : b = 34
          · rw [if_pos (show sb b = 34 from (cb 34 (by decide)).mpr y2), decide_eq_false (fun z => z y2)]
            exact same a d false e ha (by omega)
          · rw [if_neg (show ¬ sb b = 34 from fun z => y2 ((cb 34 (by decide)).mp z)), decide_eq_true y2]
            exact same a d true e ha (by omega)
        rw [if_neg y1, if_neg y1]
        have e245 : ¬ (b = 40) → ¬ (b = 41 ∧ 0 < d) → ∃ (s1 : uS) (bg1 : Nat), fb_X6_findAddresses_245 (fn_X6_findAddresses_32 n1) (nI (i + 1 + x.length)) (nI a) (nI d) q e (nI i) (sb b) s = some s1 ∧ cTz s1 1062 4400 1001 (vs ++ (if 0 < d ∨ b = 32 ∨ b = 9 then fa x a d q e cur else if b = 60 ∧ a = 0 then fa x 1 d q e [] else if b = 62 ∧ a = 1 then fa x 2 d q e cur else fa x a d (decide (b = 34)) e (if a = 2 then cur else cur ++ [b]))) bg1 [] ∧ bg1 ≤ bg + cur.length + (x.length + 1) ∧ 4 * (vs ++ (if 0 < d ∨ b = 32 ∨ b = 9 then fa x a d q e cur else if b = 60 ∧ a = 0 then fa x 1 d q e [] else if b = 62 ∧ a = 1 then fa x 2 d q e cur else fa x a d (decide (b = 34)) e (if a = 2 then cur else cur ++ [b]))).length ≤ 4 * vs.length + cur.length + (x.length + 1) + 1 ∧ out (tI 1062) (tF 1062) s s1 := by
          intro y4 y5
          unfold fb_X6_findAddresses_245
          by_cases y6 : 0 < d
          · rw [if_pos (show (0 : Int32) < nI d from nI_lt (a := 0) y6 (by omega)), if_pos (Or.inl y6)]
            exact same a d q e ha (by omega)
          rw [if_neg (show ¬ (0 : Int32) < nI d from nI_nlt (a := 0) (by omega) (by omega))]
          by_cases y7 : b = 32
          · rw [if_pos (show sb b = 32 from (cb 32 (by decide)).mpr y7), if_pos (Or.inr (Or.inl y7))]
            exact same a d q e ha (by omega)
          rw [if_neg (show ¬ sb b = 32 from fun z => y7 ((cb 32 (by decide)).mp z))]
          by_cases y8 : b = 9
          · rw [if_pos (show sb b = 9 from (cb 9 (by decide)).mpr y8), if_pos (Or.inr (Or.inr y8))]
            exact same a d q e ha (by omega)
          rw [if_neg (show ¬ sb b = 9 from fun z => y8 ((cb 9 (by decide)).mp z)), if_neg (show ¬ (0 < d ∨ b = 32 ∨ b = 9) by omega)]
          have e307 : ¬ (b = 60 ∧ a = 0) → ¬ (b = 62 ∧ a = 1) → ∃ (s1 : uS) (bg1 : Nat), fb_X6_findAddresses_307 (fn_X6_findAddresses_32 n1) (nI (i + 1 + x.length)) (nI a) (nI d) e (nI i) (sb b) s = some s1 ∧ cTz s1 1062 4400 1001 (vs ++ fa x a d (decide (b = 34)) e (if a = 2 then cur else cur ++ [b])) bg1 [] ∧ bg1 ≤ bg + cur.length + (x.length + 1) ∧ 4 * (vs ++ fa x a d (decide (b = 34)) e (if a = 2 then cur else cur ++ [b])).length ≤ 4 * vs.length + cur.length + (x.length + 1) + 1 ∧ out (tI 1062) (tF 1062) s s1 := by
            intro _ _
            have e319 : ∀ qq : Bool, ∃ (s1 : uS) (bg1 : Nat), fb_X6_findAddresses_319 (fn_X6_findAddresses_32 n1) (nI (i + 1 + x.length)) (nI a) (nI d) e (nI i) (sb b) qq s = some s1 ∧ cTz s1 1062 4400 1001 (vs ++ fa x a d qq e (if a = 2 then cur else cur ++ [b])) bg1 [] ∧ bg1 ≤ bg + cur.length + (x.length + 1) ∧ 4 * (vs ++ fa x a d qq e (if a = 2 then cur else cur ++ [b])).length ≤ 4 * vs.length + cur.length + (x.length + 1) + 1 ∧ out (tI 1062) (tF 1062) s s1 := by
              intro qq
              unfold fb_X6_findAddresses_319
              by_cases w2 : a = 2
              · rw [if_pos (show nI a = 2 by rw [w2]; rfl), if_pos w2]
                exact same a d qq e ha (by omega)
              · rw [if_neg (show ¬ nI a = 2 from nI_ne (b := 2) (by omega) (by decide) w2), if_neg w2]
                obtain ⟨s2, p1, p2, p3⟩ := tz_putO uTx_fd h (by omega) hb0 (x := sb b) (by rw [sb_i8e hb0]; rfl)
                rw [p1, Option.bind_some]
                exact go a d qq e _ s2 p2 p3 ha (by omega) (by simp)
            unfold fb_X6_findAddresses_307
            by_cases w1 : b = 34
            · rw [if_pos (show sb b = 34 from (cb 34 (by decide)).mpr w1), decide_eq_true w1]; exact e319 true
            · rw [if_neg (show ¬ sb b = 34 from fun z => w1 ((cb 34 (by decide)).mp z)), decide_eq_false w1]; exact e319 false
          have e290 : ¬ (b = 60 ∧ a = 0) → ∃ (s1 : uS) (bg1 : Nat), fb_X6_findAddresses_290 (fn_X6_findAddresses_32 n1) (nI (i + 1 + x.length)) (nI a) (nI d) q e (nI i) (sb b) s = some s1 ∧ cTz s1 1062 4400 1001 (vs ++ (if b = 62 ∧ a = 1 then fa x 2 d q e cur else fa x a d (decide (b = 34)) e (if a = 2 then cur else cur ++ [b]))) bg1 [] ∧ bg1 ≤ bg + cur.length + (x.length + 1) ∧ 4 * (vs ++ (if b = 62 ∧ a = 1 then fa x 2 d q e cur else fa x a d (decide (b = 34)) e (if a = 2 then cur else cur ++ [b]))).length ≤ 4 * vs.length + cur.length + (x.length + 1) + 1 ∧ out (tI 1062) (tF 1062) s s1 := by
            intro w0
            unfold fb_X6_findAddresses_290
            by_cases w3 : b = 62
            · rw [if_pos (show sb b = 62 from (cb 62 (by decide)).mpr w3)]
              by_cases w4 : a = 1
              · rw [if_pos (show nI a = 1 by rw [w4]; rfl), if_pos ⟨w3, w4⟩]
                exact same 2 d q e (by omega) (by omega)
              · rw [if_neg (show ¬ nI a = 1 from nI_ne (b := 1) (by omega) (by decide) w4), if_neg (fun z => w4 z.2)]
                exact e307 w0 (fun z => w4 z.2)
            · rw [if_neg (show ¬ sb b = 62 from fun z => w3 ((cb 62 (by decide)).mp z)), if_neg (fun z => w3 z.1)]
              exact e307 w0 (fun z => w3 z.1)
          by_cases w5 : b = 60
          · rw [if_pos (show sb b = 60 from (cb 60 (by decide)).mpr w5)]
            by_cases w6 : a = 0
            · rw [if_pos (show nI a = 0 by rw [w6]; rfl), if_pos ⟨w5, w6⟩]
              obtain ⟨s2, p1, p2, p3⟩ := tz_dropO h
              rw [p1, Option.bind_some]
              exact go 1 d q e [] s2 p2 p3 (by omega) (by omega) (by simp)
            · rw [if_neg (show ¬ nI a = 0 from nI_ne (b := 0) (by omega) (by decide) w6), if_neg (fun z => w6 z.2)]
              exact e290 (fun z => w6 z.2)
          · rw [if_neg (show ¬ sb b = 60 from fun z => w5 ((cb 60 (by decide)).mp z)), if_neg (fun z => w5 z.1)]
            exact e290 (fun z => w5 z.1)
        have e225 : b = 40 ∨ (b = 41 ∧ 0 < d) → ∃ (s1 : uS) (bg1 : Nat), fb_X6_findAddresses_225 (fn_X6_findAddresses_32 n1) (nI (i + 1 + x.length)) (nI a) (nI d) q e (nI i) (sb b) s = some s1 ∧ cTz s1 1062 4400 1001 (vs ++ (if b = 40 then fa x a (d + 1) q e cur else fa x a (d - 1) q e cur)) bg1 [] ∧ bg1 ≤ bg + cur.length + (x.length + 1) ∧ 4 * (vs ++ (if b = 40 then fa x a (d + 1) q e cur else fa x a (d - 1) q e cur)).length ≤ 4 * vs.length + cur.length + (x.length + 1) + 1 ∧ out (tI 1062) (tF 1062) s s1 := by
          intro y4
          unfold fb_X6_findAddresses_225
          by_cases y3 : b = 40
          · rw [if_pos (show sb b = 40 from (cb 40 (by decide)).mpr y3), if_pos y3, show nI d + 1 = nI (d + 1) from nI_1 d]
            exact same a (d + 1) q e ha (by omega)
          · rw [if_neg (show ¬ sb b = 40 from fun z => y3 ((cb 40 (by decide)).mp z)), if_neg y3, nI_dec (by omega)]
            exact same a (d - 1) q e ha (by omega)
        by_cases y3 : b = 40
        · have := e225 (Or.inl y3)
          rw [if_pos y3] at this
          rw [if_pos (show sb b = 40 from (cb 40 (by decide)).mpr y3), if_pos y3]
          exact this
        rw [if_neg (show ¬ sb b = 40 from fun z => y3 ((cb 40 (by decide)).mp z)), if_neg y3]
        by_cases y4 : b = 41
        · rw [if_pos (show sb b = 41 from (cb 41 (by decide)).mpr y4)]
          by_cases y5 : 0 < d
          · have := e225 (Or.inr ⟨y4, y5⟩)
            rw [if_neg y3] at this
            rw [if_neg (nI_nle y5 (by omega)), if_pos ⟨y4, y5⟩]
            exact this
          · rw [if_pos (show nI d ≤ 0 by rw [show d = 0 by omega]; decide), if_neg (fun z => y5 z.2)]
            exact e245 y3 (fun z => y5 z.2)
        · rw [if_neg (show ¬ sb b = 41 from fun z => y4 ((cb 41 (by decide)).mp z)), if_neg (fun z => y4 z.1)]
          exact e245 y3 (fun z => y4 z.1)
      have e169 : ((q = true ∨ 0 < d) ∧ (e = true ∨ b = 92)) → ∃ (s1 : uS) (bg1 : Nat), fb_X6_findAddresses_169 (fn_X6_findAddresses_32 n1) (nI (i + 1 + x.length)) (nI a) (nI d) q e (nI i) s = some s1 ∧ cTz s1 1062 4400 1001 (vs ++ fa x a d q (!e) cur) bg1 [] ∧ bg1 ≤ bg + cur.length + (x.length + 1) ∧ 4 * (vs ++ fa x a d q (!e) cur).length ≤ 4 * vs.length + cur.length + (x.length + 1) + 1 ∧ out (tI 1062) (tF 1062) s s1 := by
        intro _
        unfold fb_X6_findAddresses_169
        cases e with
        | true => exact same a d q false ha (by omega)
        | false => exact same a d q true ha (by omega)
      by_cases v1 : q = true ∨ 0 < d
      · have hw : (q || decide (0 < d)) = true := by rw [Bool.or_eq_true, decide_eq_true_eq]; exact v1
        rw [if_pos hw]
        by_cases v2 : e = true
        · rw [if_pos v2, if_pos ⟨v1, Or.inl v2⟩]
          exact e169 ⟨v1, Or.inl v2⟩
        · rw [if_neg v2]
          by_cases v3 : b = 92
          · rw [if_pos (show sb b = 92 from (cb 92 (by decide)).mpr v3), if_pos ⟨v1, Or.inr v3⟩]
            exact e169 ⟨v1, Or.inr v3⟩
          · rw [if_neg (show ¬ sb b = 92 from fun z => v3 ((cb 92 (by decide)).mp z)), if_neg (fun z => z.2.elim v2 v3)]
            exact e184 (fun z => z.2.elim v2 v3)
      · have hw : ¬ (q || decide (0 < d)) = true := by rw [Bool.or_eq_true, decide_eq_true_eq]; exact v1
        rw [if_neg hw, if_neg (fun z => v1 z.1)]
        exact e184 (fun z => v1 z.1)
    by_cases z0 : b = 44
    · rw [if_pos (show sb b = 44 from (cb 44 (by decide)).mpr z0)]
      by_cases v1 : q = true ∨ 0 < d
      · have hw : (q || decide (0 < d)) = true := by rw [Bool.or_eq_true, decide_eq_true_eq]; exact v1
        have r := rest (fun z => v1.elim (fun y => by rw [z.2.1] at y; cases y) (fun y => by omega))
        rw [hw] at r ⊢
        rw [if_pos rfl]
        exact r
      · have hw : (q || decide (0 < d)) = false := by
          rw [← Bool.not_eq_true, Bool.or_eq_true, decide_eq_true_eq]; exact v1
        have hq : q = false := by cases q with | true => exact absurd (Or.inl rfl) v1 | false => rfl
        have hd0 : d = 0 := by
          by_cases y : 0 < d
          · exact absurd (Or.inr y) v1
          · omega
        by_cases v4 : a = 1
        · have r := rest (fun z => z.2.2.2 v4)
          rw [hw] at r ⊢
          rw [if_neg (by decide), if_pos (show nI a = 1 by rw [v4]; rfl)]
          exact r
        · rw [hw, if_neg (by decide), if_neg (show ¬ nI a = 1 from nI_ne (b := 1) (by omega) (by decide) v4), if_pos ⟨z0, hq, hd0, v4⟩]
          obtain ⟨s2, bg2, p1, p2, p3, p4⟩ := c_fa101 (K := fn_X6_findAddresses_32 n1) (x2 := nI (i + 1 + x.length)) (x4 := nI d) (x7 := nI i) (q := q) (e := e) h ha (by omega)
          have fl4 := (faF_len (a := a) (cur := cur)).1
          obtain ⟨s1, bg1, r1, r2, r3, r4, r5⟩ := ih n1 (i + 1) 0 d q e [] (vs ++ faF a cur) bg2 s2 (by omega) (fun j hj => by
            have := hxx j hj
            unfold iget uIs uOk uIn uCl at *
            rw [p4.1.1, p4.1.2.2.2.2.1, show s2.F 1059 = s.F 1059 from funext fun f => p4.2.2 _ f (by unfold tF; omega)]
            exact this) hbx p2 (by omega) (by omega) (by simp; omega) (by rw [List.length_append]; simp; omega) (by omega)
          refine ⟨s1, bg1, by rw [p1, nI_1]; exact r1, by rw [← List.append_assoc]; exact r2, by simp at r3; omega, ?_, out_t p4 r5⟩
          rw [← List.append_assoc]
          rw [List.length_append (as := vs)] at r4
          simp at r4 ⊢
          omega
    · rw [if_neg (show ¬ sb b = 44 from fun z => z0 ((cb 44 (by decide)).mp z))]
      exact rest (fun z => z0 z.1)
