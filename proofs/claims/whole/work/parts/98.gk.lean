/-! the store of the class: a note more -/
def cNe (s : uS) (e : Nat) (x : nT) : Prop := e < s.n ∧ 1171 ≤ e ∧ (s.c e).1 = 1 ∧ s.I e 5 = nI x.1 ∧ (∃ lb : Nat, s.R e 0 = some lb ∧ lb ≠ 0 ∧ cBn s lb x.2.1) ∧ ∃ tx : Nat, s.R e 1 = some tx ∧ cBn s tx x.2.2
theorem cNe.is {s : uS} {e : Nat} {x : nT} (h : cNe s e x) : uIs s e 1 := by
  refine ⟨Or.inr h.1, ?_⟩
  unfold uCl
  rw [if_neg (by have := h.2.1; omega)]
  exact h.2.2.1
theorem cNe.oc {PI PF PR PP : Nat → Nat → Prop} {s s1 : uS} {e : Nat} {x : nT} (h : cNe s e x) (o : oc PI PF PR PP s s1) (hI : low PI) (hF : low PF) (hR : low PR) : cNe s1 e x := by
  obtain ⟨h1, h2, h3, h4, ⟨lb, l1, l2, l3⟩, tx, t1, t2⟩ := h
  have I := o.I h1 (fun f => hI e f h2)
  have R := o.R h1 (fun f => hR e f h2)
  exact ⟨by have := o.1; omega, h2, by rw [o.2.1 e h1]; exact h3, by rw [I]; exact h4, ⟨lb, by rw [R]; exact l1, l2, l3.oc o (fun f => hF lb f l3.2.1)⟩, tx, by rw [R]; exact t1, t2.oc o (fun f => hF tx f t2.2.1)⟩
theorem cNt.of {s : uS} {u : Nat} {ns : List nT} (h1 : ns.length ≤ 40) (h2 : s.I (985 + 16 * u) 4 = nI ns.length) (h3 : ∀ i : Nat, i < ns.length → ∃ e : Nat, s.P (985 + 16 * u + 2) i = some e ∧ cNe s e (ns.getD i nt0)) : cNt s u ns := by
  refine ⟨h1, h2, fun i hi => ?_⟩
  obtain ⟨e, e1, e2, e3, e4, e5, e6, e7⟩ := h3 i hi
  exact ⟨e, e1, e2, e3, e4, e5, e6, e7⟩
theorem cNt.at {s : uS} {u i : Nat} {ns : List nT} (h : cNt s u ns) (hi : i < ns.length) : ∃ e : Nat, s.P (985 + 16 * u + 2) i = some e ∧ cNe s e (ns.getD i nt0) := by
  obtain ⟨e, e1, e2, e3, e4, e5, e6, e7⟩ := h.2.2 i hi
  exact ⟨e, e1, e2, e3, e4, e5, e6, e7⟩
theorem cNt.oc {PI PF PR PP : Nat → Nat → Prop} {s s1 : uS} {u : Nat} {ns : List nT} (h : cNt s u ns) (o : oc PI PF PR PP s s1) (hu : u < 4) (hn : 1171 ≤ s.n) (hI : low PI) (hF : low PF) (hR : low PR) (hi : ¬ PI (985 + 16 * u) 4) (hP : ∀ f : Nat, ¬ PP (985 + 16 * u + 2) f) : cNt s1 u ns := by
  refine cNt.of h.1 ((o.2.2.2.1 _ _ (by omega) hi).trans h.2.1) (fun i hi => ?_)
  obtain ⟨e, e1, e2⟩ := h.at hi
  exact ⟨e, by rw [o.P (by omega) hP]; exact e1, e2.oc o hI hF hR⟩
def naI (u k f : Nat) : Prop := k = 985 + 16 * u ∧ f = 4
def naP (u k _f : Nat) : Prop := k = 985 + 16 * u + 2
theorem low_naI {u : Nat} (hu : u < 4) : low (naI u) := fun k f h z => by unfold naI at z; omega
theorem c_add51 {s : uS} {u k1 k2 day : Nat} {ns : List nT} {snd hd : List Nat} (hu : u < 4) (hn : 1171 ≤ s.n) (hn2 : s.n + 1 ≤ 600000) (hm2 : s.m + 6 ≤ 7302250) (hN : ∀ i : Nat, i < ns.length → ∃ e : Nat, s.P (985 + 16 * u + 2) i = some e ∧ cNe s e (ns.getD i nt0)) (h4 : s.I (985 + 16 * u) 4 = nI ns.length) (hl : ns.length < 40) (hk1 : cBn s k1 snd) (hk2 : cBn s k2 hd) : ∃ s1 : uS, fb_X10_addNote_51 (985 + 16 * u) k1 k2 (nI day) s = some s1 ∧ cNt s1 u (ns ++ [(day, snd, hd)]) ∧ oc (naI u) rNo rNo (naP u) s s1 ∧ s1.n = s.n + 1 ∧ s1.m = s.m + 6 := by
  have k10 : ¬ k1 = 0 := by have := hk1.2.1; omega
  have hi0 : uIs (nw s 1 0 6) s.n 1 := uIs_nw hn
  obtain ⟨s2, hs2⟩ : ∃ s2, s2 = wI (ent (nw s 1 0 6) s.n k1 k2) s.n 5 (nI day) := ⟨_, rfl⟩
  have o2 : oc (naI u) rNo rNo (naP u) s s2 := by
    rw [hs2]
    exact oc_I (ent_o (oc_nw oc_r) (Nat.le_refl _)) (Or.inr (Nat.le_refl _))
  have n2 : s2.n = s.n + 1 ∧ s2.m = s.m + 6 := by rw [hs2]; exact ⟨rfl, rfl⟩
  have c2 : s2.c s.n = (1, 0) := by rw [hs2]; exact nw_c s 1 0 6
  have i5 : s2.I s.n 5 = nI day := by rw [hs2, wI_e]
  have r1 : s2.R s.n 1 = some k2 := by rw [hs2]; exact ent_R1 _ _ _ _
  have r0 : s2.R s.n 0 = some k1 := by rw [hs2]; exact ent_R0 _ _ _ _
  have he : cNe s2 s.n (day, snd, hd) := ⟨by omega, hn, by rw [c2], i5, ⟨k1, r0, k10, hk1.oc o2 (fun _ z => z)⟩, k2, r1, hk2.oc o2 (fun _ z => z)⟩
  have i4 : s2.I (985 + 16 * u) 4 = nI ns.length := by
    rw [hs2, wI_o (by omega)]
    show (wI (nw s 1 0 6) s.n 2 (-1)).I (985 + 16 * u) 4 = _
    rw [wI_o (by omega), nw_I, if_neg (by omega)]
    exact h4
  have p2 : ∀ f : Nat, s2.P (985 + 16 * u + 2) f = s.P (985 + 16 * u + 2) f := by
    intro f
    rw [hs2]
    show (nw s 1 0 6).P (985 + 16 * u + 2) f = _
    exact if_neg (show ¬ 985 + 16 * u + 2 = s.n by omega)
  obtain ⟨s3, hs3⟩ : ∃ s3, s3 = wI (wP s2 (985 + 16 * u + 2) ns.length (some s.n)) (985 + 16 * u) 4 (nI (ns.length + 1)) := ⟨_, rfl⟩
  have o3 : oc (naI u) rNo rNo (naP u) s2 s3 := by
    rw [hs3]
    exact oc_I (oc_P oc_r (Or.inl rfl)) (Or.inl ⟨rfl, rfl⟩)
  have o23 := oc_t o2 o3
  have p3 : ∀ f : Nat, s3.P (985 + 16 * u + 2) f = if f = ns.length then some s.n else s.P (985 + 16 * u + 2) f := by
    intro f
    rw [hs3]
    show (wP s2 (985 + 16 * u + 2) ns.length (some s.n)).P (985 + 16 * u + 2) f = _
    rw [wP_P]
    by_cases c : f = ns.length
    · rw [if_pos ⟨rfl, c⟩, if_pos c]
    · rw [if_neg (fun z => c z.2), if_neg c, p2]
  have el : (ns ++ [((day, snd, hd) : nT)]).length = ns.length + 1 := by rw [List.length_append]; rfl
  refine ⟨s3, ?_, cNt.of (by omega) ?_ (fun i hi => ?_), o23, ?_, ?_⟩
  · unfold fb_X10_addNote_51
    rw [nent_c hn2 hm2, Option.bind_some, if_pos k10, X1_c hi0, Option.bind_some]
    rw [show wR (wR (wI (nw s 1 0 6) s.n 2 (-1)) s.n 0 (some k1)) s.n 1 (some k2) = ent (nw s 1 0 6) s.n k1 k2 from rfl]
    have hi1 : uIs (ent (nw s 1 0 6) s.n k1 k2) s.n 1 := hi0
    rw [if_pos hi1, ← hs2, i4, pput_c (N := 40) (by omega) (ul_usr hu).1 hl (by decide) he.is, Option.bind_some]
    have i4' : (wP s2 (985 + 16 * u + 2) ns.length (some s.n)).I (985 + 16 * u) 4 = nI ns.length := i4
    rw [i4', nI_1, hs3]
  · rw [el, hs3, wI_e]
  · rw [el] at hi
    rw [p3]
    by_cases c : i = ns.length
    · rw [if_pos c, c, getT_end]
      exact ⟨s.n, rfl, he.oc o3 (low_naI hu) low_no low_no⟩
    · rw [if_neg c, getT_app (by omega)]
      obtain ⟨e, e1, e2⟩ := hN i (by omega)
      exact ⟨e, e1, e2.oc o23 (low_naI hu) low_no low_no⟩
  · rw [hs3]; exact n2.1
  · rw [hs3]; exact n2.2
/-- the oldest goes -/
theorem c_add12 {s0 : uS} {u k1 k2 : Nat} {x3 : Int32} (hu : u < 4) (hP : ∀ j : Nat, j < 40 → ∃ e : Nat, s0.P (985 + 16 * u + 2) j = some e ∧ uIs s0 e 1) : ∀ (d N i : Nat) (s : uS), i + d = 40 → 1 ≤ i → d + 1 ≤ N → oc rNo rNo rNo (naP u) s0 s → s.n = s0.n → s.m = s0.m → s.c = s0.c → s.I = s0.I → (∀ j : Nat, s.P (985 + 16 * u + 2) j = if j + 1 < i then s0.P (985 + 16 * u + 2) (j + 1) else s0.P (985 + 16 * u + 2) j) → ∃ s1 : uS, fn_X10_addNote_12 N (985 + 16 * u) k1 k2 x3 (nI i) s = fb_X10_addNote_51 (985 + 16 * u) k1 k2 x3 (wI s1 (985 + 16 * u) 4 ((s1.I (985 + 16 * u) 4) - 1)) ∧ oc rNo rNo rNo (naP u) s0 s1 ∧ s1.n = s0.n ∧ s1.m = s0.m ∧ s1.I = s0.I ∧ ∀ j : Nat, j < 39 → s1.P (985 + 16 * u + 2) j = s0.P (985 + 16 * u + 2) (j + 1) := by
  intro d
  induction d with
  | zero =>
    intro N i s h1 h2 h3 o hn hm hc hI hp
    obtain ⟨M, rfl⟩ : ∃ M, N = M + 1 := ⟨N - 1, by omega⟩
    refine ⟨s, ?_, o, hn, hm, hI, fun j hj => ?_⟩
    · show fb_X10_addNote_12 (fn_X10_addNote_12 M) (985 + 16 * u) k1 k2 x3 (nI i) s = _
      unfold fb_X10_addNote_12
      rw [if_pos (show (40 : Int32) ≤ nI i from nI_le (a := 40) (by omega) (by omega))]
    · rw [hp, if_pos (by omega)]
  | succ d ih =>
    intro N i s h1 h2 h3 o hn hm hc hI hp
    obtain ⟨M, rfl⟩ : ∃ M, N = M + 1 := ⟨N - 1, by omega⟩
    obtain ⟨e, e1, e2⟩ := hP i (by omega)
    have his : uIs s e 1 := by
      obtain ⟨a, b⟩ := e2
      refine ⟨a.imp id (fun z => by omega), ?_⟩
      unfold uCl at b ⊢
      rw [hc]
      exact b
    have em : nI i - 1 = nI (i - 1) := nI_sub (a := i) (b := 1) (by omega)
    obtain ⟨s2, b1, b2⟩ := ih M (i + 1) (wP s (985 + 16 * u + 2) (i - 1) (some e)) (by omega) (by omega) (by omega) (oc_P o (Or.inl rfl)) hn hm hc hI (fun j => by
      rw [wP_P]
      by_cases c : j = i - 1
      · rw [if_pos ⟨rfl, c⟩, if_pos (by omega), show j + 1 = i by omega, e1]
      · rw [if_neg (fun z => c z.2), hp]
        by_cases dd : j + 1 < i
        · rw [if_pos dd, if_pos (by omega)]
        · rw [if_neg dd, if_neg (by omega)])
    refine ⟨s2, ?_, b2⟩
    show fb_X10_addNote_12 (fn_X10_addNote_12 M) (985 + 16 * u) k1 k2 x3 (nI i) s = _
    unfold fb_X10_addNote_12
    rw [if_neg (show ¬ (40 : Int32) ≤ nI i from nI_ge (b := 40) (by omega) (by omega)), pgt_nt hu (by omega), hp, if_neg (by omega), e1, Option.bind_some, em, pput_c (N := 40) (by omega) (ul_usr hu).1 (by omega) (by decide) his, Option.bind_some, nI_1]
    exact b1
theorem c_addN {s : uS} {u k1 k2 day : Nat} {ns : List nT} {snd hd : List Nat} (hu : u < 4) (hn : 1171 ≤ s.n) (hn2 : s.n + 1 ≤ 600000) (hm2 : s.m + 6 ≤ 7302250) (hN : cNt s u ns) (hk1 : cBn s k1 snd) (hk2 : cBn s k2 hd) : ∃ s1 : uS, fn_X10_addNote (985 + 16 * u) k1 k2 (nI day) s = some s1 ∧ cNt s1 u (ntA ns (day, snd, hd)) ∧ oc (naI u) rNo rNo (naP u) s s1 ∧ s1.n = s.n + 1 ∧ s1.m = s.m + 6 := by
  have hl := hN.1
  unfold fn_X10_addNote ntA
  rw [hN.2.1]
  by_cases c : ns.length = 40
  · rw [if_pos (show nI ns.length = 40 by rw [c]; rfl), if_pos c]
    obtain ⟨s1, a1, a2, a3, a4, a5, a6⟩ := c_add12 (k1 := k1) (k2 := k2) (x3 := nI day) (s0 := s) hu (fun j hj => by
      obtain ⟨e, e1, e2⟩ := hN.at (show j < ns.length by omega)
      exact ⟨e, e1, e2.is⟩) 39 uFu 1 s (by omega) (by omega) (by decide) oc_r rfl rfl rfl rfl (fun j => by rw [if_neg (by omega)])
    have i4 : s1.I (985 + 16 * u) 4 - 1 = nI 39 := by
      rw [a5, hN.2.1, c]
      rfl
    rw [i4] at a1
    have dl : (ns.drop 1).length = 39 := by rw [List.length_drop]; omega
    have o2 : oc (naI u) rNo rNo (naP u) s (wI s1 (985 + 16 * u) 4 (nI 39)) := oc_I (oc_w a2 (fun _ _ z => z.elim) (fun _ _ z => z) (fun _ _ z => z) (fun _ _ z => z)) (Or.inl ⟨rfl, rfl⟩)
    obtain ⟨s3, b1, b2, b3, b4, b5⟩ := c_add51 (s := wI s1 (985 + 16 * u) 4 (nI 39)) (ns := ns.drop 1) (day := day) hu (by show 1171 ≤ s1.n; omega) (by show s1.n + 1 ≤ _; omega) (by show s1.m + 6 ≤ _; omega) (fun i hi => by
      rw [dl] at hi
      rw [getT_d1]
      obtain ⟨e, e1, e2⟩ := hN.at (show i + 1 < ns.length by omega)
      exact ⟨e, (a6 i hi).trans e1, e2.oc o2 (low_naI hu) low_no low_no⟩) (by rw [dl, wI_e]) (by omega) (hk1.oc o2 (fun _ z => z)) (hk2.oc o2 (fun _ z => z))
    exact ⟨s3, a1.trans b1, b2, oc_t o2 b3, by rw [b4]; show s1.n + 1 = _; omega, by rw [b5]; show s1.m + 6 = _; omega⟩
  · rw [if_neg (show ¬ nI ns.length = 40 from nI_ne (b := 40) (by omega) (by decide) c), if_neg c]
    exact c_add51 hu hn hn2 hm2 (fun i hi => hN.at hi) hN.2.1 (by omega) hk1 hk2
