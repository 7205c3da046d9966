/-! the store of the class: messages, and one more -/
theorem c_cpy9 {s : uS} {k cap : Nat} {x : List Nat} (hk : k < 1171) (hc : ucl k = (21, cap)) (hcap : cap ≤ 10000) (hF : ∀ j : Nat, j < x.length → s.F k j = sb (x.getD j 0)) (hb : bys x) (hx : x.length ≤ cap) (hn1 : 1171 ≤ s.n) (hn : s.n + 1 ≤ 600000) (hm : s.m + x.length ≤ 7302250) : ∃ s1 : uS, fn_J7_copyOf_9075b k (nI x.length) s = some (s1, s.n) ∧ s1.n = s.n + 1 ∧ s1.m = s.m + x.length ∧ cBn s1 s.n x ∧ ∀ PI PF PR PP : Nat → Nat → Prop, oc PI PF PR PP s s1 := by
  have hcl : uCl s k = (21, cap) := by rw [uCl_c hk]; exact hc
  have fin : ∀ (g : Nat → Int32), (∀ j : Nat, j < x.length → g j = sb (x.getD j 0)) → ∃ s1 : uS, some (wFs (nw s 21 x.length x.length) s.n g, s.n) = some (s1, s.n) ∧ s1.n = s.n + 1 ∧ s1.m = s.m + x.length ∧ cBn s1 s.n x ∧ ∀ PI PF PR PP : Nat → Nat → Prop, oc PI PF PR PP s s1 := by
    intro g hg
    refine ⟨_, rfl, rfl, rfl, ⟨Nat.lt_succ_self _, hn1, ?_, by omega, hb, ?_⟩, fun PI PF PR PP => oc_Fs (oc_nw oc_r) (Nat.le_refl _)⟩
    · exact if_pos rfl
    · intro i hi
      show (if s.n = s.n then g else _) i = _
      rw [if_pos rfl]
      exact hg i hi
  unfold fn_J7_copyOf_9075b
  rw [ulen_c hk hc (by decide), Option.bind_some]
  by_cases d : nI x.length = nI cap
  · rw [if_pos d]
    have hxc : x.length = cap := (nI_eq (by omega) (by omega)).mp d
    unfold nclo
    rw [if_pos ⟨⟨Or.inl hk, by rw [hcl]⟩, hn, by rw [hcl]; show s.m + cap ≤ _; omega⟩, Option.bind_some, hcl, if_pos ⟨Or.inr (Nat.lt_succ_self _), by
      show (uCl (wFs (nw s 21 cap cap) s.n (s.F k)) s.n).1 = 21
      unfold uCl
      rw [if_neg (by omega)]
      exact congrArg Prod.fst (if_pos rfl : (if s.n = s.n then (21, cap) else s.c s.n) = (21, cap))⟩]
    rw [← hxc]
    exact fin (s.F k) hF
  · rw [if_neg d]
    have hlt : x.length < cap := by
      apply Classical.byContradiction
      intro z
      exact d (by rw [show x.length = cap by omega])
    unfold nbuf
    rw [nI_clamp (by omega), if_pos ⟨nI_pos (by omega), hn, hm⟩, Option.bind_some]
    have hcn : uCl (nw s 21 x.length x.length) k = (21, cap) := by rw [uCl_c hk]; exact hc
    have hcn2 : uCl (nw s 21 x.length x.length) s.n = (21, x.length) := by
      unfold uCl
      rw [if_neg (by omega)]
      exact if_pos rfl
    rw [ulen_c hk hc (by decide), Option.bind_some, if_pos (nI_lt hlt (by omega))]
    unfold acpy
    rw [if_pos ⟨⟨Or.inl hk, by rw [hcn]⟩, ⟨Or.inr (Nat.lt_succ_self _), by rw [hcn2]⟩, by decide, by decide, nI_pos (by omega), by rw [hcn, nI_clamp (by omega)]; show 0 + x.length ≤ cap; omega, by rw [hcn2, nI_clamp (by omega)]; exact Nat.le_of_eq (Nat.zero_add _)⟩, Option.bind_some, nI_clamp (by omega)]
    apply fin
    intro j hj
    unfold va_cpy
    rw [if_pos ⟨Nat.zero_le _, by show j < 0 + x.length; omega⟩]
    show (nw s 21 x.length x.length).F k (0 + (j - 0)) = _
    rw [Nat.zero_add, Nat.sub_zero]
    exact (if_neg (show ¬ k = s.n by omega)).trans (hF j hj)
/-- a message as the class holds it -/
def cEn (s : uS) (e : Nat) (m : aM) : Prop := e < s.n ∧ 1171 ≤ e ∧ (s.c e).1 = 1 ∧ s.I e 2 = m.1 ∧ s.I e 3 = m.2.1 ∧ s.I e 4 = m.2.2.1 ∧ (∃ (tx : Nat) (x : List Nat), s.R e 1 = some tx ∧ cBn s tx x ∧ m.2.2.2.2 = x.map sb) ∧ (m.1 = -1 → ∃ (lb : Nat) (x : List Nat), s.R e 0 = some lb ∧ cBn s lb x ∧ m.2.2.2.1 = x.map sb)
theorem cEn.is {s : uS} {e : Nat} {m : aM} (h : cEn s e m) : uIs s e 1 := by
  refine ⟨Or.inr h.1, ?_⟩
  unfold uCl
  rw [if_neg (by have := h.2.1; omega)]
  exact h.2.2.1
theorem cBn.cB {s : uS} {k : Nat} {x : List Nat} (h : cBn s k x) : cB s k (x.map sb) := by
  have hl := h.2.2.2.1
  refine ⟨Or.inr h.1, by rw [h.cl, List.length_map], by rw [List.length_map]; exact hl, fun i hi => ?_⟩
  rw [List.length_map] at hi
  rw [map_sb]
  exact h.2.2.2.2.2 i hi
theorem cEn.cE {s : uS} {e : Nat} {m : aM} (h : cEn s e m) : cE s e m := by
  have his := h.is
  obtain ⟨h1, h2, h3, h4, h5, h6, ⟨tx, x, h7, h8, h9⟩, h10⟩ := h
  refine ⟨his, h4, h5, h6, ⟨tx, h7, by rw [h9]; exact h8.cB⟩, fun z => ?_⟩
  obtain ⟨lb, y, y1, y2, y3⟩ := h10 z
  exact ⟨lb, by have := y2.2.1; omega, y1, by rw [y3]; exact y2.cB⟩
/-- below 1171 only -/
def low (P : Nat → Nat → Prop) : Prop := ∀ k f : Nat, 1171 ≤ k → ¬ P k f
theorem cEn.oc {PI PF PR PP : Nat → Nat → Prop} {s s1 : uS} {e : Nat} {m : aM} (h : cEn s e m) (o : oc PI PF PR PP s s1) (hI : low PI) (hF : low PF) (hR : low PR) : cEn s1 e m := by
  obtain ⟨h1, h2, h3, h4, h5, h6, ⟨tx, x, h7, h8, h9⟩, h10⟩ := h
  have I := o.I h1 (fun f => hI e f h2)
  have R := o.R h1 (fun f => hR e f h2)
  refine ⟨by have := o.1; omega, h2, by rw [o.2.1 e h1]; exact h3, by rw [I]; exact h4, by rw [I]; exact h5, by rw [I]; exact h6, ⟨tx, x, by rw [R]; exact h7, h8.oc o (fun f => hF tx f h8.2.1), h9⟩, fun z => ?_⟩
  obtain ⟨lb, y, y1, y2, y3⟩ := h10 z
  exact ⟨lb, y, by rw [R]; exact y1, y2.oc o (fun f => hF lb f y2.2.1), y3⟩
def cMl (s : uS) (ms : List aM) (p : Nat) : Prop := ms.length ≤ 400 ∧ s.I 0 10 = nI ms.length ∧ s.I 0 11 = nI (oN ms) ∧ s.I 0 12 = nI p ∧ ∀ i : Nat, i < ms.length → ∃ e : Nat, s.P 5 i = some e ∧ cEn s e (ms.getD i aM0)
theorem cMl.cM {s : uS} {ms : List aM} {p : Nat} (h : cMl s ms p) : cM s ms := by
  refine ⟨h.1, h.2.1, fun i hi => ?_⟩
  obtain ⟨e, e1, e2⟩ := h.2.2.2.2 i hi
  exact ⟨e, e1, e2.cE⟩
theorem cMl.oc {PI PF PR PP : Nat → Nat → Prop} {s s1 : uS} {ms : List aM} {p : Nat} (h : cMl s ms p) (o : oc PI PF PR PP s s1) (hn : 1171 ≤ s.n) (hI : low PI) (hF : low PF) (hR : low PR) (i10 : ¬ PI 0 10) (i11 : ¬ PI 0 11) (i12 : ¬ PI 0 12) (hP : ∀ f : Nat, ¬ PP 5 f) : cMl s1 ms p := by
  obtain ⟨h1, h2, h3, h4, h5⟩ := h
  refine ⟨h1, (o.2.2.2.1 _ _ (by omega) i10).trans h2, (o.2.2.2.1 _ _ (by omega) i11).trans h3, (o.2.2.2.1 _ _ (by omega) i12).trans h4, fun i hi => ?_⟩
  obtain ⟨e, e1, e2⟩ := h5 i hi
  exact ⟨e, by rw [o.P (by omega) hP]; exact e1, e2.oc o hI hF hR⟩
def smI (k f : Nat) : Prop := k = 0 ∧ (f = 10 ∨ f = 11 ∨ f = 12)
def smP (k _f : Nat) : Prop := k = 5
theorem low_smI : low smI := fun k f h z => by unfold smI at z; omega
theorem low_no : low rNo := fun _ _ _ z => z
/-- a message more -/
theorem c_storeM {s : uS} {e p : Nat} {ms : List aM} {m : aM} (h : cMl s ms p) (hn : 1171 ≤ s.n) (hl : ms.length < 400) (he : cEn s e m) (hi : inB (-1) 0 m = decide (m.1 = -1)) : ∃ s1 : uS, fn_X11_storeMail (some e) s = some s1 ∧ cMl s1 (ms ++ [m]) (p + m.2.2.2.2.length) ∧ oc smI rNo rNo smP s s1 ∧ s1.n = s.n ∧ s1.m = s.m := by
  obtain ⟨h1, h2, h3, h4, h5⟩ := h
  have he0 := he
  obtain ⟨g1, g2, g3, g4, g5, g6, ⟨tx, x, g7, g8, g9⟩, g10⟩ := he
  have xl : m.2.2.2.2.length = x.length := by rw [g9, List.length_map]
  have his := he0.is
  unfold fn_X11_storeMail
  dsimp only
  rw [ulen_c (t := 27) (N := 400) (by decide) (by decide) (by decide), Option.bind_some, h2, if_neg (nI_ge hl (by decide)), pput_c (N := 400) (by decide) (by decide) hl (by decide) his, Option.bind_some]
  obtain ⟨s2, hs2⟩ : ∃ s2, s2 = wI (wP s 5 ms.length (some e)) 0 10 (nI (ms.length + 1)) := ⟨_, rfl⟩
  have i0 : (wP s 5 ms.length (some e)).I 0 10 = nI ms.length := h2
  rw [i0, nI_1, ← hs2]
  have o2 : oc smI rNo rNo smP s s2 := by
    rw [hs2]
    exact oc_I (oc_P oc_r (Or.inl rfl)) (Or.inl ⟨rfl, Or.inl rfl⟩)
  have n2 : s2.n = s.n ∧ s2.m = s.m := by rw [hs2]; exact ⟨rfl, rfl⟩
  have e2 : cEn s2 e m := he0.oc o2 low_smI low_no low_no
  have c10 : s2.I 0 10 = nI (ms.length + 1) := by rw [hs2, wI_e]
  have c11 : s2.I 0 11 = nI (oN ms) := by rw [hs2, wI_o (by omega)]; exact h3
  have c12 : s2.I 0 12 = nI p := by rw [hs2, wI_o (by omega)]; exact h4
  have p5 : ∀ i : Nat, s2.P 5 i = if i = ms.length then some e else s.P 5 i := by
    intro i
    rw [hs2]
    show (wP s 5 ms.length (some e)).P 5 i = _
    rw [wP_P]
    by_cases c : i = ms.length
    · rw [if_pos ⟨rfl, c⟩, if_pos c]
    · rw [if_neg (fun z => c z.2), if_neg c]
  obtain ⟨k1, k2, k3, k4, k5, k6, ⟨tx', x', k7, k8, k9⟩, k10⟩ := e2
  have xl' : x'.length = m.2.2.2.2.length := by rw [k9, List.length_map]
  have his2 : uIs s2 e 1 := uIs_oc o2 g1 g2 g3
  rw [if_pos his2, k7, Option.bind_some, k8.len, Option.bind_some, c12, nI_add, xl']
  have his3 : uIs (wI s2 0 12 (nI (p + m.2.2.2.2.length))) e 1 := his2
  rw [if_pos his3]
  have j2 : (wI s2 0 12 (nI (p + m.2.2.2.2.length))).I e 2 = m.1 := by rw [wI_o (by omega)]; exact k4
  have j11 : (wI s2 0 12 (nI (p + m.2.2.2.2.length))).I 0 11 = nI (oN ms) := by rw [wI_o (by omega)]; exact c11
  rw [j2]
  have el : (ms ++ [m]).length = ms.length + 1 := by rw [List.length_append]; rfl
  have eo : oN (ms ++ [m]) = oN ms + if inB (-1) 0 m = true then 1 else 0 := by
    unfold oN
    rw [List.countP_append, List.countP_cons, List.countP_nil, Nat.zero_add]
  have fin : ∀ s3 : uS, oc smI rNo rNo smP s2 s3 → s3.n = s2.n → s3.m = s2.m → s3.P = s2.P → s3.I 0 10 = nI (ms.length + 1) → s3.I 0 11 = nI (oN (ms ++ [m])) → s3.I 0 12 = nI (p + m.2.2.2.2.length) → cMl s3 (ms ++ [m]) (p + m.2.2.2.2.length) ∧ oc smI rNo rNo smP s s3 ∧ s3.n = s.n ∧ s3.m = s.m := by
    intro s3 o3 q1 q2 q3 q4 q5 q6
    have o23 := oc_t o2 o3
    refine ⟨⟨by omega, by rw [el]; exact q4, q5, q6, fun i hi => ?_⟩, o23, q1.trans n2.1, q2.trans n2.2⟩
    rw [el] at hi
    rw [q3, p5]
    by_cases c : i = ms.length
    · rw [if_pos c, c, getM_end]
      exact ⟨e, rfl, he0.oc o23 low_smI low_no low_no⟩
    · rw [if_neg c, getM_app (by omega)]
      obtain ⟨e', f1, f2⟩ := h5 i (by omega)
      exact ⟨e', f1, f2.oc o23 low_smI low_no low_no⟩
  have oo : oc smI rNo rNo smP s2 (wI s2 0 12 (nI (p + m.2.2.2.2.length))) := oc_I oc_r (Or.inl ⟨rfl, Or.inr (Or.inr rfl)⟩)
  by_cases c : m.1 = -1
  · rw [if_pos c, j11, nI_1]
    refine ⟨_, rfl, fin _ (oc_I oo (Or.inl ⟨rfl, Or.inr (Or.inl rfl)⟩)) rfl rfl rfl ?_ ?_ ?_⟩
    · rw [wI_o (by omega), wI_o (by omega)]; exact c10
    · rw [wI_e, eo, hi, decide_eq_true c, if_pos rfl]
    · rw [wI_o (by omega), wI_e]
  · rw [if_neg c]
    refine ⟨_, rfl, fin _ oo rfl rfl rfl ?_ ?_ ?_⟩
    · rw [wI_o (by omega)]; exact c10
    · rw [j11, eo, hi, decide_eq_false c, if_neg (by decide)]; rfl
    · rw [wI_e]
