/-! PUTSCRIPT, CHECKSCRIPT, where the parsers agree -/
def psI (k _f : Nat) : Prop := 6 ≤ k ∧ k < 976
def rdI (k f : Nat) : Prop := k = 1079 ∧ (f = 21 ∨ (30 ≤ f ∧ f ≤ 42) ∨ f = 61 ∨ (64 ≤ f ∧ f ≤ 67))
def rdF (k _f : Nat) : Prop := k = 1093 ∨ (1097 ≤ k ∧ k ≤ 1117)
def lnc (x : List Nat) : Nat → Nat
  | 0 => 0
  | p + 1 => lnc x p + (if x.getD p 0 = 10 then 1 else 0)
theorem lnc_le (x : List Nat) : ∀ p : Nat, lnc x p ≤ p := by
  intro p
  induction p with
  | zero => exact Nat.le_refl _
  | succ p ih => unfold lnc; split <;> omega
theorem lsO.F2 {t t1 : uS} (h : lsO t) (a : t1.F 1099 = t.F 1099) (b : t1.F 1100 = t.F 1100) : lsO t1 := fun n hn => by rw [a, b]; exact h n hn
theorem lsO.ag {ps : List (Nat × Nat)} {as : List Nat} {t r : uS} (g : lsO t) (hn : 1171 ≤ t.n) (h : agf ps as [] [] t r) (a : 1099 ∉ as) (b : 1100 ∉ as) : lsO r ∧ 1171 ≤ r.n := by
  obtain ⟨a1, -, -, -, a5⟩ := h hn
  exact ⟨g.F2 (a5 1099 (by omega) (List.not_mem_nil) (List.not_mem_nil) a).1 (a5 1100 (by omega) (List.not_mem_nil) (List.not_mem_nil) b).1, by omega⟩
theorem ls_16 : ∀ (n : Nat) (x1 x2 x3 x4 : Int32) (s : uS) (r : uS × Bool), fn_X12_isScript_16 n x1 x2 x3 x4 s = some r → lsO s → 1171 ≤ s.n → lsO r.1 ∧ 1171 ≤ r.1.n := by
  intro n
  induction n with
  | zero => intro x1 x2 x3 x4 s r h; cases h
  | succ n ih =>
    intro x1 x2 x3 x4 s r h g hn
    replace h : fb_X12_isScript_16 (fn_X12_isScript_16 n) x1 x2 x3 x4 s = some r := h
    unfold fb_X12_isScript_16 at h
    by_cases c1 : x2 ≤ x4
    · replace h := uu_pos c1 h
      obtain ⟨s3, e3, h⟩ := uu_ob h
      obtain ⟨g, hn⟩ := g.ag hn (zc_X12_tell e3) (by decide) (by decide)
      obtain ⟨s5, e5, h⟩ := uu_ob h
      obtain ⟨g, hn⟩ := g.ag hn (zc_X12_sayNumber e5) (by decide) (by decide)
      obtain ⟨s8, e8, h⟩ := uu_ob h
      obtain ⟨g, hn⟩ := g.ag hn (zc_X12_line e8) (by decide) (by decide)
      cases Option.some.inj h
      exact ⟨g, hn⟩
    · replace h := uu_neg c1 h
      obtain ⟨v10, e10, h⟩ := uu_ob h
      by_cases c2 : v10 = 10
      · exact ih _ _ _ _ _ _ (uu_pos c2 h) g hn
      · exact ih _ _ _ _ _ _ (uu_neg c2 h) g hn
theorem ls_is {x1 : Int32} {s : uS} {r : uS × Bool} (hR : ∀ q : uS × Int32, fn_X12_read s = some q → lsO q.1 ∧ 1171 ≤ q.1.n) (h : fn_X12_isScript x1 s = some r) : lsO r.1 ∧ 1171 ≤ r.1.n := by
  unfold fn_X12_isScript at h
  obtain ⟨r1, e1, h⟩ := uu_ob h
  obtain ⟨g, hn⟩ := hR r1 e1
  by_cases c : 0 ≤ r1.2
  · exact ls_16 _ _ _ _ _ _ _ (uu_pos c h) g hn
  · replace h := uu_neg c h
    cases Option.some.inj h
    exact ⟨g, hn⟩
theorem ls_120 {x1 x3 : Int32} {s : uS} {r : uS × Bool} (h : fb_X12_putScript_120 x1 x3 s = some r) (g : lsO s) (hn : 1171 ≤ s.n) : lsO r.1 ∧ 1171 ≤ r.1.n := by
  unfold fb_X12_putScript_120 at h
  obtain ⟨s1, e1, h⟩ := uu_ob h
  obtain ⟨g, hn⟩ := g.ag hn (zc_X12_saveScript e1) (by decide) (by decide)
  obtain ⟨s4, e4, h⟩ := uu_ob h
  obtain ⟨g, hn⟩ := g.ag hn (zc_X12_line e4) (by decide) (by decide)
  cases Option.some.inj h
  exact ⟨g, hn⟩
theorem ls_78 {x1 x2 xs0 : Int32} {s : uS} {r : uS × Bool} (h : fb_X12_putScript_78 x1 x2 xs0 s = some r) (g : lsO s) (hn : 1171 ≤ s.n) : lsO r.1 ∧ 1171 ≤ r.1.n := by
  unfold fb_X12_putScript_78 at h
  by_cases c1 : 0 ≤ x2
  · exact ls_120 (uu_pos c1 h) g hn
  · replace h := uu_neg c1 h
    obtain ⟨v2, e2, h⟩ := uu_ob h
    obtain ⟨s4, e4, h⟩ := uu_ob h
    obtain ⟨g, hn⟩ := g.ag hn (agf_iput (ps := []) (as := [1151]) (rs := []) (ks := []) e4 (Or.inl (by decide))) (by decide) (by decide)
    obtain ⟨v6, e6, h⟩ := uu_ob h
    obtain ⟨s8, e8, h⟩ := uu_ob h
    obtain ⟨g, hn⟩ := g.ag hn (agf_iput (ps := []) (as := [1149]) (rs := []) (ks := []) e8 (Or.inl (by decide))) (by decide) (by decide)
    obtain ⟨s10, e10, h⟩ := uu_ob h
    obtain ⟨g, hn⟩ := g.ag hn (zc_X12_nameScript e10) (by decide) (by decide)
    exact ls_120 h g hn
theorem ls_47 {x1 x2 : Int32} {s : uS} {r : uS × Bool} (h : fb_X12_putScript_47 x1 x2 s = some r) (g : lsO s) (hn : 1171 ≤ s.n) : lsO r.1 ∧ 1171 ≤ r.1.n := by
  unfold fb_X12_putScript_47 at h
  obtain ⟨r1, e1, h⟩ := uu_ob h
  obtain ⟨g, hn⟩ := g.ag hn (zc_X12_commit e1) (by decide) (by decide)
  by_cases c3 : r1.2 = true
  · replace h := uu_pos c3 h
    by_cases c4 : 0 ≤ x2
    · replace h := uu_pos c4 h
      obtain ⟨v5, e5, h⟩ := uu_ob h
      exact ls_78 h g hn
    · replace h := uu_neg c4 h
      obtain ⟨v7, e7, h⟩ := uu_ob h
      exact ls_78 h g hn
  · replace h := uu_neg c3 h
    cases Option.some.inj h
    exact ⟨g, hn⟩
theorem ls_put {x1 : Int32} {s s1 : uS} {q : uS × Int32} {r : uS × Bool} (e1 : fn_X12_source x1 1 s = some s1) (e2 : fn_X12_read s1 = some q) (g : lsO q.1) (hn : 1171 ≤ q.1.n) (h : fn_X12_putScript x1 s = some r) : lsO r.1 := by
  unfold fn_X12_putScript at h
  rw [e1, Option.bind_some] at h
  obtain ⟨r3, e3, h⟩ := uu_ob h
  obtain ⟨g, hn⟩ := ls_is (fun q' hq => by rw [e2] at hq; cases Option.some.inj hq; exact ⟨g, hn⟩) e3
  by_cases c5 : r3.2 = true
  · replace h := uu_pos c5 h
    obtain ⟨v6, e6, h⟩ := uu_ob h
    by_cases c8 : 0 ≤ v6
    · exact (ls_47 (uu_pos c8 h) g hn).1
    · replace h := uu_neg c8 h
      obtain ⟨v9, e9, h⟩ := uu_ob h
      by_cases c11 : v9 = 4
      · replace h := uu_pos c11 h
        obtain ⟨s13, e13, h⟩ := uu_ob h
        obtain ⟨g, hn⟩ := g.ag hn (zc_X12_no e13) (by decide) (by decide)
        cases Option.some.inj h
        exact g
      · exact (ls_47 (uu_neg c11 h) g hn).1
  · replace h := uu_neg c5 h
    cases Option.some.inj h
    exact g
theorem ls_chk {x1 : Int32} {s s1 : uS} {q : uS × Int32} {r : uS × Bool} (e1 : fn_X12_source x1 0 s = some s1) (e2 : fn_X12_read s1 = some q) (g : lsO q.1) (hn : 1171 ≤ q.1.n) (h : fb_X12_ordered_83 x1 1 true s = some r) : lsO r.1 := by
  unfold fb_X12_ordered_83 at h
  replace h := uu_pos rfl h
  replace h := uu_neg (by decide) h
  replace h := uu_pos rfl h
  rw [e1, Option.bind_some] at h
  obtain ⟨r6, e6, h⟩ := uu_ob h
  obtain ⟨g, hn⟩ := ls_is (fun q' hq => by rw [e2] at hq; cases Option.some.inj hq; exact ⟨g, hn⟩) e6
  by_cases c : r6.2 = true
  · replace h := uu_pos c h
    obtain ⟨s10, e10, h⟩ := uu_ob h
    obtain ⟨g, hn⟩ := g.ag hn (zc_X12_line e10) (by decide) (by decide)
    cases Option.some.inj h
    exact g
  · replace h := uu_neg c h
    cases Option.some.inj h
    exact g
/-- the parsers agree on whether a script has a fault, and on its line -/
def parseW : Prop := ∀ (s t : uS) (k fr cap : Nat) (x : List Nat), k < 1171 → ucl k = (21, cap) → cap ≤ 10000 → 976 ≤ k → rdC s k fr x → fr + x.length ≤ cap → x.length ≤ 2000 → 1171 ≤ s.n → t.I 1079 29 = nI x.length → (∀ j : Nat, j < x.length → t.F 1096 j = nI (x.getD j 0)) → lsO t → ∃ (s1 t1 : uS) (ln : Nat) (r : Int32), fn_X4_parse k (nI fr) (nI (fr + x.length)) s = some (s1, nI ln) ∧ fn_X12_read t = some (t1, r) ∧ oc psI psI psI psI s s1 ∧ s1.n = s.n ∧ s1.m = s.m ∧ ol rdI rdF rNo t t1 ∧ lsO t1 ∧ (ln = 0 ∧ r < 0 ∨ ∃ p : Nat, p ≤ x.length ∧ r = nI p ∧ ln = 1 + lnc x p)
theorem r_source {t : uS} {u p : Nat} (hu : u < 4) (hp : p < 2) {x : List Nat} (h : rPt u p t x) : fn_X12_source (nI u) (nI p) t = some (cpy (wI t 1079 29 (nI x.length)) 1096 0 0 x.length (fun j => nI (x.getD j 0))) := by
  obtain ⟨x1, x2, x3, x4⟩ := h
  unfold fn_X12_source
  simp (disch := omega) only [lit, nI_mul, nI_add, g_1164, Option.bind_some, x3]
  refine cpy0 (F := fun n i s => fn_X12_source_16 n (nI u) (nI p) i s) (fin := fun s => some s) ?_ ?_ (by show _ < 1000000; omega)
  · intro n i hi
    show fb_X12_source_16 _ _ _ (nI i) _ = _
    unfold fb_X12_source_16
    rw [cpy_I, wI_e, if_neg (nI_ge hi (by omega)), r_partText hu hp (by omega), Option.bind_some, p_1096 (by omega), Option.bind_some, nI_1, cpy_Fo (by omega), Nat.zero_add]
    rw [show (wI t 1079 29 (nI x.length)).F (1167 + u) (2000 * p + i) = nI (x.getD i 0) from x4 i hi]
  · intro n
    show fb_X12_source_16 _ _ _ (nI x.length) _ = _
    unfold fb_X12_source_16
    rw [cpy_I, wI_e, if_pos (nI_le (Nat.le_refl _) (by omega))]
theorem pMid.ps {u : Nat} (hu : u < 4) {s t s1 t1 s2 t2 : uS} (h : pMid u s t s1 t1) (hs : 1171 ≤ s1.n) (g2 : oc psI psI psI psI s1 s2) (g3 : ol scI scF rNo t1 t2) : pMid u s t s2 t2 := by
  obtain ⟨⟨dy, cm, ct, h1, h2⟩, ⟨xs, x1, x2, x3⟩, ⟨scs, ac, ⟨es, h4⟩, sl, h5⟩, h6, h7, h8⟩ := h
  have hq := qk_u hu
  obtain ⟨b1, b2, b3, b4, b5, b6, b7⟩ := g2
  obtain ⟨⟨c1, c2, c3, c4, c5⟩, c6, c7, c8⟩ := g3
  have kI : ∀ k f : Nat, k < s1.n → ¬ (6 ≤ k ∧ k < 976) → s2.I k f = s1.I k f := fun k f h n => b4 k f h n
  refine ⟨⟨dy, cm, ct, ?_, ?_⟩, ⟨xs, ?_, ?_, x3⟩, ⟨scs, ac, ⟨es, ?_⟩, sl, ?_⟩, oc_t h6 (oc_w ⟨b1, b2, b3, b4, b5, b6, b7⟩ (fun k f h => Or.inr (Or.inl h)) (fun k f h => Or.inl h) (fun k f h => Or.inl h) (fun k f h => Or.inl h)), ol_t h7 (ol_w ⟨⟨c1, c2, c3, c4, c5⟩, c6, c7, c8⟩ (fun k f h => Or.inr h) (fun k f h => Or.inl h) (fun _ _ h => h.elim)), fun k hk z => h8 k hk (z.fr (kI _ _ (by omega) (by omega)) (funext fun f => b7 _ f (by omega) (by unfold psI; omega)))⟩
  · obtain ⟨a1, a2, a3, a4, a5⟩ := h1
    exact ⟨(kI 0 _ (by omega) (by omega)).trans a1, (kI 0 _ (by omega) (by omega)).trans a2, (kI 0 _ (by omega) (by omega)).trans a3, (kI 0 _ (by omega) (by omega)).trans a4, a5⟩
  · obtain ⟨a1, a2, a3, a4, a5⟩ := h2
    exact ⟨(c6 _ _ (by unfold scI; omega)).trans a1, (c6 _ _ (by unfold scI; omega)).trans a2, (c6 _ _ (by unfold scI; omega)).trans a3, (c6 _ _ (by unfold scI; omega)).trans a4, a5⟩
  · exact x1.fr (funext fun f => kI _ f (by omega) (by omega)) (funext fun f => b5 _ f (by omega) (by unfold psI; omega))
  · exact x2.fr (funext fun f => c7 _ f (by unfold scF; omega)) (funext fun f => c7 _ f (by unfold scF; omega))
  · refine h4.fr b1 b2 (kI _ _ (by omega) (by omega)) (funext fun f => b7 _ f (by omega) (by unfold psI; omega)) (b6 _ _ (by omega) (by unfold psI; omega)) (fun i hi => ?_) (fun k hk hkn => funext fun f => b5 _ f hkn (by unfold psI; omega))
    have := (h4.2.2.2.1 i hi).2
    exact funext fun f => b6 _ f this.1 (by have := this.2.1; unfold psI; omega)
  · exact h5.fr (c7 _ _ (by unfold scF; omega)) (c7 _ _ (by unfold scF; omega)) (fun f _ _ => ⟨c7 _ _ (by unfold scF; omega), c7 _ _ (by unfold scF; omega), c7 _ _ (by unfold scF; omega)⟩) (fun f _ _ => c7 _ _ (by unfold scF; omega)) (fun f _ _ => c8 _ _ (fun z => z))
/-- the line of a fault -/
theorem q_fault {u n : Nat} (hu : u < 4) (hn : n < 100000) {s t : uS} (h : pQ1 u s t) : ∃ s1 t1 t2 t3 : uS, fn_X5_faultLine (qk u) (nI n) s = some s1 ∧ fn_X12_tell (nI u) kW_206 t = some t1 ∧ fn_X12_sayNumber (nI u) (nI n) t1 = some t2 ∧ fn_X12_line (nI u) kW_203 t2 = some t3 ∧ pQ1 u s1 t3 ∧ out (qC u) (qC u) s s1 ∧ out scI (lnF u) t t3 := by
  have hu5 : u < 5 := by omega
  obtain ⟨s1, t1, a1, a2, a3⟩ := q_text (w := kW_47) hu5 (by decide) h
  obtain ⟨s2, t2, b1, b2, b3, b4, b5⟩ := q_num hu hn a3.1
  obtain ⟨s3, t3, c1, c2, c3⟩ := q_lineP (w := kW_46) hu5 (by decide) b3
  refine ⟨s3, t1, t2, t3, ?_, a2, b2, c2, c3.1, out_t (out_t a3.2.1 b4) c3.2.1, out_t (out_t (qR_sc a3.2.2) (on_sc b5)) (qR_sc c3.2.2)⟩
  unfold fn_X5_faultLine
  rw [a1, Option.bind_some, b1, Option.bind_some, c1, Option.bind_some]
theorem r_scL {u p : Nat} (hu : u < 4) {x : List Nat} (hx : x.length ≤ 2000) (h8 : bys x) (hp : p ≤ x.length) {t : uS} (hF : ∀ j : Nat, j < x.length → t.F 1096 j = nI (x.getD j 0)) : ∀ (n i : Nat), p < i + n → i ≤ p → fn_X12_isScript_16 n (nI u) (nI p) (nI (1 + lnc x i)) (nI i) t = ((fn_X12_tell (nI u) kW_206 t).bind fun s3 => (fn_X12_sayNumber (nI u) (nI (1 + lnc x p)) s3).bind fun s5 => (fn_X12_line (nI u) kW_203 s5).bind fun s8 => some (s8, false)) := by
  intro n
  induction n with
  | zero => intro i a b; omega
  | succ n ih =>
    intro i a b
    unfold fn_X12_isScript_16 fb_X12_isScript_16
    by_cases c : p ≤ i
    · rw [if_pos (nI_le c (by omega)), show i = p by omega]
    · rw [if_neg (nI_ge (by omega) (by omega)), g_1096 (by omega), Option.bind_some, hF i (by omega), nI_1, nI_1]
      have h8' := h8 i
      have := ih (i + 1) (by omega) (by omega)
      rw [show lnc x (i + 1) = lnc x i + (if x.getD i 0 = 10 then 1 else 0) from rfl] at this
      by_cases d : x.getD i 0 = 10
      · rw [if_pos d] at this
        rw [if_pos (by rw [d]; rfl), show 1 + lnc x i + 1 = 1 + (lnc x i + 1) by omega]
        exact this
      · rw [if_neg d, Nat.add_zero] at this
        rw [if_neg (show ¬ nI (x.getD i 0) = 10 by show ¬ nI (x.getD i 0) = nI 10; rw [nI_eq (by omega) (by omega)]; exact d)]
        exact this
