/-! patterns: the reference -/
def ptW (k _f : Nat) : Prop := k = 1141 ∨ k = 1142
def bRw (t : uS) (r L : Nat) (A : Nat → Bool) : Prop := ∀ j : Nat, j ≤ L → t.F r j = bI (A j)
theorem un_0 : unar 22 0 = 0 := by decide
theorem un_1 : unar 22 1 = 1 := by decide
theorem un_b (b : Bool) : unar 22 (bI b) = bI b := by cases b <;> decide
theorem bI_z0 {b : Bool} : (bI b = 0) ↔ b = false := by cases b <;> decide
theorem r1.fr {t t1 : uS} {a : List Nat} (h : r1 t a) (o : out rNo ptW t t1) : r1 t1 a := by
  obtain ⟨h1, h2, h3, h4⟩ := h
  exact ⟨(o.2.1 _ _ (fun z => z)).trans h1, h2, h3, fun j hj => (o.2.2 _ _ (by unfold ptW; omega)).trans (h4 j hj)⟩
theorem r2.fr {t t1 : uS} {a : List Nat} (h : r2 t a) (o : out rNo ptW t t1) : r2 t1 a := by
  obtain ⟨h1, h2, h3, h4⟩ := h
  exact ⟨(o.2.1 _ _ (fun z => z)).trans h1, h2, h3, fun j hj => (o.2.2 _ _ (by unfold ptW; omega)).trans (h4 j hj)⟩
theorem up_e {c x : Nat} (hx : x = 42 ∨ x = 63 ∨ x = 92) : up c = x ↔ c = x := by unfold up; split <;> omega
theorem fl_e {f : Bool} {b : List Nat} {j x : Nat} (hx : x = 42 ∨ x = 63 ∨ x = 92) : (fl f b).getD j 0 = x ↔ b.getD j 0 = x := by
  rw [fl_get]
  split
  · exact up_e hx
  · exact Iff.rfl
theorem r_spr {f : Bool} {b : List Nat} {r : Nat} (hr : r = 1141 ∨ r = 1142) {A : Nat → Bool} : ∀ (d N p : Nat) (t : uS), p + d = b.length → d + 1 ≤ N → r2 t b → (∀ j : Nat, j ≤ p → t.F r j = bI (clo (fl f b) A j)) → (∀ j : Nat, p < j → j ≤ b.length → t.F r j = bI (A j)) → ∃ t1 : uS, fn_X12_spread_2 N r (nI p) t = some t1 ∧ bRw t1 r b.length (clo (fl f b) A) ∧ out rNo (fun k f => k = r) t t1 := by
  intro d
  induction d with
  | zero =>
    intro N p t hp hN h2 hA hB
    obtain ⟨n1, rfl⟩ : ∃ n1, N = n1 + 1 := ⟨N - 1, by omega⟩
    have hl := h2.2.1
    refine ⟨t, ?_, fun j hj => hA j (by omega), out_r⟩
    show fb_X12_spread_2 _ r (nI p) t = _
    unfold fb_X12_spread_2
    rw [h2.1, if_pos (nI_le (by omega) (by omega))]
  | succ d ih =>
    intro N p t hp hN h2 hA hB
    obtain ⟨n1, rfl⟩ : ∃ n1, N = n1 + 1 := ⟨N - 1, by omega⟩
    have hl := h2.2.1
    have hb := h2.2.2.1 p
    have gr : iget 22 t r (nI p) = some (t.F r p) := by rcases hr with z | z <;> rw [z]; exact g_1141 (by omega); exact g_1142 (by omega)
    have pr : iput 22 t r (nI (p + 1)) 1 = some (wF t r (p + 1) 1) := by rcases hr with z | z <;> rw [z]; exact (p_1141 (by omega)).trans (by rw [un_1]); exact (p_1142 (by omega)).trans (by rw [un_1])
    show ∃ t1 : uS, fb_X12_spread_2 (fn_X12_spread_2 n1) r (nI p) t = some t1 ∧ _
    unfold fb_X12_spread_2
    rw [h2.1, if_neg (nI_ge (by omega) (by omega)), gr, Option.bind_some, hA p (Nat.le_refl _), nI_1 p]
    have e1 : clo (fl f b) A (p + 1) = (A (p + 1) || (clo (fl f b) A p && decide (p < (fl f b).length ∧ (fl f b).getD p 0 = 42))) := rfl
    have keep : clo (fl f b) A (p + 1) = A (p + 1) → ∃ t1 : uS, fn_X12_spread_2 n1 r (nI (p + 1)) t = some t1 ∧ bRw t1 r b.length (clo (fl f b) A) ∧ out rNo (fun k f => k = r) t t1 := by
      intro e
      refine ih n1 (p + 1) t (by omega) (by omega) h2 (fun j hj => ?_) (fun j hj hj2 => hB j (by omega) hj2)
      by_cases z : j ≤ p
      · exact hA j z
      · rw [show j = p + 1 by omega, e]; exact hB (p + 1) (by omega) (by omega)
    by_cases z : clo (fl f b) A p = true
    · rw [if_neg (fun y => by have := bI_z0.mp y; rw [z] at this; cases this), g_1094 (by omega), Option.bind_some, h2.2.2.2 p (by omega)]
      by_cases w : b.getD p 0 = 42
      · rw [if_pos (show nI (b.getD p 0) = 42 by rw [w]; rfl), pr, Option.bind_some]
        have o1 : out rNo (fun k f => k = r) t (wF t r (p + 1) 1) := out_F out_r rfl
        have o2 : out rNo ptW t (wF t r (p + 1) 1) := out_F out_r hr
        have et : clo (fl f b) A (p + 1) = true := by rw [e1, z, decide_eq_true ⟨by rw [fl_len]; omega, (fl_e (Or.inl rfl)).mpr w⟩, Bool.and_true, Bool.or_true]
        obtain ⟨t1, q1, q2, q3⟩ := ih n1 (p + 1) (wF t r (p + 1) 1) (by omega) (by omega) (h2.fr o2) (fun j hj => by
          by_cases y : j = p + 1
          · rw [y, wF_e, et]; rfl
          · rw [wF_o (by omega)]; exact hA j (by omega)) (fun j hj hj2 => by rw [wF_o (by omega)]; exact hB j (by omega) hj2)
        exact ⟨t1, q1, q2, out_t o1 q3⟩
      · rw [if_neg (show ¬ nI (b.getD p 0) = 42 from nI_ne (b := 42) (by omega) (by decide) w)]
        refine keep ?_
        rw [e1, decide_eq_false (fun y => w ((fl_e (Or.inl rfl)).mp y.2)), Bool.and_false, Bool.or_false]
    · have zf : clo (fl f b) A p = false := by simpa using z
      rw [if_pos (bI_z0.mpr zf)]
      refine keep ?_
      rw [e1, zf, Bool.false_and, Bool.or_false]
theorem r_spread {f : Bool} {b : List Nat} {r : Nat} (hr : r = 1141 ∨ r = 1142) {A : Nat → Bool} {t : uS} (h2 : r2 t b) (h : bRw t r b.length A) : ∃ t1 : uS, fn_X12_spread r t = some t1 ∧ bRw t1 r b.length (clo (fl f b) A) ∧ out rNo (fun k f => k = r) t t1 := by
  unfold fn_X12_spread
  have hl := h2.2.1
  exact r_spr hr b.length 1000000 0 t (by omega) (by omega) h2 (fun j hj => by rw [show j = 0 by omega]; exact h 0 (Nat.zero_le _)) (fun j _ hj => h j hj)
theorem mtp_fl {f : Bool} {b : List Nat} {p x : Nat} (hp : p < b.length) : mtp (fl f b) p x = if b.getD p 0 = 63 then true else if b.getD p 0 = 92 ∧ p + 1 < b.length then decide ((fl f b).getD (p + 1) 0 = x) else decide ((fl f b).getD p 0 = x) := by
  unfold mtp esc
  by_cases z : b.getD p 0 = 63
  · rw [if_pos ((fl_e (Or.inr (Or.inl rfl))).mpr z), if_pos z]
  · rw [if_neg (fun y => z ((fl_e (Or.inr (Or.inl rfl))).mp y)), if_neg z, fl_len]
    by_cases w : b.getD p 0 = 92 ∧ p + 1 < b.length
    · rw [if_pos w, if_pos (decide_eq_true ⟨(fl_e (Or.inr (Or.inr rfl))).mpr w.1, w.2⟩)]
    · rw [if_neg w, if_neg (fun y => w (by have := of_decide_eq_true y; exact ⟨(fl_e (Or.inr (Or.inr rfl))).mp this.1, this.2⟩))]
theorem nxp_fl {f : Bool} {b : List Nat} {p : Nat} : nxp (fl f b) p = if b.getD p 0 = 92 ∧ p + 1 < b.length then p + 2 else p + 1 := by
  unfold nxp esc
  rw [fl_len]
  by_cases w : b.getD p 0 = 92 ∧ p + 1 < b.length
  · rw [if_pos w, if_pos (decide_eq_true ⟨(fl_e (Or.inr (Or.inr rfl))).mpr w.1, w.2⟩)]
  · rw [if_neg w, if_neg (fun y => w (by have := of_decide_eq_true y; exact ⟨(fl_e (Or.inr (Or.inr rfl))).mp this.1, this.2⟩))]
theorem r_esc {t : uS} {b : List Nat} {p : Nat} (h2 : r2 t b) (hp : p < b.length) : fn_X12_escapes (nI p) t = some (decide (b.getD p 0 = 92 ∧ p + 1 < b.length)) := by
  obtain ⟨b1, b2, b3, b4⟩ := h2
  have hb := b3 p
  unfold fn_X12_escapes
  rw [g_1094 (by omega), Option.bind_some, b4 p hp, b1, nI_1 p]
  by_cases z : b.getD p 0 = 92
  · rw [if_pos (show nI (b.getD p 0) = 92 by rw [z]; rfl)]
    by_cases y : p + 1 < b.length
    · rw [if_neg (nI_ge (by omega) (by omega)), decide_eq_true ⟨z, y⟩]
    · rw [if_pos (nI_le (by omega) (by omega)), decide_eq_false (fun w => y w.2)]
  · rw [if_neg (show ¬ nI (b.getD p 0) = 92 from nI_ne (b := 92) (by omega) (by decide) z), decide_eq_false (fun w => z w.1)]
theorem r_74 {f : Bool} {a b : List Nat} {i : Nat} {A : Nat → Bool} {K : Bool → Int32 → uS → Option (uS × Bool)} (hi : i < a.length) : ∀ (d N p : Nat) (t : uS), p + d = b.length → d + 1 ≤ N → r1 t a → r2 t b → bRw t 1141 b.length A → bRw t 1142 b.length (stF (fl f b) A ((fl f a).getD i 0) p) → ∃ t1 : uS, fn_X12_pattern_74 K N f (nI i) (nI p) t = fn_X12_pattern_215 K uFu f (nI i) 0 t1 ∧ bRw t1 1142 b.length (stF (fl f b) A ((fl f a).getD i 0) b.length) ∧ out rNo (fun k f => k = 1142) t t1 := by
  intro d
  induction d with
  | zero =>
    intro N p t hp hN h1 h2 hA hB
    obtain ⟨n1, rfl⟩ : ∃ n1, N = n1 + 1 := ⟨N - 1, by omega⟩
    have hl := h2.2.1
    refine ⟨t, ?_, by rw [show p = b.length by omega] at hB; exact hB, out_r⟩
    show fb_X12_pattern_74 K _ f (nI i) (nI p) t = _
    unfold fb_X12_pattern_74
    rw [h2.1, if_pos (nI_le (by omega) (by omega))]
  | succ d ih =>
    intro N p t hp hN h1 h2 hA hB
    obtain ⟨n1, rfl⟩ : ∃ n1, N = n1 + 1 := ⟨N - 1, by omega⟩
    have hl := h2.2.1
    have hb := h2.2.2.1 p
    have hpl : p < b.length := by omega
    show ∃ t1 : uS, fb_X12_pattern_74 K (fn_X12_pattern_74 K n1) f (nI i) (nI p) t = _ ∧ _
    unfold fb_X12_pattern_74
    rw [h2.1, if_neg (nI_ge (by omega) (by omega)), g_1141 (by omega), Option.bind_some, hA p (by omega), nI_1 p, g_1094 (by omega), Option.bind_some, Option.bind_some, h2.2.2.2 p (by omega)]
    have es : ∀ q : Nat, stF (fl f b) A ((fl f a).getD i 0) (p + 1) q = (stF (fl f b) A ((fl f a).getD i 0) p q || (A p && (if (fl f b).getD p 0 = 42 then decide (q = p) else (mtp (fl f b) p ((fl f a).getD i 0) && decide (q = nxp (fl f b) p))))) := fun q => rfl
    have keep : (∀ q : Nat, (A p && (if (fl f b).getD p 0 = 42 then decide (q = p) else (mtp (fl f b) p ((fl f a).getD i 0) && decide (q = nxp (fl f b) p)))) = false) → ∃ t1 : uS, fn_X12_pattern_74 K n1 f (nI i) (nI (p + 1)) t = fn_X12_pattern_215 K uFu f (nI i) 0 t1 ∧ bRw t1 1142 b.length (stF (fl f b) A ((fl f a).getD i 0) b.length) ∧ out rNo (fun k f => k = 1142) t t1 := by
      intro e
      refine ih n1 (p + 1) t (by omega) (by omega) h1 h2 hA (fun j hj => ?_)
      rw [es, e, Bool.or_false]; exact hB j hj
    have put : ∀ q0 : Nat, q0 ≤ b.length → (∀ q : Nat, (A p && (if (fl f b).getD p 0 = 42 then decide (q = p) else (mtp (fl f b) p ((fl f a).getD i 0) && decide (q = nxp (fl f b) p)))) = decide (q = q0)) → ∃ t1 : uS, ((iput 22 t 1142 (nI q0) 1).bind fun s34 => fn_X12_pattern_74 K n1 f (nI i) (nI (p + 1)) s34) = fn_X12_pattern_215 K uFu f (nI i) 0 t1 ∧ bRw t1 1142 b.length (stF (fl f b) A ((fl f a).getD i 0) b.length) ∧ out rNo (fun k f => k = 1142) t t1 := by
      intro q0 hq0 e
      rw [p_1142 (by omega), Option.bind_some, un_1]
      have o1 : out rNo (fun k f => k = 1142) t (wF t 1142 q0 1) := out_F out_r rfl
      have o2 : out rNo ptW t (wF t 1142 q0 1) := out_F out_r (Or.inr rfl)
      obtain ⟨t1, w1, w2, w3⟩ := ih n1 (p + 1) (wF t 1142 q0 1) (by omega) (by omega) (h1.fr o2) (h2.fr o2) (fun j hj => by rw [wF_r (by decide)]; exact hA j hj) (fun j hj => by
        rw [es, e]
        by_cases y : j = q0
        · rw [y, wF_e, decide_eq_true rfl, Bool.or_true]; rfl
        · rw [wF_o (by omega), decide_eq_false y, Bool.or_false]; exact hB j hj)
      exact ⟨t1, w1, w2, out_t o1 w3⟩
    by_cases z : A p = true
    · rw [if_neg (fun y => by have := bI_z0.mp y; rw [z] at this; cases this)]
      by_cases w : b.getD p 0 = 42
      · rw [if_pos (show nI (b.getD p 0) = 42 by rw [w]; rfl)]
        refine put p (by omega) (fun q => ?_)
        rw [z, if_pos ((fl_e (Or.inl rfl)).mpr w), Bool.true_and]
      · rw [if_neg (show ¬ nI (b.getD p 0) = 42 from nI_ne (b := 42) (by omega) (by decide) w)]
        have w' : ¬ (fl f b).getD p 0 = 42 := fun y => w ((fl_e (Or.inl rfl)).mp y)
        by_cases u : b.getD p 0 = 63
        · rw [if_pos (show nI (b.getD p 0) = 63 by rw [u]; rfl)]
          refine put (p + 1) (by omega) (fun q => ?_)
          rw [z, if_neg w', Bool.true_and, mtp_fl hpl, if_pos u, nxp_fl, if_neg (by omega), Bool.true_and]
        · rw [if_neg (show ¬ nI (b.getD p 0) = 63 from nI_ne (b := 63) (by omega) (by decide) u), r_esc h2 hpl, Option.bind_some, g_1093 (by have := h1.2.1; omega), Option.bind_some, h1.2.2.2 i hi]
          have ha := h1.2.2.1 i
          by_cases c : b.getD p 0 = 92 ∧ p + 1 < b.length
          · have hb1 := h2.2.2.1 (p + 1)
            rw [decide_eq_true c, if_pos rfl, g_1094 (by omega), Option.bind_some, h2.2.2.2 (p + 1) c.2, r_same ha hb1, Option.bind_some, show nI p + 2 = nI (p + 2) from nI_add p 2, ← fl_get, ← fl_get]
            by_cases m : (fl f a).getD i 0 = (fl f b).getD (p + 1) 0
            · rw [decide_eq_true m, if_pos rfl]
              refine put (p + 2) (by omega) (fun q => ?_)
              rw [z, if_neg w', Bool.true_and, mtp_fl hpl, if_neg u, if_pos c, decide_eq_true m.symm, nxp_fl, if_pos c, Bool.true_and]
            · rw [decide_eq_false m, if_neg (by decide)]
              refine keep (fun q => ?_)
              rw [z, if_neg w', Bool.true_and, mtp_fl hpl, if_neg u, if_pos c, decide_eq_false (fun y => m y.symm), Bool.false_and]
          · rw [decide_eq_false c, if_neg (by decide), Option.bind_some, Option.bind_some, r_same ha hb, Option.bind_some, ← fl_get, ← fl_get]
            by_cases m : (fl f a).getD i 0 = (fl f b).getD p 0
            · rw [decide_eq_true m, if_pos rfl]
              refine put (p + 1) (by omega) (fun q => ?_)
              rw [z, if_neg w', Bool.true_and, mtp_fl hpl, if_neg u, if_neg c, decide_eq_true m.symm, nxp_fl, if_neg c, Bool.true_and]
            · rw [decide_eq_false m, if_neg (by decide)]
              refine keep (fun q => ?_)
              rw [z, if_neg w', Bool.true_and, mtp_fl hpl, if_neg u, if_neg c, decide_eq_false (fun y => m y.symm), Bool.false_and]
    · have zf : A p = false := by simpa using z
      rw [if_pos (bI_z0.mpr zf)]
      refine keep (fun q => ?_)
      rw [zf, Bool.false_and]
theorem r_41 {f : Bool} {a b : List Nat} : ∀ (d N i : Nat) (t : uS), i + d = a.length → d + 1 ≤ N → r1 t a → r2 t b → bRw t 1141 b.length (sS (fl f b) (fl f a) i) → ∃ t1 : uS, fn_X12_pattern_41 N f (nI i) t = some (t1, sS (fl f b) (fl f a) a.length b.length) ∧ out rNo ptW t t1 := by
  intro d
  induction d with
  | zero =>
    intro N i t hi hN h1 h2 hA
    obtain ⟨n1, rfl⟩ : ∃ n1, N = n1 + 1 := ⟨N - 1, by omega⟩
    have hl := h2.2.1
    have hl1 := h1.2.1
    refine ⟨t, ?_, out_r⟩
    show fb_X12_pattern_41 _ f (nI i) t = _
    unfold fb_X12_pattern_41
    rw [h1.1, h2.1, if_pos (nI_le (by omega) (by omega)), g_1141 (by omega), Option.bind_some, hA b.length (Nat.le_refl _), show i = a.length by omega]
    cases sS (fl f b) (fl f a) a.length b.length <;> rfl
  | succ d ih =>
    intro N i t hi hN h1 h2 hA
    obtain ⟨n1, rfl⟩ : ∃ n1, N = n1 + 1 := ⟨N - 1, by omega⟩
    have hl := h2.2.1
    have hl1 := h1.2.1
    show ∃ t1 : uS, fb_X12_pattern_41 (fn_X12_pattern_41 n1) f (nI i) t = _ ∧ _
    unfold fb_X12_pattern_41
    rw [h1.1, if_neg (nI_ge (by omega) (by omega))]
    have e51 : fn_X12_pattern_51 (fn_X12_pattern_41 n1) uFu f (nI i) 0 t = fn_X12_pattern_74 (fn_X12_pattern_41 n1) uFu f (nI i) 0 (cpy t 1142 0 0 (b.length + 1) (fun _ => 0)) := by
      refine cpy0 (F := fun n x t => fn_X12_pattern_51 (fn_X12_pattern_41 n1) n f (nI i) x t) (fin := fun t => fn_X12_pattern_74 (fn_X12_pattern_41 n1) uFu f (nI i) 0 t) ?_ ?_ (by show _ < 1000000; omega)
      · intro n q hq
        show fb_X12_pattern_51 (fn_X12_pattern_41 n1) (fn_X12_pattern_51 (fn_X12_pattern_41 n1) n) f (nI i) (nI q) _ = _
        unfold fb_X12_pattern_51
        rw [cpy_I, h2.1, if_neg (nI_nlt (by omega) (by omega)), p_1142 (by omega), Option.bind_some, nI_1 q, un_0, Nat.zero_add]
      · intro n
        show fb_X12_pattern_51 (fn_X12_pattern_41 n1) (fn_X12_pattern_51 (fn_X12_pattern_41 n1) n) f (nI i) (nI (b.length + 1)) _ = _
        unfold fb_X12_pattern_51
        rw [cpy_I, h2.1, if_pos (nI_lt (by omega) (by omega))]
    have oC : out rNo ptW t (cpy t 1142 0 0 (b.length + 1) (fun _ => 0)) := out_cpy (fun _ => Or.inr rfl)
    obtain ⟨t2, w1, w2, w3⟩ := r_74 (f := f) (K := fn_X12_pattern_41 n1) (A := sS (fl f b) (fl f a) i) (i := i) (by omega) b.length 1000000 0 (cpy t 1142 0 0 (b.length + 1) (fun _ => 0)) (by omega) (by omega) (h1.fr oC) (h2.fr oC) (fun j hj => by rw [cpy_Fo (by decide)]; exact hA j hj) (fun j hj => by
      have := cpy_Fe (s := t) (K := 1142) (off := 0) (i := 0) (L := b.length + 1) (g := fun _ => 0) (Nat.zero_le j) (by omega)
      rw [Nat.zero_add] at this
      rw [this]; rfl)
    rw [e51, show fn_X12_pattern_74 (fn_X12_pattern_41 n1) uFu f (nI i) 0 (cpy t 1142 0 0 (b.length + 1) (fun _ => 0)) = _ from w1]
    have o2 : out rNo ptW t t2 := out_t oC (out_w w3 (fun _ _ z => z) (fun k f z => Or.inr z))
    have h1' := h1.fr o2
    have h2' := h2.fr o2
    have e215 : fn_X12_pattern_215 (fn_X12_pattern_41 n1) uFu f (nI i) 0 t2 = (fn_X12_spread 1141 (cpy t2 1141 0 0 (b.length + 1) (fun j => bI (stF (fl f b) (sS (fl f b) (fl f a) i) ((fl f a).getD i 0) b.length j)))).bind fun s2 => fn_X12_pattern_41 n1 f (nI (i + 1)) s2 := by
      refine cpy0 (F := fun n x t => fn_X12_pattern_215 (fn_X12_pattern_41 n1) n f (nI i) x t) (fin := fun t => (fn_X12_spread 1141 t).bind fun s2 => fn_X12_pattern_41 n1 f (nI (i + 1)) s2) ?_ ?_ (by show _ < 1000000; omega)
      · intro n q hq
        show fb_X12_pattern_215 (fn_X12_pattern_41 n1) (fn_X12_pattern_215 (fn_X12_pattern_41 n1) n) f (nI i) (nI q) _ = _
        unfold fb_X12_pattern_215
        rw [cpy_I, h2'.1, if_neg (nI_nlt (by omega) (by omega)), g_1142 (by omega), Option.bind_some, cpy_Fo (by decide), w2 q (by omega), p_1141 (by omega), Option.bind_some, nI_1 q, un_b, Nat.zero_add]
      · intro n
        show fb_X12_pattern_215 (fn_X12_pattern_41 n1) (fn_X12_pattern_215 (fn_X12_pattern_41 n1) n) f (nI i) (nI (b.length + 1)) _ = _
        unfold fb_X12_pattern_215
        rw [cpy_I, h2'.1, if_pos (nI_lt (by omega) (by omega)), nI_1 i]
    have oD : out rNo ptW t2 (cpy t2 1141 0 0 (b.length + 1) (fun j => bI (stF (fl f b) (sS (fl f b) (fl f a) i) ((fl f a).getD i 0) b.length j))) := out_cpy (fun _ => Or.inl rfl)
    have hD : bRw (cpy t2 1141 0 0 (b.length + 1) (fun j => bI (stF (fl f b) (sS (fl f b) (fl f a) i) ((fl f a).getD i 0) b.length j))) 1141 b.length (stF (fl f b) (sS (fl f b) (fl f a) i) ((fl f a).getD i 0) b.length) := fun j hj => by
      have := cpy_Fe (s := t2) (K := 1141) (off := 0) (i := 0) (L := b.length + 1) (g := fun j => bI (stF (fl f b) (sS (fl f b) (fl f a) i) ((fl f a).getD i 0) b.length j)) (Nat.zero_le j) (by omega)
      rw [Nat.zero_add] at this
      exact this
    obtain ⟨t3, y1, y2, y3⟩ := r_spread (f := f) (Or.inl rfl) (h2'.fr oD) hD
    rw [e215, y1, Option.bind_some]
    have o3 : out rNo ptW t t3 := out_t o2 (out_t oD (out_w y3 (fun _ _ z => z) (fun k f z => Or.inl z)))
    obtain ⟨t4, x1, x2⟩ := ih n1 (i + 1) t3 (by omega) (by omega) (h1.fr o3) (h2.fr o3) (fun j hj => by
      rw [y2 j hj]
      show bI (clo (fl f b) (stF (fl f b) (sS (fl f b) (fl f a) i) ((fl f a).getD i 0) b.length) j) = bI (clo (fl f b) (stF (fl f b) (sS (fl f b) (fl f a) i) ((fl f a).getD i 0) (fl f b).length) j)
      rw [fl_len])
    exact ⟨t4, x1, out_t o3 x2⟩
theorem r_pat {f : Bool} {a b : List Nat} {t : uS} (h1 : r1 t a) (h2 : r2 t b) : ∃ (t1 : uS) (v : Bool), fn_X12_pattern f t = some (t1, v) ∧ (v = true ↔ gA (fl f b) (fl f a) 0 0) ∧ out rNo ptW t t1 := by
  have hl := h2.2.1
  have hl1 := h1.2.1
  have e2 : fn_X12_pattern_2 uFu f 0 t = (fn_X12_spread 1141 (cpy t 1141 0 0 (b.length + 1) (fun j => bI (decide (j = 0))))).bind fun s2 => fn_X12_pattern_41 uFu f 0 s2 := by
    refine cpy0 (F := fun n x t => fn_X12_pattern_2 n f x t) (fin := fun t => (fn_X12_spread 1141 t).bind fun s2 => fn_X12_pattern_41 uFu f 0 s2) ?_ ?_ (by show _ < 1000000; omega)
    · intro n q hq
      show fb_X12_pattern_2 (fn_X12_pattern_2 n) f (nI q) _ = _
      unfold fb_X12_pattern_2
      rw [cpy_I, h2.1, if_neg (nI_nlt (by omega) (by omega)), nI_1 q, Nat.zero_add]
      by_cases z : q = 0
      · rw [if_pos (show nI q = 0 by rw [z]; rfl), p_1141 (by omega), Option.bind_some, un_1, decide_eq_true z]; rfl
      · rw [if_neg (show ¬ nI q = 0 from nI_ne (b := 0) (by omega) (by decide) z), p_1141 (by omega), Option.bind_some, un_0, decide_eq_false z]; rfl
    · intro n
      show fb_X12_pattern_2 (fn_X12_pattern_2 n) f (nI (b.length + 1)) _ = _
      unfold fb_X12_pattern_2
      rw [cpy_I, h2.1, if_pos (nI_lt (by omega) (by omega))]
  have oC : out rNo ptW t (cpy t 1141 0 0 (b.length + 1) (fun j => bI (decide (j = 0)))) := out_cpy (fun _ => Or.inl rfl)
  have hC : bRw (cpy t 1141 0 0 (b.length + 1) (fun j => bI (decide (j = 0)))) 1141 b.length (fun p => decide (p = 0)) := fun j hj => by
    have := cpy_Fe (s := t) (K := 1141) (off := 0) (i := 0) (L := b.length + 1) (g := fun j => bI (decide (j = 0))) (Nat.zero_le j) (by omega)
    rw [Nat.zero_add] at this
    exact this
  obtain ⟨t3, y1, y2, y3⟩ := r_spread (f := f) (Or.inl rfl) (h2.fr oC) hC
  have o3 : out rNo ptW t t3 := out_t oC (out_w y3 (fun _ _ z => z) (fun k f z => Or.inl z))
  obtain ⟨t4, x1, x2⟩ := r_41 (f := f) a.length 1000000 0 t3 (by omega) (by omega) (h1.fr o3) (h2.fr o3) y2
  refine ⟨t4, sS (fl f b) (fl f a) a.length b.length, ?_, ?_, out_t o3 x2⟩
  · unfold fn_X12_pattern
    rw [e2, y1, Option.bind_some]
    exact x1
  · have := sS_all (k := fl f b) (v := fl f a)
    rw [fl_len, fl_len] at this
    exact this
