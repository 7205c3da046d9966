/-! the header of a message: the class's loop -/
theorem c_v84 {s : uS} {tx : List Nat} (h : cTxt s tx) {a e x4 : Nat} (he : e ≤ tx.length) : ∀ (d N c : Nat), c + d = e → d + 1 ≤ N → fn_X6_valueStart_84 N (nI a) (nI e) (nI x4) (nI c) s = fb_X6_valueStart_106 (nI a) (nI e) (nI x4) (nI (blE tx e d c)) s := by
  obtain ⟨h1, h2, h3⟩ := h
  intro d
  induction d with
  | zero =>
    intro N c hd hN
    obtain ⟨M, rfl⟩ : ∃ M, N = M + 1 := ⟨N - 1, by omega⟩
    show fb_X6_valueStart_84 (fn_X6_valueStart_84 M) (nI a) (nI e) (nI x4) (nI c) s = _
    unfold fb_X6_valueStart_84
    rw [if_pos (nI_le (by omega) (by omega))]
    rfl
  | succ d ih =>
    intro N c hd hN
    obtain ⟨M, rfl⟩ : ∃ M, N = M + 1 := ⟨N - 1, by omega⟩
    show fb_X6_valueStart_84 (fn_X6_valueStart_84 M) (nI a) (nI e) (nI x4) (nI c) s = _
    unfold fb_X6_valueStart_84 blE
    rw [if_neg (nI_ge (by omega) (by omega)), if_neg (show ¬ e ≤ c by omega), g_1051 (by omega), Option.bind_some, h3 c (by omega), iBl_s (h2 c), Option.bind_some, nI_1]
    cases isBl (tx.getD c 0) with
    | false => rw [if_neg (by decide), if_neg (by decide)]
    | true => rw [if_pos rfl, if_pos rfl]; exact ih M (c + 1) (by omega) (by omega)
theorem c_v41 {s : uS} {tx : List Nat} (h : cTxt s tx) {a e : Nat} (he : e ≤ tx.length) : ∀ (d N c : Nat), c + d = e → d + 1 ≤ N → fn_X6_valueStart_41 N (nI a) (nI e) (nI c) s = fn_X6_valueStart_84 uFu (nI a) (nI e) (nI (nmE tx e d c)) (nI (nmE tx e d c)) s := by
  obtain ⟨h1, h2, h3⟩ := h
  intro d
  induction d with
  | zero =>
    intro N c hd hN
    obtain ⟨M, rfl⟩ : ∃ M, N = M + 1 := ⟨N - 1, by omega⟩
    show fb_X6_valueStart_41 (fn_X6_valueStart_41 M) (nI a) (nI e) (nI c) s = _
    unfold fb_X6_valueStart_41
    rw [if_pos (nI_le (by omega) (by omega))]
    rfl
  | succ d ih =>
    intro N c hd hN
    obtain ⟨M, rfl⟩ : ∃ M, N = M + 1 := ⟨N - 1, by omega⟩
    have hb := h2 c
    show fb_X6_valueStart_41 (fn_X6_valueStart_41 M) (nI a) (nI e) (nI c) s = _
    unfold fb_X6_valueStart_41 nmE
    rw [if_neg (nI_ge (by omega) (by omega)), if_neg (show ¬ e ≤ c by omega), g_1051 (by omega), Option.bind_some, h3 c (by omega), Option.bind_some, Option.bind_some, nI_1]
    have e1 : sb (tx.getD c 0) ≤ 32 ↔ (tx.getD c 0 ≤ 32 ∨ 128 ≤ tx.getD c 0) := sb_le (c := 32) hb (by decide)
    have e2 : (127 : Int32) ≤ sb (tx.getD c 0) ↔ (127 ≤ tx.getD c 0 ∧ tx.getD c 0 < 128) := le_sb (c := 127) hb (by decide)
    have e3 : sb (tx.getD c 0) = 58 ↔ tx.getD c 0 = 58 := sb_e (c := 58) hb (by decide)
    by_cases k : nch (tx.getD c 0) = true
    · have k' := of_decide_eq_true k
      rw [if_neg (fun z => by have := e1.mp z; omega), if_neg (fun z => by have := e2.mp z; omega), if_neg (fun z => by have := e3.mp z; omega), if_pos k]
      exact ih M (c + 1) (by omega) (by omega)
    · have k' : ¬ (32 < tx.getD c 0 ∧ tx.getD c 0 < 127 ∧ tx.getD c 0 ≠ 58) := fun z => k (decide_eq_true z)
      rw [if_neg k]
      by_cases x1 : sb (tx.getD c 0) ≤ 32
      · rw [if_pos x1]
      · rw [if_neg x1]
        by_cases x2 : (127 : Int32) ≤ sb (tx.getD c 0)
        · rw [if_pos x2]
        · rw [if_neg x2, if_pos (e3.mpr ?_)]
          apply Classical.byContradiction
          intro x3
          apply k'
          have y1 : ¬ (tx.getD c 0 ≤ 32 ∨ 128 ≤ tx.getD c 0) := fun z => x1 (e1.mpr z)
          have y2 : ¬ (127 ≤ tx.getD c 0 ∧ tx.getD c 0 < 128) := fun z => x2 (e2.mpr z)
          omega
/-- a line that begins a field, or does not -/
theorem c_vst {s : uS} {tx : List Nat} (h : cTxt s tx) {a e : Nat} (ha : a ≤ e) (he : e ≤ tx.length) : fn_X6_valueStart_41 uFu (nI a) (nI e) (nI a) s = if fldB tx a e = true then (if (s.I 1054 3) ≤ 0 then (fb_X6_valueStart_155 (nI a) (nI (fldN tx a e)) (nI (fldC tx a e)) s) else ((fn_X9_closeTrimmed 1058 s).bind fun s8 => fb_X6_valueStart_155 (nI a) (nI (fldN tx a e)) (nI (fldC tx a e)) s8)) else some (s, -1) := by
  have hl := h.1
  have g := fld_ge (tx := tx) ha
  rw [c_v41 h he (e - a) uFu a (by omega) (by show _ ≤ 1000000; omega)]
  rw [show nmE tx e (e - a) a = fldN tx a e from rfl, c_v84 h he (e - fldN tx a e) uFu (fldN tx a e) (by omega) (by show _ ≤ 1000000; omega), show blE tx e (e - fldN tx a e) (fldN tx a e) = fldC tx a e from rfl]
  unfold fb_X6_valueStart_106 fldB
  by_cases c1 : fldN tx a e = a
  · rw [if_pos (by rw [c1]), decide_eq_false (fun z => z.1 c1), if_neg (by decide)]
  · rw [if_neg (nI_ne (by omega) (by omega) c1), nI_sub g.1]
    by_cases c2 : 60 < fldN tx a e - a
    · rw [if_pos (show (60 : Int32) < nI (fldN tx a e - a) from nI_lt (a := 60) c2 (by omega)), decide_eq_false (fun z => by omega), if_neg (by decide)]
    · rw [if_neg (show ¬ (60 : Int32) < nI (fldN tx a e - a) from nI_nlt (a := 60) (by omega) (by decide))]
      by_cases c3 : e ≤ fldC tx a e
      · rw [if_pos (nI_le c3 (by omega)), decide_eq_false (fun z => by omega), if_neg (by decide)]
      · rw [if_neg (nI_ge (by omega) (by omega)), g_1051 (by omega), Option.bind_some, h.2.2 _ (by omega)]
        have e3 : sb (tx.getD (fldC tx a e) 0) = 58 ↔ tx.getD (fldC tx a e) 0 = 58 := sb_e (c := 58) (h.2.1 _) (by decide)
        by_cases c4 : tx.getD (fldC tx a e) 0 = 58
        · rw [if_pos (e3.mpr c4), decide_eq_true ⟨c1, by omega, by omega, c4⟩, if_pos rfl]
        · rw [if_neg (fun z => c4 (e3.mp z)), decide_eq_false (fun z => c4 z.2.2.2), if_neg (by decide)]
/-- how much of the message the fields may take -/
def hdO (dn : List (List Nat × List Nat)) (p : Option (List Nat × List Nat)) (bn bv a : Nat) : Prop := bn ≤ a ∧ bv + (pnV p).length ≤ a ∧ tot dn + (match p with | none => 0 | some q => q.2.length + 4) ≤ a ∧ (p = none → dn = [])
theorem tot_app (a b : List (List Nat × List Nat)) : tot (a ++ b) = tot a + tot b := by
  induction a with
  | nil => show tot b = 0 + tot b; omega
  | cons x a ih => show x.2.length + 4 + tot (a ++ b) = x.2.length + 4 + tot a + tot b; omega
def crE (tx : List Nat) : Prop := tx = [] ∨ (2 ≤ tx.length ∧ tx.getD (tx.length - 2) 0 = 13 ∧ tx.getD (tx.length - 1) 0 = 10)
theorem crE_at {tx : List Nat} (hE : crE tx) {a : Nat} (ha : a + 2 ≤ tx.length) : lE tx a + 1 < tx.length ∧ tx.getD (lE tx a) 0 = 13 ∧ tx.getD (lE tx a + 1) 0 = 10 ∧ (lE tx a + 2 < tx.length → lE tx a + 2 + 2 ≤ tx.length) := by
  cases hE with
  | inl h => subst h; exact absurd ha (by show ¬ a + 2 ≤ 0; omega)
  | inr h =>
    obtain ⟨h1, h2, h3⟩ := h
    have h3' : tx.getD (tx.length - 2 + 1) 0 = 10 := by rw [show tx.length - 2 + 1 = tx.length - 1 by omega]; exact h3
    have h0 : lE tx a + 1 < tx.length ∧ tx.getD (lE tx a) 0 = 13 ∧ tx.getD (lE tx a + 1) 0 = 10 := lnE_at (tx.length - a) a (tx.length - 2) (by omega) (by omega) h2 h3' (by omega)
    refine ⟨h0.1, h0.2.1, h0.2.2, fun z => ?_⟩
    apply Classical.byContradiction
    intro y
    have : tx.length - 2 = lE tx a + 1 := by omega
    rw [this, h0.2.2] at h2
    exact absurd h2 (by decide)
theorem c_hdL {tx : List Nat} (hE : crE tx) : ∀ (n N a : Nat) (s : uS) (dn : List (List Nat × List Nat)) (p : Option (List Nat × List Nat)) (bn bv : Nat), tx.length ≤ a + n → n + 1 ≤ N → a ≤ tx.length + 2 → (a < tx.length → a + 2 ≤ tx.length) → cTxt s tx → cHd s dn p bn bv → hdO dn p bn bv (min a tx.length) → ∃ s1 : uS, fn_X6_readHeader_38 N (nI tx.length) (nI a) s = some s1 ∧ cFl s1 (dn ++ hdL tx n a p) ∧ out hI hF s s1 := by
  intro n
  induction n with
  | zero =>
    intro N a s dn p bn bv h1 h2 ha hA ht hc ho
    obtain ⟨M, rfl⟩ : ∃ M, N = M + 1 := ⟨N - 1, by omega⟩
    have hl := ht.1
    obtain ⟨o1, o2, o3, o4⟩ := ho
    have htl := tot_len dn
    obtain ⟨s1, a1, a2, a3⟩ := c_90 hc (by omega) o4
    refine ⟨s1, ?_, a2, a3⟩
    show fb_X6_readHeader_38 (fn_X6_readHeader_38 M) (nI tx.length) (nI a) s = _
    unfold fb_X6_readHeader_38
    rw [if_pos (nI_le (by omega) (by omega))]
    exact a1
  | succ n ih =>
    intro N a s dn p bn bv h1 h2 ha hA ht hc ho
    obtain ⟨M, rfl⟩ : ∃ M, N = M + 1 := ⟨N - 1, by omega⟩
    have hl := ht.1
    have ho' := ho
    obtain ⟨o1, o2, o3, o4⟩ := ho
    have htl := tot_len dn
    show ∃ s1 : uS, fb_X6_readHeader_38 (fn_X6_readHeader_38 M) (nI tx.length) (nI a) s = some s1 ∧ _
    unfold fb_X6_readHeader_38 hdL
    by_cases c : tx.length ≤ a
    · rw [if_pos (nI_le c (by omega)), if_pos c]
      exact c_90 hc (by omega) o4
    · rw [if_neg (nI_ge (by omega) (by omega)), if_neg c, c_lineE ht (by omega), Option.bind_some]
      have hle := lnE_ge (tx := tx) (tx.length - a) a (by omega)
      have hle' : a ≤ lE tx a ∧ lE tx a ≤ tx.length := hle
      obtain ⟨hq1, hq2, hq3, hq4⟩ := crE_at hE (hA (by omega))
      rw [show min a tx.length = a by omega] at o1 o2 o3
      have hrd := ht.rd
      have hucl : ∀ sx : uS, (uCl sx 1051).2 ≤ 10000 := fun sx => by rw [uCl_c (by decide)]; decide
      have hx0 : 0 < tx.length := by omega
      have e2 : nI (lE tx a) + 2 = nI (lE tx a + 2) := nI_add (lE tx a) 2
      -- a range goes to the value
      have put : ∀ (sx : uS) (dx : List (List Nat × List Nat)) (nm v : List Nat) (bx bw b : Nat), cTxt sx tx → cHd sx dx (some (nm, v)) bx bw → b ≤ lE tx a → bw + v.length + (lE tx a - b) ≤ 4400 → ∃ s7 : uS, fn_X9_putRange 1058 1051 (nI b) (nI (lE tx a)) sx = some s7 ∧ cHd s7 dx (some (nm, v ++ sub tx b (lE tx a))) bx bw ∧ out hI hF sx s7 := by
        intro sx dx nm v bx bw b hxt hxc hb hfit
        obtain ⟨s7, f1, f2, f3⟩ := tz_range (fr := 0) (k := 1051) (a := b) (b := lE tx a) uTx_vl hxc.2 hxt.rd (hucl sx) (by decide) hx0 hb hle'.2 hfit
        rw [Nat.zero_add, Nat.zero_add] at f1
        exact ⟨s7, f1, ⟨hxc.1.o (out_tx f3) (fun _ => by unfold tI; omega) (fun _ => by unfold tF; omega) (fun _ => by unfold tF; omega) (fun _ => by unfold tF; omega), f2⟩, hT2 (out_tx f3)⟩
      by_cases cb : a < lE tx a ∧ isBl (tx.getD a 0) = true
      · rw [if_pos cb]
        have hv : fn_X6_valueStart (nI a) (nI (lE tx a)) s = if (s.I 1054 3) ≤ 0 then some (s, (-1 : Int32)) else some (s, nI a) := by
          unfold fn_X6_valueStart
          rw [if_neg (nI_ge cb.1 (by omega)), g_1051 (by omega), Option.bind_some, ht.2.2 a (by omega), iBl_s (ht.2.1 a), Option.bind_some, if_pos cb.2]
        rw [hv, hc.cnt]
        cases p with
        | none =>
          have hd := o4 rfl
          subst hd
          rw [if_pos (show nI ([].length + (pnN none).length) ≤ 0 by decide), Option.bind_some]
          dsimp only
          rw [if_neg (show ¬ (0 : Int32) ≤ -1 by decide)]
          exact c_90 hc (by decide) o4
        | some q =>
          rw [if_neg (nI_nle (by show 0 < dn.length + 1; omega) (by show dn.length + 1 < 2 ^ 31; omega)), Option.bind_some, if_pos (nI_pos' (by omega))]
          dsimp only
          have o2' : bv + q.2.length ≤ a := o2
          have o3' : tot dn + (q.2.length + 4) ≤ a := o3
          obtain ⟨s7, f1, f2, f3⟩ := put s dn q.1 q.2 bn bv a ht hc (by omega) (by omega)
          rw [f1, Option.bind_some, e2]
          have hsl : (sub tx a (lE tx a)).length = lE tx a - a := sub_len hle'.2 (by omega)
          obtain ⟨s8, g1, g2, g3⟩ := ih M (lE tx a + 2) s7 dn (some (q.1, q.2 ++ sub tx a (lE tx a))) bn bv (by omega) (by omega) (by omega) hq4 (ht.h f3) f2 ⟨by omega, by show bv + (q.2 ++ sub tx a (lE tx a)).length ≤ _; rw [List.length_append, hsl]; omega, by show tot dn + ((q.2 ++ sub tx a (lE tx a)).length + 4) ≤ _; rw [List.length_append, hsl]; omega, fun z => by cases z⟩
          exact ⟨s8, g1, g2, out_t f3 g3⟩
      · rw [if_neg cb]
        have hv : fn_X6_valueStart (nI a) (nI (lE tx a)) s = fn_X6_valueStart_41 uFu (nI a) (nI (lE tx a)) (nI a) s := by
          unfold fn_X6_valueStart
          by_cases z : a < lE tx a
          · rw [if_neg (nI_ge z (by omega)), g_1051 (by omega), Option.bind_some, ht.2.2 a (by omega), iBl_s (ht.2.1 a), Option.bind_some, if_neg (fun y => cb ⟨z, y⟩)]
          · rw [if_pos (nI_le (by omega) (by omega))]
        rw [hv, c_vst ht hle'.1 hle'.2]
        by_cases cf : fldB tx a (lE tx a) = true
        · rw [if_pos cf, if_pos cf]
          have g := fld_ge (tx := tx) hle'.1
          have cf' := of_decide_eq_true cf
          have hnl : (sub tx a (fldN tx a (lE tx a))).length = fldN tx a (lE tx a) - a := sub_len (by omega) g.1
          have hvl : (sub tx (fldC tx a (lE tx a) + 1) (lE tx a)).length = lE tx a - (fldC tx a (lE tx a) + 1) := sub_len hle'.2 (by omega)
          have e155 : ∀ (sx : uS) (dx : List (List Nat × List Nat)) (bw : Nat), cTxt sx tx → cHd sx dx none bn bw → dx.length < 1001 → ∃ s8 : uS, fb_X6_valueStart_155 (nI a) (nI (fldN tx a (lE tx a))) (nI (fldC tx a (lE tx a))) sx = some (s8, nI (fldC tx a (lE tx a) + 1)) ∧ cHd s8 dx (some (sub tx a (fldN tx a (lE tx a)), [])) (bn + (fldN tx a (lE tx a) - a)) bw ∧ out hI hF sx s8 := by
            intro sx dx bw hxt hxc hdx
            have hxc1 : cTz sx 1054 4400 1001 (dx.map Prod.fst ++ []) bn [] := hxc.1
            rw [List.append_nil] at hxc1
            obtain ⟨s5, f1, f2, f3⟩ := tz_range (fr := 0) (k := 1051) (a := a) (b := fldN tx a (lE tx a)) uTx_nm hxc1 hxt.rd (hucl sx) (by decide) hx0 g.1 (by omega) (by show bn + 0 + _ ≤ _; omega)
            rw [Nat.zero_add, Nat.zero_add] at f1
            rw [List.nil_append] at f2
            obtain ⟨s6, g1, g2, g3⟩ := tz_closeO uTx_nm f2 (by rw [List.length_map]; exact hdx)
            rw [hnl] at g2
            refine ⟨s6, ?_, ⟨g2, (hxc.2.o (out_tx f3) (fun _ => by unfold tI; omega) (fun _ => by unfold tF; omega) (fun _ => by unfold tF; omega) (fun _ => by unfold tF; omega)).o g3 (fun _ => by unfold tI; omega) (fun _ => by unfold tF; omega) (fun _ => by unfold tF; omega) (fun _ => by unfold tF; omega)⟩, out_t (hT1 (out_tx f3)) (hT1 g3)⟩
            unfold fb_X6_valueStart_155
            rw [f1, Option.bind_some, g1, Option.bind_some, nI_1]
          have fin : ∀ (s8 : uS) (dx : List (List Nat × List Nat)) (bw : Nat), out hI hF s s8 → cHd s8 dx (some (sub tx a (fldN tx a (lE tx a)), [])) (bn + (fldN tx a (lE tx a) - a)) bw → bw ≤ a → tot dx ≤ a → dx = dn ++ flP p → ∃ s1 : uS, ((fn_X9_putRange 1058 1051 (nI (fldC tx a (lE tx a) + 1)) (nI (lE tx a)) s8).bind fun s7 => fn_X6_readHeader_38 M (nI tx.length) (nI (lE tx a) + 2) s7) = some s1 ∧ cFl s1 (dn ++ (flP p ++ hdL tx n (lE tx a + 2) (some (sub tx a (fldN tx a (lE tx a)), sub tx (fldC tx a (lE tx a) + 1) (lE tx a))))) ∧ out hI hF s s1 := by
            intro s8 dx bw oo hx hbw htd ed
            obtain ⟨s7, f1, f2, f3⟩ := put s8 dx (sub tx a (fldN tx a (lE tx a))) [] (bn + (fldN tx a (lE tx a) - a)) bw (fldC tx a (lE tx a) + 1) (ht.h oo) hx (by omega) (by show bw + 0 + _ ≤ _; omega)
            rw [List.nil_append] at f2
            rw [f1, Option.bind_some, e2]
            obtain ⟨s9, g1, g2, g3⟩ := ih M (lE tx a + 2) s7 dx (some (sub tx a (fldN tx a (lE tx a)), sub tx (fldC tx a (lE tx a) + 1) (lE tx a))) (bn + (fldN tx a (lE tx a) - a)) bw (by omega) (by omega) (by omega) hq4 ((ht.h oo).h f3) f2 ⟨by omega, by show bw + (sub tx (fldC tx a (lE tx a) + 1) (lE tx a)).length ≤ _; rw [hvl]; omega, by show tot dx + ((sub tx (fldC tx a (lE tx a) + 1) (lE tx a)).length + 4) ≤ _; rw [hvl]; omega, fun z => by cases z⟩
            rw [ed, List.append_assoc] at g2
            exact ⟨s9, g1, g2, out_t oo (out_t f3 g3)⟩
          rw [hc.cnt]
          cases p with
          | none =>
            have hd := o4 rfl
            subst hd
            rw [if_pos (show nI ([].length + (pnN none).length) ≤ 0 by decide)]
            obtain ⟨s8, f1, f2, f3⟩ := e155 s [] bv ht hc (by decide)
            rw [f1, Option.bind_some, if_pos (nI_pos' (by omega))]
            exact fin s8 [] bv f3 f2 (by have : bv + 0 ≤ a := o2; omega) (Nat.zero_le _) rfl
          | some q =>
            have o2' : bv + q.2.length ≤ a := o2
            have o3' : tot dn + (q.2.length + 4) ≤ a := o3
            rw [if_neg (nI_nle (by show 0 < dn.length + 1; omega) (by show dn.length + 1 < 2 ^ 31; omega))]
            obtain ⟨s5, z1, z2, z3⟩ := c_flush hc (by omega)
            rw [z1, Option.bind_some]
            obtain ⟨s8, f1, f2, f3⟩ := e155 s5 (dn ++ [(q.1, trm q.2)]) (bv + q.2.length) (ht.h z3) z2 (by rw [List.length_append]; show dn.length + 1 < 1001; omega)
            rw [f1, Option.bind_some, if_pos (nI_pos' (by omega))]
            refine fin s8 _ _ (out_t z3 f3) f2 (by omega) ?_ rfl
            rw [tot_app]
            have := trm_len q.2
            show tot dn + ((trm q.2).length + 4 + 0) ≤ a
            omega
        · rw [if_neg cf, if_neg cf, Option.bind_some]
          dsimp only
          rw [if_neg (show ¬ (0 : Int32) ≤ -1 by decide)]
          exact c_90 hc (by omega) o4
