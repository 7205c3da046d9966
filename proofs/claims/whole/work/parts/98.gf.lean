/-! the reference: a note more -/
theorem hdb_S (t : uS) (q j : Nat) : hdb t q j = ((if q < 80 then t.L 1133 (q % 80 * 125 + j / 8) else t.L 1134 (q % 80 * 125 + j / 8)) >>> S8 (j % 8)).toInt32 &&& 255 := rfl
def hdL4 (k _f : Nat) : Prop := k = 1133 ∨ k = 1134
/-- only the handle of note q has changed -/
def hdW (q : Nat) (t t1 : uS) : Prop := ol rNo rNo hdL4 t t1 ∧ ∀ q' j : Nat, q' < 160 → j < 1000 → q' ≠ q → hdb t1 q' j = hdb t q' j
theorem r_setH {t : uS} {q j b : Nat} (hq : q < 160) (hj : j < 1000) (hb : b < 256) : ∃ t1 : uS, fn_X12_setHandle (nI q) (nI j) (nI b) t = some t1 ∧ hdb t1 q j = nI b ∧ (∀ q' j' : Nat, q' < 160 → j' < 1000 → (q' ≠ q ∨ j' ≠ j) → hdb t1 q' j' = hdb t q' j') ∧ ol rNo rNo hdL4 t t1 := by
  have e3 : nI j / 8 = nI (j / 8) := pk_div (d := 8) (by omega) (by decide) (by decide)
  have e4 : nI q - nI q / 80 * 80 = nI (q % 80) := pk_rem (d := 80) (by omega) (by decide) (by decide)
  have ex : ∀ c : Bool, (((56 : Int32) - ((8 : Int32) * (nI j - nI j / 8 * 8))).toInt64 &&& 63) = S8 (j % 8) := fun _ => S8_e (by omega)
  unfold fn_X12_setHandle fb_X12_setHandle_49
  by_cases c : q < 80
  · rw [if_neg (show ¬ (80 : Int32) ≤ nI q from nI_ge (b := 80) c (by decide)), ex true, e3, e4, show (125 : Int32) = nI 125 from rfl, nI_mul, nI_add, g_1133 (by omega), Option.bind_some, if_neg (show ¬ (80 : Int32) ≤ nI q from nI_ge (b := 80) c (by decide)), p_1133 (by omega), Option.bind_some]
    refine ⟨wL t 1133 (q % 80 * 125 + j / 8) (pk8 (t.L 1133 (q % 80 * 125 + j / 8)) (j % 8) b), rfl, ?_, fun q' j' h1 h2 h3 => ?_, ol_L ol_r (Or.inl rfl)⟩
    · rw [hdb_S, if_pos c, wL_L, if_pos ⟨rfl, rfl⟩, pk8_rd (Nat.mod_lt _ (by decide)) (Nat.mod_lt _ (by decide)) hb, if_pos rfl]
    · rw [hdb_S, hdb_S]
      by_cases d : q' < 80
      · rw [if_pos d, if_pos d, wL_L]
        by_cases e : q' % 80 * 125 + j' / 8 = q % 80 * 125 + j / 8
        · rw [if_pos ⟨rfl, e⟩, pk8_rd (Nat.mod_lt _ (by decide)) (Nat.mod_lt _ (by decide)) hb, if_neg (by omega), e]
        · rw [if_neg (fun z => e z.2)]
      · rw [if_neg d, if_neg d, wL_L, if_neg (fun z => absurd z.1 (by decide))]
  · rw [if_pos (show (80 : Int32) ≤ nI q from nI_le (a := 80) (by omega) (by omega)), ex true, e3, e4, show (125 : Int32) = nI 125 from rfl, nI_mul, nI_add, g_1134 (by omega), Option.bind_some, if_pos (show (80 : Int32) ≤ nI q from nI_le (a := 80) (by omega) (by omega)), p_1134 (by omega), Option.bind_some]
    refine ⟨wL t 1134 (q % 80 * 125 + j / 8) (pk8 (t.L 1134 (q % 80 * 125 + j / 8)) (j % 8) b), rfl, ?_, fun q' j' h1 h2 h3 => ?_, ol_L ol_r (Or.inr rfl)⟩
    · rw [hdb_S, if_neg c, wL_L, if_pos ⟨rfl, rfl⟩, pk8_rd (Nat.mod_lt _ (by decide)) (Nat.mod_lt _ (by decide)) hb, if_pos rfl]
    · rw [hdb_S, hdb_S]
      by_cases d : q' < 80
      · rw [if_pos d, if_pos d, wL_L, if_neg (fun z => absurd z.1 (by decide))]
      · rw [if_neg d, if_neg d, wL_L]
        by_cases e : q' % 80 * 125 + j' / 8 = q % 80 * 125 + j / 8
        · rw [if_pos ⟨rfl, e⟩, pk8_rd (Nat.mod_lt _ (by decide)) (Nat.mod_lt _ (by decide)) hb, if_neg (by omega), e]
        · rw [if_neg (fun z => e z.2)]
theorem hdW_r {q : Nat} {t : uS} : hdW q t t := ⟨ol_r, fun _ _ _ _ _ => rfl⟩
theorem hdW_t {q : Nat} {t t1 t2 : uS} (h : hdW q t t1) (g : hdW q t1 t2) : hdW q t t2 := ⟨ol_t h.1 g.1, fun a b c d e => (g.2 a b c d e).trans (h.2 a b c d e)⟩
theorem hd_loop {x : List Nat} {q : Nat} (hq : q < 160) (hb : bys x) (hx : x.length ≤ 1000) {F : Nat → Int32 → uS → Option uS} {fin : uS → Option uS} {Pr : uS → Prop} (hPr : ∀ t t1 : uS, Pr t → hdW q t t1 → Pr t1) (hF : ∀ (n i : Nat) (t : uS), Pr t → i < x.length → F (n + 1) (nI i) t = (fn_X12_setHandle (nI q) (nI i) (nI (x.getD i 0)) t).bind fun s6 => F n (nI i + 1) s6) (hfin : ∀ (n : Nat) (t : uS), Pr t → F (n + 1) (nI x.length) t = fin t) : ∀ (d N i : Nat) (t : uS), i + d = x.length → d + 1 ≤ N → Pr t → (∀ j : Nat, j < i → hdb t q j = nI (x.getD j 0)) → ∃ t1 : uS, F N (nI i) t = fin t1 ∧ (∀ j : Nat, j < x.length → hdb t1 q j = nI (x.getD j 0)) ∧ hdW q t t1 := by
  intro d
  induction d with
  | zero =>
    intro N i t h1 h2 h3 h4
    obtain ⟨M, rfl⟩ : ∃ M, N = M + 1 := ⟨N - 1, by omega⟩
    refine ⟨t, ?_, fun j hj => h4 j (by omega), hdW_r⟩
    rw [show i = x.length by omega]
    exact hfin M t h3
  | succ d ih =>
    intro N i t h1 h2 h3 h4
    obtain ⟨M, rfl⟩ : ∃ M, N = M + 1 := ⟨N - 1, by omega⟩
    obtain ⟨t1, a1, a2, a3, a4⟩ := r_setH (t := t) hq (show i < 1000 by omega) (hb i)
    have w1 : hdW q t t1 := ⟨a4, fun a b c d e => a3 a b c d (Or.inl e)⟩
    obtain ⟨t2, b1, b2, b3⟩ := ih M (i + 1) t1 (by omega) (by omega) (hPr _ _ h3 w1) (fun j hj => by
      by_cases e : j = i
      · rw [e]; exact a2
      · rw [a3 q j hq (by omega) (Or.inr e)]; exact h4 j (by omega))
    refine ⟨t2, ?_, b2, hdW_t w1 b3⟩
    rw [hF M i t h3 (by omega), a1, Option.bind_some, nI_1]
    exact b1
def ngF (k _f : Nat) : Prop := k = 1129 ∨ k = 1130 ∨ k = 1131 ∨ k = 1132 ∨ k = 1135
/-- notes elsewhere stay -/
def nKp (A : Nat → Prop) (t t1 : uS) : Prop := ∀ (q : Nat) (x : nT), q < 160 → ¬ A q → x.2.1.length ≤ 101 → x.2.2.length ≤ 1000 → rNe t q x → rNe t1 q x
theorem nKp_t {A : Nat → Prop} {t t1 t2 : uS} (h : nKp A t t1) (g : nKp A t1 t2) : nKp A t t2 := fun q x a b c d e => g q x a b c d (h q x a b c d e)
theorem nKp_w {A B : Nat → Prop} {t t1 : uS} (h : nKp A t t1) (w : ∀ q : Nat, A q → B q) : nKp B t t1 := fun q x a b c d e => h q x a (fun z => b (w q z)) c d e
/-- a note moves down a place -/
theorem r_moveN {t : uS} {q : Nat} {x : nT} (hq : q + 1 < 160) (hx : rNe t (q + 1) x) (h1 : x.2.1.length ≤ 101) (h2 : x.2.2.length ≤ 1000) (hb : bys x.2.2) : ∃ t1 : uS, fn_X12_moveNote (nI (q + 1)) (nI (q + 1) - 1) t = some t1 ∧ rNe t1 q x ∧ nKp (fun z => z = q) t t1 ∧ ol rNo ngF hdL4 t t1 ∧ t1.F 1129 = t.F 1129 := by
  obtain ⟨x1, x2, x3, x4, x5⟩ := hx
  have eq1 : nI (q + 1) - 1 = nI q := nI_sub (a := q + 1) (b := 1) (by omega)
  unfold fn_X12_moveNote
  rw [eq1, g_1130 (by omega), Option.bind_some, x1, p_1130 (by omega), Option.bind_some]
  have y2 : (wF t 1130 q (nI x.1)).F 1132 (q + 1) = nI x.2.1.length := by rw [wF_o (by omega)]; exact x2
  rw [g_1132 (by omega), Option.bind_some, y2, p_1132 (by omega), Option.bind_some]
  have y4 : (wF (wF t 1130 q (nI x.1)) 1132 q (nI x.2.1.length)).F 1135 (q + 1) = nI x.2.2.length := by rw [wF_o (by omega), wF_o (by omega)]; exact x4
  rw [g_1135 (by omega), Option.bind_some, y4, p_1135 (by omega), Option.bind_some]
  obtain ⟨t3, ht3⟩ : ∃ t3, t3 = wF (wF (wF t 1130 q (nI x.1)) 1132 q (nI x.2.1.length)) 1135 q (nI x.2.2.length) := ⟨_, rfl⟩
  have z30 : t3.F 1130 q = nI x.1 := by rw [ht3, wF_o (by omega), wF_o (by omega), wF_e]
  have z32 : t3.F 1132 q = nI x.2.1.length := by rw [ht3, wF_o (by omega), wF_e]
  have z35 : t3.F 1135 q = nI x.2.2.length := by rw [ht3, wF_e]
  have zo : ∀ k f : Nat, ((k ≠ 1130 ∧ k ≠ 1132 ∧ k ≠ 1135) ∨ f ≠ q) → t3.F k f = t.F k f := fun k f h => by rw [ht3, wF_o (by omega), wF_o (by omega), wF_o (by omega)]
  have zL : t3.L = t.L := by rw [ht3]; rfl
  have zol : ol rNo ngF hdL4 t t3 := by
    rw [ht3]
    exact ol_F (ol_F (ol_F ol_r (by unfold ngF; omega)) (by unfold ngF; omega)) (by unfold ngF; omega)
  rw [← ht3]
  have e := cpy0 (F := fun N y s => fn_X12_moveNote_38 N (nI (q + 1)) (nI q) y s) (fin := fun s => fn_X12_moveNote_78 uFu (nI (q + 1)) (nI q) 0 s) (K := 1131) (off := 101 * q) (L := x.2.1.length) (g := fun j => nI (x.2.1.getD j 0)) (s := t3) ?_ ?_ (by show _ < 1000000; omega)
  · obtain ⟨t4, ht4⟩ : ∃ t4, t4 = cpy t3 1131 (101 * q) 0 x.2.1.length (fun j => nI (x.2.1.getD j 0)) := ⟨_, rfl⟩
    have w31 : ∀ j : Nat, j < x.2.1.length → t4.F 1131 (101 * q + j) = nI (x.2.1.getD j 0) := fun j hj => by rw [ht4]; exact cpy_Fe (Nat.zero_le _) hj
    have wo : ∀ k f : Nat, (k ≠ 1131 ∨ f < 101 * q ∨ 101 * q + 101 ≤ f) → t4.F k f = t3.F k f := fun k f h => by rw [ht4, cpy_F, if_neg (by omega)]
    have wL' : t4.L = t.L := by rw [ht4]; exact zL
    have wol : ol rNo ngF hdL4 t3 t4 := by
      rw [ht4]
      refine ⟨⟨rfl, rfl, rfl, rfl, rfl⟩, fun _ _ _ => rfl, fun k f z => ?_, fun _ _ _ => rfl⟩
      rw [cpy_F, if_neg (fun y => z (by unfold ngF; omega))]
    rw [← ht4] at e
    obtain ⟨t5, b1, b2, b3⟩ := hd_loop (q := q) (by omega) hb h2 (F := fun N y s => fn_X12_moveNote_78 N (nI (q + 1)) (nI q) y s) (fin := fun s => some s) (Pr := fun s => s.F 1135 (q + 1) = nI x.2.2.length ∧ ∀ j : Nat, j < x.2.2.length → hdb s (q + 1) j = nI (x.2.2.getD j 0)) (fun s s1 z w => ⟨(w.1.2.2.1 _ _ (fun y => y)).trans z.1, fun j hj => (w.2 _ _ (by omega) (by omega) (by omega)).trans (z.2 j hj)⟩) (fun n i s z hi => by
      show fb_X12_moveNote_78 (fn_X12_moveNote_78 n) (nI (q + 1)) (nI q) (nI i) s = _
      unfold fb_X12_moveNote_78
      rw [g_1135 (by omega), Option.bind_some, z.1, if_neg (nI_ge hi (by omega)), r_hdAt (by omega) (by omega), Option.bind_some, z.2 i hi]) (fun n s z => by
      show fb_X12_moveNote_78 (fn_X12_moveNote_78 n) (nI (q + 1)) (nI q) (nI x.2.2.length) s = _
      unfold fb_X12_moveNote_78
      rw [g_1135 (by omega), Option.bind_some, z.1, if_pos (nI_le (Nat.le_refl _) (by omega))]) x.2.2.length uFu 0 t4 (by omega) (by show _ ≤ 1000000; omega) ⟨by rw [wo _ _ (by omega), zo _ _ (by omega)]; exact x4, fun j hj => by rw [hdb_S, wL', ← hdb_S]; exact x5 j hj⟩ (fun j hj => absurd hj (Nat.not_lt_zero _))
    have kF : ∀ k f : Nat, t5.F k f = t4.F k f := fun k f => b3.1.2.2.1 k f (fun z => z)
    refine ⟨t5, e.trans b1, ⟨?_, ?_, fun j hj => ?_, ?_, b2⟩, fun q' x' c1 c2 c3 c4 c5 => ?_, ol_t (ol_t zol wol) (ol_w b3.1 (fun _ _ z => z) (fun _ _ z => z.elim) (fun _ _ z => z)), ?_⟩
    · rw [kF, wo _ _ (by omega)]; exact z30
    · rw [kF, wo _ _ (by omega)]; exact z32
    · rw [kF]; exact w31 j hj
    · rw [kF, wo _ _ (by omega)]; exact z35
    · obtain ⟨d1, d2, d3, d4, d5⟩ := c5
      refine ⟨?_, ?_, fun j hj => ?_, ?_, fun j hj => ?_⟩
      · rw [kF, wo _ _ (by omega), zo _ _ (by omega)]; exact d1
      · rw [kF, wo _ _ (by omega), zo _ _ (by omega)]; exact d2
      · rw [kF, wo _ _ (by omega), zo _ _ (by omega)]; exact d3 j hj
      · rw [kF, wo _ _ (by omega), zo _ _ (by omega)]; exact d4
      · rw [b3.2 q' j c1 (by omega) c2, hdb_S, wL', ← hdb_S]; exact d5 j hj
    · funext f
      rw [kF, wo _ _ (by omega), zo _ _ (by omega)]
  · intro n i hi
    show fb_X12_moveNote_38 (fn_X12_moveNote_38 n) (nI (q + 1)) (nI q) (nI i) _ = _
    unfold fb_X12_moveNote_38
    have f32 : (cpy t3 1131 (101 * q) 0 i (fun j => nI (x.2.1.getD j 0))).F 1132 (q + 1) = nI x.2.1.length := by rw [cpy_Fo (by decide), zo _ _ (by omega)]; exact x2
    have f31 : (cpy t3 1131 (101 * q) 0 i (fun j => nI (x.2.1.getD j 0))).F 1131 (101 * (q + 1) + i) = nI (x.2.1.getD i 0) := by rw [cpy_F, if_neg (by omega), zo _ _ (by omega)]; exact x3 i hi
    rw [g_1132 (by omega), Option.bind_some, f32, if_neg (nI_ge hi (by omega)), show (101 : Int32) = nI 101 from rfl, nI_mul, nI_add, g_1131 (by omega), Option.bind_some, f31, nI_mul, nI_add, p_1131 (by omega), Option.bind_some, nI_1]
  · intro n
    show fb_X12_moveNote_38 (fn_X12_moveNote_38 n) (nI (q + 1)) (nI q) (nI x.2.1.length) _ = _
    unfold fb_X12_moveNote_38
    have f32 : (cpy t3 1131 (101 * q) 0 x.2.1.length (fun j => nI (x.2.1.getD j 0))).F 1132 (q + 1) = nI x.2.1.length := by rw [cpy_Fo (by decide), zo _ _ (by omega)]; exact x2
    rw [g_1132 (by omega), Option.bind_some, f32, if_pos (nI_le (Nat.le_refl _) (by omega))]
