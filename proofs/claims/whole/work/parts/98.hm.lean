/-! the parameters of MAIL: the reference -/
def psJ (k f : Nat) : Prop := k = 1079 ∧ (f = 127 ∨ f = 128)
theorem r_dig {K5 : uS → Option (uS × Bool)} {bs : List Nat} : ∀ (m M c v j : Nat) (t : uS), (∀ i : Nat, j ≤ i → i < j + m → dgt bs i = true) → (j + m = bs.length ∨ dgt bs (j + m) = false ∨ c + m = 10) → c + m ≤ 10 → j + m ≤ bs.length → rLn t bs → t.I 1079 127 = nI j → m < M → (c ≤ 9 → v < 10 ^ c) → ∃ v1 : Nat, fn_X12_parameters_57 K5 M (nI c) (nI v) t = fb_X12_parameters_134 K5 (nI (c + m)) (nI v1) (wI t 1079 127 (nI (j + m))) ∧ (c + m ≤ 9 → v1 = dgV bs m j v ∧ v1 < 10 ^ (c + m))
  | 0, M + 1, c, v, j, t, h1, h2, h3, h4, h5, h6, h7, h8 => by
    have hn := h5.2.1
    refine ⟨v, ?_, fun z => ⟨rfl, h8 z⟩⟩
    show fb_X12_parameters_57 K5 (fn_X12_parameters_57 K5 M) (nI c) (nI v) t = fb_X12_parameters_134 K5 (nI c) (nI v) (wI t 1079 127 (nI j))
    rw [wI_self h6]
    unfold fb_X12_parameters_57
    rw [h5.1, h6]
    by_cases d : bs.length ≤ j
    · rw [if_pos (nI_le d (by omega))]
    · rw [if_neg (nI_ge (by omega) (by omega)), g_1147 (by omega), Option.bind_some, h5.2.2.2 j (by omega), r_isDig (by have := h5.2.2.1 j; omega), Option.bind_some]
      show (if dgt bs j = true then _ else _) = _
      rcases h2 with h2 | h2 | h2
      · omega
      · rw [Nat.add_zero] at h2
        rw [if_neg (by rw [h2]; decide)]
      · rw [if_pos (show (10 : Int32) ≤ nI c from nI_le (a := 10) (by omega) (by omega))]
        exact ite_self _
  | m + 1, M + 1, c, v, j, t, h1, h2, h3, h4, h5, h6, h7, h8 => by
    have hn := h5.2.1
    have hd := h1 j (Nat.le_refl _) (by omega)
    have hdd : 48 ≤ bs.getD j 0 ∧ bs.getD j 0 ≤ 57 := of_decide_eq_true hd
    have step : ∀ v2 : Nat, (c + 1 ≤ 9 → v2 = v * 10 + (bs.getD j 0 - 48)) → fn_X12_parameters_57 K5 (M + 1) (nI c) (nI v) t = fn_X12_parameters_57 K5 M (nI (c + 1)) (nI v2) (wI t 1079 127 (nI (j + 1))) → ∃ v1 : Nat, fn_X12_parameters_57 K5 (M + 1) (nI c) (nI v) t = fb_X12_parameters_134 K5 (nI (c + (m + 1))) (nI v1) (wI t 1079 127 (nI (j + (m + 1)))) ∧ (c + (m + 1) ≤ 9 → v1 = dgV bs (m + 1) j v ∧ v1 < 10 ^ (c + (m + 1))) := by
      intro v2 hv2 hst
      have hv : c + 1 ≤ 9 → v2 < 10 ^ (c + 1) := fun z => by
        have a := h8 (by omega)
        have b := hv2 z
        have hp : 10 ^ (c + 1) = 10 ^ c * 10 := Nat.pow_succ ..
        omega
      obtain ⟨v1, a1, a2⟩ := r_dig (K5 := K5) m M (c + 1) v2 (j + 1) (wI t 1079 127 (nI (j + 1))) (fun i y1 y2 => h1 i (by omega) (by omega)) (by rw [show j + 1 + m = j + (m + 1) by omega, show c + 1 + m = c + (m + 1) by omega]; exact h2) (by omega) (by omega) (h5.w (by decide)) (wI_e _ _ _ _) (by omega) hv
      rw [wI_wI, show j + 1 + m = j + (m + 1) by omega, show c + 1 + m = c + (m + 1) by omega] at a1
      refine ⟨v1, hst.trans a1, fun z => ?_⟩
      obtain ⟨b1, b2⟩ := a2 (by omega)
      rw [show c + 1 + m = c + (m + 1) by omega] at b2
      refine ⟨?_, b2⟩
      rw [b1, hv2 (by omega)]
      rfl
    have base : fn_X12_parameters_57 K5 (M + 1) (nI c) (nI v) t = if (9 : Int32) ≤ nI c then (fn_X12_parameters_57 K5 M (nI (c + 1)) (nI v) (wI t 1079 127 (nI (j + 1)))) else (fn_X12_parameters_57 K5 M (nI (c + 1)) (nI (v * 10 + (bs.getD j 0 - 48))) (wI t 1079 127 (nI (j + 1)))) := by
      show fb_X12_parameters_57 K5 (fn_X12_parameters_57 K5 M) (nI c) (nI v) t = _
      unfold fb_X12_parameters_57 fb_X12_parameters_116
      rw [h5.1, h6, if_neg (nI_ge (by omega) (by omega)), g_1147 (by omega), Option.bind_some, h5.2.2.2 j (by omega), r_isDig (by omega), Option.bind_some, decide_eq_true hdd, if_pos rfl, if_neg (show ¬ (10 : Int32) ≤ nI c from nI_ge (b := 10) (by omega) (by decide)), Option.bind_some, nI_1, nI_1]
      rw [show (10 : Int32) * nI v + nI (bs.getD j 0) - 48 = nI (v * 10 + (bs.getD j 0 - 48)) by rw [show (10 : Int32) * nI v = nI v * 10 by rw [show (10 : Int32) = nI 10 from rfl, nI_mul, nI_mul, Nat.mul_comm]]; exact nI_dg hdd.1]
    by_cases c9 : 9 ≤ c
    · rw [if_pos (show (9 : Int32) ≤ nI c from nI_le (a := 9) c9 (by omega))] at base
      exact step v (fun z => by omega) base
    · rw [if_neg (show ¬ (9 : Int32) ≤ nI c from nI_ge (b := 9) (by omega) (by decide))] at base
      exact step _ (fun _ => rfl) base
/-- a place where nothing may follow -/
theorem r_pbad {bs : List Nat} {N p : Nat} {t : uS} (h : rLn t bs) (h127 : t.I 1079 127 = nI p) (hp : p < bs.length) (hb : bs.getD p 0 ≠ 32) : fn_X12_parameters_5 (N + 1) t = some (t, false) := by
  have hn := h.2.1
  have st := r_stands (w := kW_177) h h127 (by omega) (by unfold lwc; decide) (by decide)
  rw [show stB bs p kW_177 = decide (p < bs.length ∧ bs.getD p 0 = 32) from stB_1 (by decide), decide_eq_false (fun z => hb z.2), if_neg (by decide)] at st
  show fb_X12_parameters_5 _ t = _
  unfold fb_X12_parameters_5
  rw [h.1, h127, if_neg (nI_ge hp (by omega)), st, Option.bind_some]
  dsimp only
  rw [if_neg (by decide)]
theorem eqW_stB {bs W : List Nat} {q e : Nat} (hW : lwc W) (hq : q ≤ e) (he : e ≤ bs.length) : eqW (sub bs q e) W = (decide (e = q + W.length) && stB bs q W) := by
  have hsl := sub_len (x := bs) (a := q) (b := e) he hq
  rw [Bool.eq_iff_iff, eqW_r hW]
  unfold stB
  simp only [Bool.and_eq_true, decide_eq_true_eq]
  constructor
  · rintro ⟨a, b⟩
    refine ⟨by omega, by omega, fun j hj => ?_⟩
    have := b j hj
    rw [sub_get (by omega)] at this
    exact this
  · rintro ⟨a, b, c⟩
    refine ⟨by omega, fun j hj => ?_⟩
    rw [sub_get (by omega)]
    exact c j hj
theorem allB_no {p : Nat → Bool} {n i z : Nat} (h1 : i ≤ z) (h2 : z < i + n) (h : p z = false) : allB p n i = false := by
  cases e : allB p n i with
  | false => rfl
  | true => exact absurd (allB_iff.mp e z h1 h2) (by rw [h]; decide)
theorem r_opts {bs : List Nat} (hl : bs.length ≤ 500) : ∀ (K p mx : Nat) (t : uS), bs.length < p + K → p ≤ bs.length → rLn t bs → t.I 1079 127 = nI p → t.I 1079 128 = nI mx → mx < 1000000000 → ∃ t1 : uS, fn_X12_parameters_5 K t = some (t1, (prm bs K p (decide (4000 < mx))).isSome) ∧ out psJ rNo t t1 ∧ ∀ b : Bool, prm bs K p (decide (4000 < mx)) = some b → ∃ mx1 : Nat, mx1 < 1000000000 ∧ t1.I 1079 128 = nI mx1 ∧ decide (4000 < mx1) = b
  | 0, p, mx, t, h1, h2, h3, h4, h5, h6 => by omega
  | K + 1, p, mx, t, h1, h2, h3, h4, h5, h6 => by
    show ∃ t1 : uS, fb_X12_parameters_5 (fn_X12_parameters_5 K) t = _ ∧ _
    unfold fb_X12_parameters_5 prm
    rw [h3.1, h4]
    by_cases c : bs.length ≤ p
    · rw [if_pos (nI_le c (by omega)), if_pos c]
      exact ⟨t, rfl, out_r, fun b hb => by cases hb; exact ⟨mx, h6, h5, rfl⟩⟩
    · rw [if_neg (nI_ge (by omega) (by omega)), if_neg c]
      obtain ⟨e1, e2, e3, e4⟩ := spE_b (bs := bs) (p := p + 1) (by omega)
      generalize hEE : spE bs (p + 1) = e at *
      have st := r_stands (w := kW_177) h3 h4 (by omega) (by unfold lwc; decide) (by decide)
      rw [show stB bs p kW_177 = decide (p < bs.length ∧ bs.getD p 0 = 32) from stB_1 (by decide)] at st
      by_cases d : bs.getD p 0 = 32
      · rw [decide_eq_true (show p < bs.length ∧ bs.getD p 0 = 32 from ⟨by omega, d⟩), if_pos rfl] at st
        rw [st, Option.bind_some, if_pos rfl, if_pos d]
        dsimp only
        obtain ⟨t0, ht0⟩ : ∃ t0, t0 = wI t 1079 127 (nI (p + kW_177.length)) := ⟨_, rfl⟩
        rw [← ht0]
        have k3 : rLn t0 bs := by rw [ht0]; exact h3.w (by decide)
        have k4 : t0.I 1079 127 = nI (p + 1) := by rw [ht0, wI_e]; rfl
        have k5 : t0.I 1079 128 = nI mx := by rw [ht0, wI_o (by omega)]; exact h5
        have o0 : out psJ rNo t t0 := by rw [ht0]; exact out_I out_r ⟨rfl, by omega⟩
        have lw2 : lwc kW_182 := by unfold lwc; decide
        have lw3 : lwc kW_183 := by unfold lwc; decide
        have sb2 := r_stands (w := kW_182) k3 k4 (by omega) lw2 (by decide)
        rw [sb2, Option.bind_some, eqW_stB lw2 e1 e2]
        have no : ∀ t2 : uS, out psJ rNo t t2 → ∃ t1 : uS, some (t2, false) = some (t1, (none : Option Bool).isSome) ∧ out psJ rNo t t1 ∧ ∀ b : Bool, (none : Option Bool) = some b → ∃ mx1 : Nat, mx1 < 1000000000 ∧ t1.I 1079 128 = nI mx1 ∧ decide (4000 < mx1) = b := fun t2 o2 => ⟨t2, rfl, o2, fun b hb => by cases hb⟩
        cases B : stB bs (p + 1) kW_182 with
        | true =>
          have BB := B
          unfold stB at BB
          rw [Bool.and_eq_true, decide_eq_true_eq, decide_eq_true_eq] at BB
          have hL : p + 14 ≤ bs.length := BB.1
          have hs13 : ∀ j : Nat, j < 13 → bs.getD (p + 1 + j) 0 ≠ 32 := fun j hj z => by
            have := BB.2 j hj
            rw [z] at this
            have q : ∀ x : Fin 13, lo 32 ≠ kW_182.getD x.1 0 := by decide
            exact q ⟨j, hj⟩ this
          have he14 : p + 14 ≤ e := by
            by_cases g : e < p + 14
            · exact absurd (by have := e4 (by omega); rw [show p + 1 + (e - (p + 1)) = e by omega]; exact this) (hs13 (e - (p + 1)) (by omega))
            · omega
          rw [if_pos rfl, if_pos rfl]
          dsimp only
          obtain ⟨t2, ht2⟩ : ∃ t2, t2 = wI t0 1079 127 (nI (p + 1 + kW_182.length)) := ⟨_, rfl⟩
          rw [← ht2]
          have j3 : rLn t2 bs := by rw [ht2]; exact k3.w (by decide)
          have j4 : t2.I 1079 127 = nI (p + 14) := by rw [ht2, wI_e]; rfl
          have j5 : t2.I 1079 128 = nI mx := by rw [ht2, wI_o (by omega)]; exact k5
          have o2 : out psJ rNo t t2 := out_t o0 (by rw [ht2]; exact out_I out_r ⟨rfl, by omega⟩)
          by_cases g : e = p + 14
          · rw [decide_eq_true (show e = p + 1 + kW_182.length by rw [g]; rfl), Bool.true_and, if_pos rfl]
            rw [← g] at j4
            obtain ⟨t1, b1, b2, b3⟩ := r_opts hl K e mx t2 (by omega) e2 j3 j4 j5 h6
            exact ⟨t1, b1, out_t o2 b2, b3⟩
          · rw [decide_eq_false (show ¬ e = p + 1 + kW_182.length by show ¬ e = p + 1 + 13; omega), Bool.false_and, if_neg (by decide)]
            have iz : isz bs (p + 1) e = false := by
              cases q : isz bs (p + 1) e with
              | false => rfl
              | true =>
                unfold isz at q
                rw [Bool.and_eq_true, Bool.and_eq_true, Bool.and_eq_true] at q
                have q2 := q.1.2
                unfold stB at q2
                rw [Bool.and_eq_true, decide_eq_true_eq, decide_eq_true_eq] at q2
                have x1 := BB.2 0 (by decide)
                have x2 := q2.2 0 (by decide)
                exact absurd (x1.symm.trans x2) (by decide)
            rw [iz, if_neg (by decide)]
            cases K with
            | zero => omega
            | succ K =>
              rw [r_pbad j3 j4 (by omega) (e3 (p + 14) (by omega) (by omega))]
              exact no t2 o2
        | false =>
          rw [Bool.and_false]
          dsimp only
          rw [if_neg (by decide), if_neg (by decide), if_neg (by decide)]
          have sb3 := r_stands (w := kW_183) k3 k4 (by omega) lw3 (by decide)
          rw [sb3, Option.bind_some]
          cases S : stB bs (p + 1) kW_183 with
          | false =>
            have iz : isz bs (p + 1) e = false := by unfold isz; rw [S, Bool.and_false, Bool.false_and]
            rw [iz]
            dsimp only
            rw [if_neg (by decide), if_neg (by decide), if_neg (by decide)]
            exact no t0 o0
          | true =>
            have SS := S
            unfold stB at SS
            rw [Bool.and_eq_true, decide_eq_true_eq, decide_eq_true_eq] at SS
            have hL : p + 6 ≤ bs.length := SS.1
            have hs5 : ∀ j : Nat, j < 5 → bs.getD (p + 1 + j) 0 ≠ 32 := fun j hj z => by
              have := SS.2 j hj
              rw [z] at this
              have q : ∀ x : Fin 5, lo 32 ≠ kW_183.getD x.1 0 := by decide
              exact q ⟨j, hj⟩ this
            have he6 : p + 6 ≤ e := by
              by_cases g : e < p + 6
              · exact absurd (by have := e4 (by omega); rw [show p + 1 + (e - (p + 1)) = e by omega]; exact this) (hs5 (e - (p + 1)) (by omega))
              · omega
            rw [if_pos rfl, if_pos rfl]
            dsimp only
            obtain ⟨t2, ht2⟩ : ∃ t2, t2 = wI t0 1079 127 (nI (p + 1 + kW_183.length)) := ⟨_, rfl⟩
            rw [← ht2]
            have j3 : rLn t2 bs := by rw [ht2]; exact k3.w (by decide)
            have j4 : t2.I 1079 127 = nI (p + 6) := by rw [ht2, wI_e]; rfl
            have j5 : t2.I 1079 128 = nI mx := by rw [ht2, wI_o (by omega)]; exact k5
            have o2 : out psJ rNo t t2 := out_t o0 (by rw [ht2]; exact out_I out_r ⟨rfl, by omega⟩)
            have iz : isz bs (p + 1) e = (decide (p + 6 < e) && decide (e - (p + 6) ≤ 9) && allB (dgt bs) (e - (p + 6)) (p + 6)) := by unfold isz; rw [S, Bool.and_true]
            -- how many digits stand there
            obtain ⟨m, m1, m2, m3, m4⟩ : ∃ m : Nat, (∀ i : Nat, p + 6 ≤ i → i < p + 6 + m → dgt bs i = true) ∧ (p + 6 + m = bs.length ∨ dgt bs (p + 6 + m) = false ∨ 0 + m = 10) ∧ m ≤ 10 ∧ p + 6 + m ≤ bs.length := by
              have aux : ∀ n a : Nat, a + n ≤ bs.length → n ≤ 10 → ∃ m : Nat, (∀ i : Nat, a ≤ i → i < a + m → dgt bs i = true) ∧ (m = n ∨ dgt bs (a + m) = false) ∧ m ≤ n := by
                intro n
                induction n with
                | zero => exact fun a _ _ => ⟨0, fun i y1 y2 => by omega, Or.inl rfl, Nat.le_refl _⟩
                | succ n ih =>
                  intro a ha hn
                  cases q : dgt bs a with
                  | false => exact ⟨0, fun i y1 y2 => by omega, Or.inr q, Nat.zero_le _⟩
                  | true =>
                    obtain ⟨m, y1, y2, y3⟩ := ih (a + 1) (by omega) (by omega)
                    refine ⟨m + 1, fun i z1 z2 => ?_, ?_, by omega⟩
                    · by_cases g : i = a
                      · rw [g]; exact q
                      · exact y1 i (by omega) (by omega)
                    · rcases y2 with y2 | y2
                      · left; omega
                      · right; rw [show a + (m + 1) = a + 1 + m by omega]; exact y2
              obtain ⟨m, y1, y2, y3⟩ := aux (min 10 (bs.length - (p + 6))) (p + 6) (by omega) (by omega)
              refine ⟨m, y1, ?_, by omega, by omega⟩
              rcases y2 with y2 | y2
              · by_cases g : 10 ≤ bs.length - (p + 6)
                · right; right; omega
                · left; omega
              · right; left; exact y2
            obtain ⟨v1, a1, a2⟩ := r_dig (K5 := fn_X12_parameters_5 K) m uFu 0 0 (p + 6) t2 m1 m2 (by omega) m4 j3 j4 (by show m < 1000000; omega) (fun _ => by decide)
            rw [Nat.zero_add] at a1 a2
            rw [show fn_X12_parameters_57 (fn_X12_parameters_5 K) uFu 0 0 t2 = _ from a1]
            obtain ⟨t3, ht3⟩ : ∃ t3, t3 = wI t2 1079 127 (nI (p + 6 + m)) := ⟨_, rfl⟩
            rw [← ht3]
            have l3 : rLn t3 bs := by rw [ht3]; exact j3.w (by decide)
            have l4 : t3.I 1079 127 = nI (p + 6 + m) := by rw [ht3, wI_e]
            have l5 : t3.I 1079 128 = nI mx := by rw [ht3, wI_o (by omega)]; exact j5
            have o3 : out psJ rNo t t3 := out_t o2 (by rw [ht3]; exact out_I out_r ⟨rfl, by omega⟩)
            unfold fb_X12_parameters_134
            -- the digits do not go over the word's end
            have hme : p + 6 + m ≤ e := by
              by_cases g : e < p + 6 + m
              · have y := m1 e (by omega) g
                have z := e4 (by omega)
                unfold dgt at y
                have := of_decide_eq_true y
                omega
              · omega
            by_cases q0 : m < 1
            · rw [if_pos (show nI m < 1 from nI_lt (b := 1) q0 (by decide))]
              have : isz bs (p + 1) e = false := by
                rw [iz]
                by_cases g : p + 6 < e
                · have hf : dgt bs (p + 6) = false := by
                    rcases m2 with y | y | y
                    · omega
                    · rw [show p + 6 + m = p + 6 by omega] at y; exact y
                    · omega
                  rw [allB_no (Nat.le_refl _) (by omega) hf, Bool.and_false]
                · rw [decide_eq_false g, Bool.false_and, Bool.false_and]
              rw [this, if_neg (by decide)]
              exact no t3 o3
            · rw [if_neg (show ¬ nI m < 1 from nI_nlt (b := 1) (by omega) (by omega))]
              by_cases q9 : m ≤ 9
              · rw [if_pos (show nI m ≤ 9 from nI_le (b := 9) q9 (by decide)), l5]
                obtain ⟨v2, v3⟩ := a2 q9
                have v4 : v1 < 1000000000 := Nat.lt_of_lt_of_le v3 (Nat.le_trans (Nat.pow_le_pow_right (by decide) q9) (by decide))
                have mxe : (if nI v1 ≤ nI mx then fn_X12_parameters_5 K (wI t3 1079 128 (nI mx)) else fn_X12_parameters_5 K (wI t3 1079 128 (nI v1))) = fn_X12_parameters_5 K (wI t3 1079 128 (nI (max mx v1))) := by
                  by_cases g : v1 ≤ mx
                  · rw [if_pos (nI_le g (by omega)), Nat.max_eq_left g]
                  · rw [if_neg (nI_ge (by omega) (by omega)), Nat.max_eq_right (by omega)]
                rw [mxe]
                obtain ⟨t4, ht4⟩ : ∃ t4, t4 = wI t3 1079 128 (nI (max mx v1)) := ⟨_, rfl⟩
                rw [← ht4]
                have n3 : rLn t4 bs := by rw [ht4]; exact l3.w (by decide)
                have n4 : t4.I 1079 127 = nI (p + 6 + m) := by rw [ht4, wI_o (by omega)]; exact l4
                have n5 : t4.I 1079 128 = nI (max mx v1) := by rw [ht4, wI_e]
                have o4 : out psJ rNo t t4 := out_t o3 (by rw [ht4]; exact out_I out_r ⟨rfl, by omega⟩)
                by_cases g : e = p + 6 + m
                · have : isz bs (p + 1) e = true := by
                    rw [iz, decide_eq_true (show p + 6 < e by omega), decide_eq_true (show e - (p + 6) ≤ 9 by omega), Bool.true_and, Bool.true_and]
                    exact allB_iff.mpr (fun j y1 y2 => m1 j y1 (by omega))
                  rw [this, if_pos rfl]
                  rw [← g] at n4
                  obtain ⟨t1, b1, b2, b3⟩ := r_opts hl K e (max mx v1) t4 (by omega) e2 n3 n4 n5 (by omega)
                  have hbig : (decide (4000 < mx) || decide (4000 < dgV bs (e - (p + 1 + 5)) (p + 1 + 5) 0)) = decide (4000 < max mx v1) := by
                    rw [show e - (p + 1 + 5) = m by omega, show p + 1 + 5 = p + 6 by omega, ← v2, ← Bool.decide_or]
                    apply decide_eq_decide.mpr
                    omega
                  rw [hbig]
                  exact ⟨t1, b1, out_t o4 b2, b3⟩
                · have hf : dgt bs (p + 6 + m) = false := by
                    rcases m2 with y | y | y
                    · omega
                    · exact y
                    · omega
                  have : isz bs (p + 1) e = false := by rw [iz, allB_no (z := p + 6 + m) (by omega) (by omega) hf, Bool.and_false]
                  rw [this, if_neg (by decide)]
                  cases K with
                  | zero => omega
                  | succ K =>
                    rw [r_pbad n3 n4 (by omega) (e3 (p + 6 + m) (by omega) (by omega))]
                    exact no t4 o4
              · rw [if_neg (show ¬ nI m ≤ 9 from nI_ge (a := 9) (by omega) (by omega))]
                have : isz bs (p + 1) e = false := by rw [iz, decide_eq_false (show ¬ e - (p + 6) ≤ 9 by omega), Bool.and_false, Bool.false_and]
                rw [this, if_neg (by decide)]
                exact no t3 o3
      · rw [decide_eq_false (fun z => d z.2), if_neg (by decide)] at st
        rw [st, Option.bind_some, if_neg d]
        dsimp only
        rw [if_neg (by decide)]
        exact ⟨t, rfl, out_r, fun b hb => by cases hb⟩
