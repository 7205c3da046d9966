/-! a path in a line, on both sides -/
theorem fnb_ffst {bs : List Nat} {b : Nat} : ∀ (n i : Nat), fnb bs b i n = ffst (fun j => decide (bs.getD j 0 = b)) n i
  | 0, _ => rfl
  | n + 1, i => by
    unfold fnb ffst
    by_cases c : bs.getD i 0 = b
    · rw [if_pos c, if_pos (decide_eq_true c)]
    · rw [if_neg c, if_neg (by rw [decide_eq_false c]; decide), fnb_ffst n (i + 1)]
theorem fnb_step {bs : List Nat} {b p n : Nat} (hp : p < n) (h : bs.getD p 0 ≠ b) : fnb bs b p (n - p) = fnb bs b (p + 1) (n - (p + 1)) := by
  rw [show n - p = (n - (p + 1)) + 1 by omega]
  show (if bs.getD p 0 = b then some p else fnb bs b (p + 1) (n - (p + 1))) = _
  rw [if_neg h]
theorem c_findA {s : uS} {k fr b i : Nat} {bs : List Nat} (h : rdC s k fr bs) (hb : b < 128) (hl : bs.length < 900000) (hi : i ≤ bs.length) : fn_X9_find k (nI (fr + i)) (nI (fr + bs.length)) (nI b) s = some (match fnb bs b i (bs.length - i) with | none => -1 | some j => nI (fr + j)) := by
  unfold fn_X9_find
  exact c_findL h hb uFu i (by show bs.length < i + 1000000; omega) hi
def pth (bs : List Nat) (p : Nat) : Option Nat := if p < bs.length ∧ bs.getD p 0 = 60 then (match fnb bs 62 (p + 1) (bs.length - (p + 1)) with | none => none | some q => if (adr (sub bs (p + 1) q)).isSome = true then some q else none) else none
theorem pth_b {bs : List Nat} {p q : Nat} (h : pth bs p = some q) : p < bs.length ∧ bs.getD p 0 = 60 ∧ p + 1 ≤ q ∧ q < bs.length ∧ (adr (sub bs (p + 1) q)).isSome = true := by
  unfold pth at h
  by_cases c : p < bs.length ∧ bs.getD p 0 = 60
  · rw [if_pos c] at h
    cases e : fnb bs 62 (p + 1) (bs.length - (p + 1)) with
    | none => rw [e] at h; cases h
    | some x =>
      rw [e] at h
      dsimp only at h
      obtain ⟨f1, f2, f3, f4⟩ := fnb_some e
      by_cases d : (adr (sub bs (p + 1) x)).isSome = true
      · rw [if_pos d] at h
        cases h
        exact ⟨c.1, c.2, f1, by omega, d⟩
      · rw [if_neg d] at h; cases h
  · rw [if_neg c] at h; cases h
def paI (k f : Nat) : Prop := k = 1079 ∧ (f = 21 ∨ f = 127)
theorem lo_i {c x : Nat} (hx : x < 65) : lo c = x ↔ c = x := by unfold lo; split <;> omega
theorem stB_1 {bs : List Nat} {p x : Nat} (hx : x < 65) : stB bs p [x] = decide (p < bs.length ∧ bs.getD p 0 = x) := by
  unfold stB
  rw [← Bool.decide_and]
  apply decide_eq_decide.mpr
  constructor
  · rintro ⟨a, b⟩
    have := b 0 (show 0 < 1 by decide)
    rw [Nat.add_zero] at this
    exact ⟨a, (lo_i hx).mp this⟩
  · rintro ⟨a, b⟩
    refine ⟨a, fun j hj => ?_⟩
    have hj0 : j = 0 := by have : j < 1 := hj; omega
    subst hj0
    rw [Nat.add_zero]
    exact (lo_i hx).mpr b
theorem r_path {t : uS} {bs : List Nat} {p : Nat} (h : rLn t bs) (h127 : t.I 1079 127 = nI p) (hp : p ≤ bs.length) : ∃ t1 : uS, fn_X12_path t = some (t1, (pth bs p).isSome) ∧ out paI onF t t1 ∧ ∀ q : Nat, pth bs p = some q → t1.I 1079 127 = nI (q + 1) ∧ r1 t1 (sub bs (p + 1) q) := by
  have hn := h.2.1
  have st := r_stands (w := kW_181) h h127 (by omega) (by unfold lwc; decide) (by decide)
  rw [show stB bs p kW_181 = decide (p < bs.length ∧ bs.getD p 0 = 60) from stB_1 (by decide)] at st
  unfold fn_X12_path
  rw [st, Option.bind_some]
  unfold pth
  by_cases c : p < bs.length ∧ bs.getD p 0 = 60
  · rw [if_pos c, decide_eq_true c, if_pos rfl, if_pos rfl]
    dsimp only
    obtain ⟨t0, ht0⟩ : ∃ t0, t0 = wI t 1079 127 (nI (p + kW_181.length)) := ⟨_, rfl⟩
    rw [← ht0]
    have h0 : rLn t0 bs := by rw [ht0]; exact h.w (by decide)
    have i0 : t0.I 1079 127 = nI (p + 1) := by rw [ht0, wI_e]; rfl
    have o0 : out paI onF t t0 := by rw [ht0]; exact out_I out_r ⟨rfl, by omega⟩
    have e : fn_X12_path_17 uFu (nI (p + 1)) t0 = fb_X12_path_43 (nI ((fnb bs 62 (p + 1) (bs.length - (p + 1))).getD bs.length)) t0 := by
      rw [fnb_ffst]
      refine fstL (F := fun N x => fn_X12_path_17 N x t0) (fin := fun o => fb_X12_path_43 (nI (o.getD bs.length)) t0) (L := bs.length) ?_ uFu (p + 1) (by show bs.length < p + 1 + 1000000; omega) (by omega)
      intro n i hi
      show fb_X12_path_17 (fn_X12_path_17 n) (nI i) t0 = _
      unfold fb_X12_path_17
      rw [h0.1]
      by_cases d : bs.length ≤ i
      · rw [if_pos (nI_le d (by omega)), if_pos d, show i = bs.length by omega]; rfl
      · rw [if_neg (nI_ge (by omega) (by omega)), if_neg d, g_1147 (by omega), Option.bind_some, h0.2.2.2 i (by omega), nI_1]
        have h8 := h.2.2.1 i
        by_cases g : bs.getD i 0 = 62
        · rw [if_pos (by rw [g]; rfl), if_pos (decide_eq_true g)]; rfl
        · rw [if_neg (show ¬ nI (bs.getD i 0) = 62 from fun z => g ((nI_eq (b := 62) (by omega) (by decide)).mp z)), if_neg (by rw [decide_eq_false g]; decide)]
    rw [i0, e]
    cases f : fnb bs 62 (p + 1) (bs.length - (p + 1)) with
    | none =>
      unfold fb_X12_path_43
      rw [h0.1, if_pos (show nI ((none : Option Nat).getD bs.length) = nI bs.length from rfl)]
      exact ⟨t0, rfl, o0, fun q hq => by cases hq⟩
    | some q =>
      obtain ⟨f1, f2, f3, f4⟩ := fnb_some f
      show ∃ t1 : uS, fb_X12_path_43 (nI q) t0 = _ ∧ _
      unfold fb_X12_path_43
      rw [h0.1, if_neg (by rw [nI_eq (by omega) (by omega)]; omega), i0]
      obtain ⟨t2, b1, b2, b3⟩ := r_oneCmd h0 f1 (show q ≤ bs.length by omega)
      rw [b1, Option.bind_some, nI_1]
      obtain ⟨t3, ht3⟩ : ∃ t3, t3 = wI t2 1079 127 (nI (q + 1)) := ⟨_, rfl⟩
      rw [← ht3]
      have b4 : r1 t3 (sub bs (p + 1) q) := by
        rw [ht3]
        exact ⟨by rw [wI_o (by omega)]; exact b2.1, b2.2.1, b2.2.2.1, fun j hj => by rw [wI_Fe]; exact b2.2.2.2 j hj⟩
      have o3 : out paI onF t t3 := out_t (out_t o0 (out_w b3 (fun k f z => ⟨z.1, Or.inl z.2⟩) (fun _ _ z => z))) (by rw [ht3]; exact out_I out_r ⟨rfl, by omega⟩)
      rw [r_atOf (t := t3) b4, Option.bind_some]
      dsimp only
      cases a : adr (sub bs (p + 1) q) with
      | none =>
        rw [if_pos (show oI none < 0 by decide), if_neg (by decide)]
        exact ⟨t3, rfl, o3, fun q hq => by cases hq⟩
      | some x =>
        have hx := (adr_at a).2
        have hsl := sub_len (x := bs) (a := p + 1) (b := q) (by omega) f1
        rw [if_neg (show ¬ oI (some x) < 0 from nI_nlt (b := 0) (Nat.zero_le _) (by omega)), if_pos (show (some x).isSome = true from rfl)]
        refine ⟨t3, rfl, o3, fun q' hq => ?_⟩
        cases hq
        exact ⟨by rw [ht3, wI_e], b4⟩
  · rw [if_neg c, decide_eq_false c]
    dsimp only
    rw [if_neg (by decide), if_neg (by decide)]
    exact ⟨t, rfl, out_r, fun q hq => by cases hq⟩
/-- with the empty path where it may stand -/
def pe (bs : List Nat) (p : Nat) (b3 : Bool) : Option Nat := if b3 = true ∧ stB bs p kW_185 = true then some (p + 1) else pth bs p
theorem stB_2 {bs : List Nat} {p : Nat} : stB bs p kW_185 = true ↔ p + 2 ≤ bs.length ∧ bs.getD p 0 = 60 ∧ bs.getD (p + 1) 0 = 62 := by
  unfold stB
  rw [Bool.and_eq_true, decide_eq_true_eq, decide_eq_true_eq]
  constructor
  · rintro ⟨a, b⟩
    have b0 := b 0 (by decide)
    have b1 := b 1 (by decide)
    rw [Nat.add_zero] at b0
    exact ⟨a, (lo_i (x := 60) (by decide)).mp b0, (lo_i (x := 62) (by decide)).mp b1⟩
  · rintro ⟨a, b0, b1⟩
    refine ⟨a, fun j hj => ?_⟩
    have hj2 : j < 2 := hj
    rcases (show j = 0 ∨ j = 1 by omega) with rfl | rfl
    · rw [Nat.add_zero]; exact (lo_i (x := 60) (by decide)).mpr b0
    · exact (lo_i (x := 62) (by decide)).mpr b1
theorem c_pend {s : uS} {bs : List Nat} {p : Nat} {b3 : Bool} (h : rdC s 1052 0 bs) (hl : bs.length ≤ 500) (hp : p ≤ bs.length) : fn_X0_pathEnd (nI p) (nI bs.length) b3 s = some (match pe bs p b3 with | none => -1 | some q => nI (q + 1)) := by
  have hby := h.2.1
  unfold fn_X0_pathEnd
  rw [if_pos (show (0 : Int32) ≤ nI p from nI_le (a := 0) (Nat.zero_le _) (by omega))]
  have fd := c_findA (b := 62) (i := p) h (by decide) (by omega) hp
  rw [Nat.zero_add, Nat.zero_add] at fd
  rw [show fn_X9_find 1052 (nI p) (nI bs.length) 62 s = _ from fd, Option.bind_some]
  have hpe0 : (∀ q : Nat, p ≤ q → q < bs.length → bs.getD q 0 ≠ 62) → pe bs p b3 = none := by
    intro hq
    unfold pe pth
    rw [if_neg (fun z => by have := stB_2.mp z.2; exact hq (p + 1) (by omega) (by omega) this.2.2)]
    by_cases c : p < bs.length ∧ bs.getD p 0 = 60
    · rw [if_pos c]
      cases f : fnb bs 62 (p + 1) (bs.length - (p + 1)) with
      | none => rfl
      | some x => obtain ⟨f1, f2, f3, f4⟩ := fnb_some f; exact absurd f3 (hq x (by omega) (by omega))
    · rw [if_neg c]
  have hpe1 : ¬ (p < bs.length ∧ bs.getD p 0 = 60) → pe bs p b3 = none := by
    intro c
    unfold pe pth
    rw [if_neg (fun z => by have := stB_2.mp z.2; exact c ⟨by omega, this.2.1⟩), if_neg c]
  cases f : fnb bs 62 p (bs.length - p) with
  | none =>
    rw [hpe0 (fun q y1 y2 => fnb_none f q y1 (by omega))]
    unfold fb_X0_pathEnd_19
    rw [if_pos (show (-1 : Int32) ≤ nI p by
      have e : (nI p).toInt = (p : Int) := nI_toInt (by omega)
      rw [Int32.le_iff_toInt_le, e]
      exact Int.le_trans (by decide) (Int.natCast_nonneg p))]
  | some q =>
    obtain ⟨f1, f2, f3, f4⟩ := fnb_some f
    dsimp only
    rw [Nat.zero_add]
    unfold fb_X0_pathEnd_19
    by_cases c : q ≤ p
    · have : q = p := by omega
      subst this
      rw [if_pos (nI_le c (by omega)), hpe1 (fun z => by have := z.2; omega)]
    · rw [if_neg (nI_ge (by omega) (by omega))]
      have hg := h.2.2 p (by omega)
      rw [Nat.zero_add] at hg
      rw [hg, Option.bind_some]
      have h8 := hby p
      have hne : bs.getD p 0 ≠ 62 := f4 p (Nat.le_refl _) (by omega)
      have hf2 : fnb bs 62 (p + 1) (bs.length - (p + 1)) = some q := by rw [← fnb_step (by omega) hne]; exact f
      by_cases d : bs.getD p 0 = 60
      · rw [if_pos (show sb (bs.getD p 0) = 60 from (sb_e (c := 60) h8 (by decide)).mpr d)]
        have hsl := sub_len (x := bs) (a := p + 1) (b := q) (by omega) (by omega)
        have e52 : fb_X0_pathEnd_52 (nI p) (nI q) s = some (if (adr (sub bs (p + 1) q)).isSome = true then nI (q + 1) else -1) := by
          unfold fb_X0_pathEnd_52 fb_X0_pathEnd_72
          have ca := c_addr (h.sub (a := p + 1) (b := q) (by omega) (by omega)) (by omega)
          rw [Nat.zero_add, show p + 1 + (sub bs (p + 1) q).length = q by omega] at ca
          rw [nI_1, ca, Option.bind_some, nI_1]
          cases (adr (sub bs (p + 1) q)).isSome with
          | true => rfl
          | false => rfl
        have ept : pth bs p = if (adr (sub bs (p + 1) q)).isSome = true then some q else none := by
          unfold pth
          rw [if_pos ⟨by omega, d⟩, hf2]
        have e52' : (pe bs p b3 = pth bs p) → fb_X0_pathEnd_52 (nI p) (nI q) s = some (match pe bs p b3 with | none => -1 | some q => nI (q + 1)) := by
          intro y
          rw [e52, y, ept]
          cases (adr (sub bs (p + 1) q)).isSome with
          | true => rfl
          | false => rfl
        cases b3 with
        | false =>
          rw [if_neg (by decide)]
          exact e52' (by unfold pe; rw [if_neg (fun z => Bool.noConfusion z.1)])
        | true =>
          rw [if_pos rfl, nI_1]
          by_cases g : q = p + 1
          · rw [if_pos (by rw [g])]
            unfold fb_X0_pathEnd_72 pe
            rw [if_pos rfl, if_pos ⟨rfl, stB_2.mpr ⟨by omega, d, by rw [← g]; exact f3⟩⟩, nI_1, g]
          · rw [if_neg (by rw [nI_eq (by omega) (by omega)]; exact g)]
            exact e52' (by unfold pe; rw [if_neg (fun z => by have := stB_2.mp z.2; exact f4 (p + 1) (by omega) (by omega) this.2.2)])
      · rw [if_neg (show ¬ sb (bs.getD p 0) = 60 from fun z => d ((sb_e (c := 60) h8 (by decide)).mp z)), hpe1 (fun z => d z.2)]
/-- where a path begins: behind a word and a blank -/
theorem stB_sp {bs W : List Nat} (h : bs.length = 4 ∨ bs.getD 4 0 = 32) : stB bs 4 (32 :: W) = stB bs 5 W := by
  rw [Bool.eq_iff_iff]
  unfold stB
  simp only [Bool.and_eq_true, decide_eq_true_eq, List.length_cons]
  constructor
  · rintro ⟨a, b⟩
    refine ⟨by omega, fun j hj => ?_⟩
    have := b (j + 1) (by omega)
    rw [show 4 + (j + 1) = 5 + j by omega] at this
    exact this
  · rintro ⟨a, b⟩
    refine ⟨by omega, fun j hj => ?_⟩
    cases j with
    | zero =>
      rw [Nat.add_zero]
      rcases h with h | h
      · omega
      · exact lo32.mpr h
    | succ j =>
      have := b j (by omega)
      rw [show 4 + (j + 1) = 5 + j by omega]
      exact this
theorem c_pstart {s : uS} {bs w W : List Nat} (h : rdC s 1052 0 bs) (hl : bs.length ≤ 500) (hw : w.length ≤ 10) (hws : spl w = (w, [])) (hW : w.map lo = W) (hlw : lwc W) (h128 : ∀ c ∈ w, c < 128) : fn_X0_pathStart w (nI bs.length) s = some (if stB bs 5 W = true then nI (5 + w.length) else -1) := by
  have hWl : W.length = w.length := by rw [← hW, List.length_map]
  unfold fn_X0_pathStart
  rw [show (5 : Int32) + nI w.length = nI (5 + w.length) from nI_add 5 _]
  by_cases c : bs.length < 5 + w.length
  · rw [if_pos (nI_lt c (by omega))]
    have : stB bs 5 W = false := by unfold stB; rw [decide_eq_false (by omega)]; rfl
    rw [this, if_neg (by decide)]
  · rw [if_neg (nI_nlt (by omega) (by omega))]
    have hs := h.sub (a := 5) (b := 5 + w.length) (by omega) (by omega)
    have hsl := sub_len (x := bs) (a := 5) (b := 5 + w.length) (by omega) (by omega)
    have cp := c_place (W := w) hs h128 (by omega)
    rw [Nat.zero_add, show 5 + (sub bs 5 (5 + w.length)).length = 5 + w.length by omega, plc_1 hws] at cp
    rw [show fn_X9_place w 1052 5 (nI (5 + w.length)) s = _ from cp, Option.bind_some]
    have e : eqW (sub bs 5 (5 + w.length)) w = stB bs 5 W := by
      rw [← eqW_lo, hW, ← hWl, eqW_sub hlw (by omega)]
      unfold stB
      rw [decide_eq_true (show 5 + W.length ≤ bs.length by omega)]
      rfl
    rw [e]
    cases stB bs 5 W with
    | true => rfl
    | false => rfl
