/-! notes of vacation on both sides -/
abbrev nT : Type := Nat × List Nat × List Nat
def nt0 : nT := (0, [], [])
def cNt (s : uS) (u : Nat) (ns : List nT) : Prop := ns.length ≤ 40 ∧ s.I (985 + 16 * u) 4 = nI ns.length ∧ ∀ i : Nat, i < ns.length → ∃ e : Nat, s.P (985 + 16 * u + 2) i = some e ∧ e < s.n ∧ 1171 ≤ e ∧ (s.c e).1 = 1 ∧ s.I e 5 = nI (ns.getD i nt0).1 ∧ (∃ lb : Nat, s.R e 0 = some lb ∧ lb ≠ 0 ∧ cBn s lb (ns.getD i nt0).2.1) ∧ ∃ tx : Nat, s.R e 1 = some tx ∧ cBn s tx (ns.getD i nt0).2.2
/-- a byte of a handle in the reference -/
def hdb (t : uS) (q j : Nat) : Int32 := ((if q < 80 then t.L 1133 (q % 80 * 125 + j / 8) else t.L 1134 (q % 80 * 125 + j / 8)) >>> Int64.ofNat (56 - 8 * (j % 8))).toInt32 &&& 255
def rNe (t : uS) (q : Nat) (x : nT) : Prop := t.F 1130 q = nI x.1 ∧ t.F 1132 q = nI x.2.1.length ∧ (∀ j : Nat, j < x.2.1.length → t.F 1131 (101 * q + j) = nI (x.2.1.getD j 0)) ∧ t.F 1135 q = nI x.2.2.length ∧ ∀ j : Nat, j < x.2.2.length → hdb t q j = nI (x.2.2.getD j 0)
def rNt (t : uS) (u : Nat) (ns : List nT) : Prop := t.F 1129 u = nI ns.length ∧ ∀ i : Nat, i < ns.length → rNe t (40 * u + i) (ns.getD i nt0)
/-- notes as they come: days in order, sizes -/
def ntO (ns : List nT) (today : Nat) : Prop := ns.length ≤ 40 ∧ today < 2 ^ 30 ∧ (∀ i j : Nat, i ≤ j → j < ns.length → (ns.getD i nt0).1 ≤ (ns.getD j nt0).1) ∧ ∀ i : Nat, i < ns.length → (ns.getD i nt0).1 ≤ today ∧ (ns.getD i nt0).2.1.length ≤ 101 ∧ bys (ns.getD i nt0).2.1 ∧ (ns.getD i nt0).2.2.length ≤ 1000 ∧ bys (ns.getD i nt0).2.2
def ntB (snd hd : List Nat) (x : nT) : Bool := eqT true snd x.2.1 && decide (hd = x.2.2)
def anB (ns : List nT) (snd hd : List Nat) (today dd : Nat) : Bool := anyB (fun k => ntB snd hd (ns.getD k nt0) && decide (today < (ns.getD k nt0).1 + dd)) ns.length 0
def lasN (p : Nat → Bool) : Nat → Option Nat
  | 0 => none
  | n + 1 => if p n = true then some n else lasN p n
theorem lasN_some {p : Nat → Bool} : ∀ {n i : Nat}, lasN p n = some i → i < n ∧ p i = true ∧ ∀ j : Nat, i < j → j < n → p j = false
  | 0, i, h => by cases h
  | n + 1, i, h => by
    unfold lasN at h
    by_cases c : p n = true
    · rw [if_pos c] at h
      cases h
      exact ⟨by omega, c, fun j a b => by omega⟩
    · rw [if_neg c] at h
      obtain ⟨a, b, d⟩ := lasN_some h
      refine ⟨by omega, b, fun j x y => ?_⟩
      by_cases e : j = n
      · rw [e]; revert c; cases p n <;> simp
      · exact d j x (by omega)
theorem lasN_none {p : Nat → Bool} : ∀ {n : Nat}, lasN p n = none → ∀ j : Nat, j < n → p j = false
  | 0, _, j, hj => by omega
  | n + 1, h, j, hj => by
    unfold lasN at h
    by_cases c : p n = true
    · rw [if_pos c] at h; cases h
    · rw [if_neg c] at h
      by_cases e : j = n
      · rw [e]; revert c; cases p n <;> simp
      · exact lasN_none h j (by omega)
/-- of several notes the latest decides -/
theorem anB_l {ns : List nT} {snd hd : List Nat} {today dd : Nat} (h : ntO ns today) : anB ns snd hd today dd = match lasN (fun k => ntB snd hd (ns.getD k nt0)) ns.length with | none => false | some i => decide (today < (ns.getD i nt0).1 + dd) := by
  cases c : lasN (fun k => ntB snd hd (ns.getD k nt0)) ns.length with
  | none =>
    have hn := lasN_none c
    dsimp only
    cases d : anB ns snd hd today dd with
    | false => rfl
    | true =>
      obtain ⟨j, -, j2, j3⟩ := (anyB_iff _ _).mp d
      have := hn j (by omega)
      rw [this] at j3
      cases j3
  | some i =>
    obtain ⟨h1, h2, h3⟩ := lasN_some c
    dsimp only
    rw [Bool.eq_iff_iff]
    unfold anB
    rw [anyB_iff, decide_eq_true_eq]
    constructor
    · rintro ⟨j, -, j2, j3⟩
      rw [Bool.and_eq_true, decide_eq_true_eq] at j3
      by_cases e : i < j
      · have := h3 j e (by omega)
        rw [j3.1] at this
        cases this
      · have := h.2.2.1 j i (by omega) h1
        omega
    · intro z
      exact ⟨i, by omega, by omega, by rw [h2, decide_eq_true z]; rfl⟩
theorem ul_usr {u : Nat} (hu : u < 4) : ucl (985 + 16 * u + 2) = (27, 40) ∧ ucl (985 + 16 * u + 1) = (27, 4) := by
  have : ∀ u, u < 4 → ucl (985 + 16 * u + 2) = (27, 40) ∧ ucl (985 + 16 * u + 1) = (27, 4) := by decide +kernel
  exact this u hu
theorem pgt_nt {s : uS} {u i : Nat} (hu : u < 4) (hi : i < 40) : pgt 27 s (985 + 16 * u + 2) (nI i) = s.P (985 + 16 * u + 2) i := by
  rw [pgt_c (by omega) (ul_usr hu).1 hi (by decide)]
  unfold uP uCl
  rw [if_pos (show (if 985 + 16 * u + 2 < 1171 then ucl (985 + 16 * u + 2) else s.c (985 + 16 * u + 2)).1 = 27 by rw [if_pos (by omega), (ul_usr hu).1])]
/-- the class -/
theorem c_late {s : uS} {u h bg bg2 : Nat} {ns : List nT} {snd : List Nat} {ts : List (List Nat)} (hu : u < 4) (hN : cNt s u ns) (hs : cTz s 1043 101 1 [snd] bg []) (ht : cTz s 8 2000 301 ts bg2 []) (hh : h < ts.length) : ∃ o : Option Nat, fn_X10_latestNote (985 + 16 * u) 1043 8 (nI h) s = some o ∧ (o = none ∧ lasN (fun k => ntB snd (ts.getD h []) (ns.getD k nt0)) ns.length = none ∨ ∃ i e : Nat, lasN (fun k => ntB snd (ts.getD h []) (ns.getD k nt0)) ns.length = some i ∧ o = some e ∧ uIs s e 1 ∧ s.I e 5 = nI (ns.getD i nt0).1) := by
  obtain ⟨n1, n2, n3⟩ := hN
  have key : ∀ (n N : Nat), n ≤ ns.length → n + 1 ≤ N → ∃ o : Option Nat, fn_X10_latestNote_8 N (985 + 16 * u) 1043 8 (nI h) (nI n - 1) s = some o ∧ (o = none ∧ lasN (fun k => ntB snd (ts.getD h []) (ns.getD k nt0)) n = none ∨ ∃ i e : Nat, lasN (fun k => ntB snd (ts.getD h []) (ns.getD k nt0)) n = some i ∧ o = some e ∧ uIs s e 1 ∧ s.I e 5 = nI (ns.getD i nt0).1) := by
    intro n
    induction n with
    | zero =>
      intro N h1 h2
      obtain ⟨M, rfl⟩ : ∃ M, N = M + 1 := ⟨N - 1, by omega⟩
      refine ⟨none, ?_, Or.inl ⟨rfl, rfl⟩⟩
      show fb_X10_latestNote_8 (fn_X10_latestNote_8 M) (985 + 16 * u) 1043 8 (nI h) (nI 0 - 1) s = _
      unfold fb_X10_latestNote_8
      rw [if_pos (by decide)]
    | succ n ih =>
      intro N h1 h2
      obtain ⟨M, rfl⟩ : ∃ M, N = M + 1 := ⟨N - 1, by omega⟩
      obtain ⟨e, e1, e2, e3, e4, e5, ⟨lb, l1, l2, l3⟩, tx, x1, x2⟩ := n3 n (by omega)
      have hie : uIs s e 1 := by
        refine ⟨Or.inr e2, ?_⟩
        unfold uCl
        rw [if_neg (by omega)]
        exact e4
      have hp : pgt 27 s (985 + 16 * u + 2) (nI n) = some e := by rw [pgt_nt hu (by omega)]; exact e1
      have hq : nI (n + 1) - 1 = nI n := nI_sub (a := n + 1) (b := 1) (by omega)
      have hs1 : fn_X9_isSame 1043 0 lb true s = some (eqT true snd (ns.getD n nt0).2.1) := c_isSame (i := 0) uTx_sn hs Nat.zero_lt_one l3
      have hs2 := c_isSame (ci := false) uTx_str ht hh x2
      rw [eqT_f] at hs2
      have step : fn_X10_latestNote_8 (M + 1) (985 + 16 * u) 1043 8 (nI h) (nI (n + 1) - 1) s = if ntB snd (ts.getD h []) (ns.getD n nt0) = true then some (some e) else fn_X10_latestNote_8 M (985 + 16 * u) 1043 8 (nI h) (nI n - 1) s := by
        rw [hq]
        show fb_X10_latestNote_8 (fn_X10_latestNote_8 M) (985 + 16 * u) 1043 8 (nI h) (nI n) s = _
        unfold fb_X10_latestNote_8 ntB
        rw [if_neg (nI_pos (by omega)), hp, Option.bind_some, if_pos hie, l1, Option.bind_some, if_pos l2, hs1, Option.bind_some]
        have hm1 : nI n + (-1) = nI n - 1 := by
          cases n with
          | zero => rfl
          | succ n => rw [nI_m1]; exact (nI_sub (a := n + 1) (b := 1) (by omega)).symm
        cases eqT true snd (ns.getD n nt0).2.1 with
        | false => rw [if_neg (by decide), Bool.false_and, if_neg (by decide), hm1]
        | true =>
          rw [if_pos rfl, Option.bind_some, if_pos hie, x1, Option.bind_some, hs2, Option.bind_some, Bool.true_and]
          by_cases c : ts.getD h [] = (ns.getD n nt0).2.2
          · rw [if_pos (decide_eq_true c), if_pos (decide_eq_true c), Option.bind_some]
          · rw [if_neg (by rw [decide_eq_true_eq]; exact c), if_neg (by rw [decide_eq_true_eq]; exact c), hm1]
      rw [step]
      by_cases c : ntB snd (ts.getD h []) (ns.getD n nt0) = true
      · rw [if_pos c]
        refine ⟨some e, rfl, Or.inr ⟨n, e, ?_, rfl, hie, e5⟩⟩
        unfold lasN
        rw [if_pos c]
      · rw [if_neg c]
        obtain ⟨o, o1, o2⟩ := ih M (by omega) (by omega)
        refine ⟨o, o1, ?_⟩
        unfold lasN
        rw [if_neg c]
        exact o2
  unfold fn_X10_latestNote
  rw [n2]
  exact key ns.length uFu (Nat.le_refl _) (by show _ ≤ 1000000; omega)
/-! the reference -/
theorem r_hdAt {t : uS} {q j : Nat} (hq : q < 160) (hj : j < 1000) : fn_X12_handleAt (nI q) (nI j) t = some (hdb t q j) := by
  have e : ∀ r, r < 8 → ((56 : Int32) - ((8 : Int32) * nI r)).toInt64 &&& 63 = Int64.ofNat (56 - 8 * r) := by decide
  have e2 : nI j - nI j / 8 * 8 = nI (j % 8) := pk_rem (d := 8) (by omega) (by decide) (by decide)
  have e3 : nI j / 8 = nI (j / 8) := pk_div (d := 8) (by omega) (by decide) (by decide)
  have e4 : nI q - nI q / 80 * 80 = nI (q % 80) := pk_rem (d := 80) (by omega) (by decide) (by decide)
  unfold fn_X12_handleAt fb_X12_handleAt_34 hdb
  rw [e2, e _ (Nat.mod_lt _ (by decide)), e3, e4, show (125 : Int32) = nI 125 from rfl, nI_mul, nI_add]
  by_cases c : q < 80
  · rw [if_neg (show ¬ (80 : Int32) ≤ nI q from nI_ge (b := 80) c (by decide)), if_pos c, g_1133 (by omega), Option.bind_some]
  · rw [if_pos (show (80 : Int32) ≤ nI q from nI_le (a := 80) (by omega) (by omega)), if_neg c, g_1134 (by omega), Option.bind_some]
/-- the reference's handle: told, or the reason -/
def rHd (t : uS) (nv h : Nat) : Prop := t.I 1079 105 = nI nv ∧ nv < 520 ∧ ((t.F 1115 nv = nI h) ∨ (t.F 1115 nv = -1 ∧ t.F 1102 nv = nI h))
theorem r_hdS {t : uS} {nv h : Nat} (hh : rHd t nv h) (hb : h < 2 ^ 31) : fn_X12_handleString t = some (nI h) := by
  obtain ⟨h1, h2, h3⟩ := hh
  unfold fn_X12_handleString
  rw [h1, g_1115 h2, Option.bind_some]
  rcases h3 with a | ⟨a, b⟩
  · rw [a, if_neg (nI_pos hb), Option.bind_some]
  · rw [a, if_pos (by decide), g_1102 h2, Option.bind_some, b]
theorem r_isNt {t : uS} {q nv h : Nat} {x : nT} {snd : List Nat} {ts : List (List Nat)} (hq : q < 160) (hx : rNe t q x) (hl1 : x.2.1.length ≤ 101) (hb1 : bys x.2.1) (hl2 : x.2.2.length ≤ 1000) (hb2 : bys x.2.2) (hs : rTe t 93 1137 snd) (hst : rSt t ts) (hh : rHd t nv h) (hht : h < ts.length) : fn_X12_isNote (nI q) t = some (ntB snd (ts.getD h []) x) := by
  obtain ⟨x1, x2, x3, x4, x5⟩ := hx
  obtain ⟨y1, y2, y3, y4⟩ := hs
  obtain ⟨bg, s1, s2, s3, s4⟩ := hst
  obtain ⟨a, a1, a2, a3, al, a4⟩ := s1 h hht
  have hbh := s4 h
  have h98 : ∀ B : Bool, (B = true → x.2.2.length = (ts.getD h []).length) → fn_X12_isNote_98 uFu (nI q) (nI h) B 0 t = some (B && decide (∀ j : Nat, j < (ts.getD h []).length → decide (x.2.2.getD j 0 = (ts.getD h []).getD j 0) = true)) := by
    intro B hB
    generalize ts.getD h [] = y at *
    cases B with
    | false =>
      show fb_X12_isNote_98 (fn_X12_isNote_98 999999) (nI q) (nI h) false (nI 0) t = _
      unfold fb_X12_isNote_98
      rw [if_neg (by decide), Bool.false_and]
    | true =>
      have hl := hB rfl
      refine cmp0 (F := fun n b z => fn_X12_isNote_98 n (nI q) (nI h) b z t) (fin := fun b => some b) (L := y.length) (p := fun j => decide (x.2.2.getD j 0 = y.getD j 0)) (fun n b i hi => ?_) (by show _ < 1000000; omega) true
      show fb_X12_isNote_98 (fn_X12_isNote_98 n) (nI q) (nI h) b (nI i) t = _
      unfold fb_X12_isNote_98
      cases b with
      | false =>
        rw [if_neg (by decide)]
        by_cases c : y.length ≤ i
        · rw [if_pos c]
        · rw [if_neg c, if_neg (by decide)]
      | true =>
        rw [if_pos rfl, g_1117 (by omega), Option.bind_some, a3]
        by_cases c : y.length ≤ i
        · rw [if_pos (nI_le c (by omega)), if_pos c]
        · rw [if_neg (nI_ge (by omega) (by omega)), if_neg c, if_pos rfl, r_hdAt hq (by omega), Option.bind_some, x5 i (by omega), g_1116 (by omega), Option.bind_some, a2, nI_add, g_1097 (by omega), Option.bind_some, a4 i (by omega), nI_1]
          have e := nI_eq (a := x.2.2.getD i 0) (b := y.getD i 0) (by have := hb2 i; omega) (by have := hbh i; omega)
          by_cases z : x.2.2.getD i 0 = y.getD i 0
          · rw [if_pos (e.mpr z), decide_eq_true z]
          · rw [if_neg (fun w => z (e.mp w)), decide_eq_false z]
  have h42 : ∀ B : Bool, (B = true → x.2.1.length = snd.length) → fn_X12_isNote_42 uFu (nI q) (nI h) B 0 t = fn_X12_isNote_98 uFu (nI q) (nI h) (B && decide (∀ j : Nat, j < snd.length → eqB true (x.2.1.getD j 0) (snd.getD j 0) = true)) 0 t := by
    intro B hB
    cases B with
    | false =>
      rw [Bool.false_and]
      show fb_X12_isNote_42 (fn_X12_isNote_42 999999) (nI q) (nI h) false (nI 0) t = _
      unfold fb_X12_isNote_42
      by_cases c : snd.length ≤ 0
      · rw [y1, if_pos (nI_le c (by decide))]
      · rw [y1, if_neg (nI_ge (by omega) (by omega)), if_neg (by decide)]
    | true =>
      have hl := hB rfl
      refine cmp0 (F := fun n b z => fn_X12_isNote_42 n (nI q) (nI h) b z t) (fin := fun b => fn_X12_isNote_98 uFu (nI q) (nI h) b 0 t) (L := snd.length) (p := fun j => eqB true (x.2.1.getD j 0) (snd.getD j 0)) (fun n b i hi => ?_) (by show _ < 1000000; omega) true
      show fb_X12_isNote_42 (fn_X12_isNote_42 n) (nI q) (nI h) b (nI i) t = _
      unfold fb_X12_isNote_42
      rw [y1]
      by_cases c : snd.length ≤ i
      · rw [if_pos (nI_le c (by omega)), if_pos c]
      · rw [if_neg (nI_ge (by omega) (by omega)), if_neg c]
        cases b with
        | false => rw [if_neg (by decide), if_neg (by decide)]
        | true =>
          have w1 := hb1 i
          have w2 := y3 i
          rw [if_pos rfl, if_pos rfl, show (101 : Int32) = nI 101 from rfl, nI_mul, nI_add, g_1131 (by omega), Option.bind_some, x3 i (by omega), r_lowN (by omega), Option.bind_some, g_1137 (by omega), Option.bind_some, y4 i (by omega), r_lowN (by omega), Option.bind_some, nI_1]
          have e := nI_eq (a := lo (x.2.1.getD i 0)) (b := lo (snd.getD i 0)) (by have := lo_lt w1; omega) (by have := lo_lt w2; omega)
          unfold eqB
          rw [if_pos rfl]
          by_cases z : lo (x.2.1.getD i 0) = lo (snd.getD i 0)
          · rw [if_pos (e.mpr z), decide_eq_true z]
          · rw [if_neg (fun w => z (e.mp w)), decide_eq_false z]
  have hfin : ∀ B : Bool, (B = true → x.2.1.length = snd.length ∧ x.2.2.length = (ts.getD h []).length) → fn_X12_isNote_42 uFu (nI q) (nI h) B 0 t = some (B && decide (∀ j : Nat, j < snd.length → eqB true (x.2.1.getD j 0) (snd.getD j 0) = true) && decide (∀ j : Nat, j < (ts.getD h []).length → decide (x.2.2.getD j 0 = (ts.getD h []).getD j 0) = true)) := by
    intro B hB
    rw [h42 B (fun z => (hB z).1), h98 _ (fun z => (hB (by revert z; cases B <;> simp)).2)]
  unfold fn_X12_isNote
  rw [r_hdS hh (by omega), Option.bind_some, g_1132 hq, Option.bind_some, x2, y1]
  have eL := nI_eq (a := x.2.1.length) (b := snd.length) (by omega) (by omega)
  have eH := nI_eq (a := x.2.2.length) (b := (ts.getD h []).length) (by omega) (by omega)
  have hB : ntB snd (ts.getD h []) x = (decide (x.2.1.length = snd.length ∧ x.2.2.length = (ts.getD h []).length) && decide (∀ j : Nat, j < snd.length → eqB true (x.2.1.getD j 0) (snd.getD j 0) = true) && decide (∀ j : Nat, j < (ts.getD h []).length → decide (x.2.2.getD j 0 = (ts.getD h []).getD j 0) = true)) := by
    unfold ntB
    rw [eqT_c, ← eqT_f]
    have : eqT false (ts.getD h []) x.2.2 = eqT false x.2.2 (ts.getD h []) := by
      rw [eqT_f, eqT_f]
      exact decide_eq_decide.mpr ⟨fun z => z.symm, fun z => z.symm⟩
    rw [this]
    unfold eqT
    have hq2 : (decide (∀ j : Nat, j < (ts.getD h []).length → eqB false (x.2.2.getD j 0) ((ts.getD h []).getD j 0) = true)) = decide (∀ j : Nat, j < (ts.getD h []).length → decide (x.2.2.getD j 0 = (ts.getD h []).getD j 0) = true) := rfl
    rw [hq2]
    by_cases c1 : x.2.1.length = snd.length
    · by_cases c2 : x.2.2.length = (ts.getD h []).length
      · rw [decide_eq_true c1, decide_eq_true c2, decide_eq_true (⟨c1, c2⟩ : _ ∧ _), Bool.true_and, Bool.true_and]
      · rw [decide_eq_false c2, decide_eq_false (fun z : x.2.1.length = snd.length ∧ x.2.2.length = (ts.getD h []).length => c2 z.2), Bool.false_and, Bool.and_false, Bool.false_and, Bool.false_and]
    · rw [decide_eq_false c1, decide_eq_false (fun z : x.2.1.length = snd.length ∧ x.2.2.length = (ts.getD h []).length => c1 z.1), Bool.false_and, Bool.false_and, Bool.false_and]
  rw [hB]
  by_cases c1 : x.2.1.length = snd.length
  · rw [if_pos (eL.mpr c1), g_1135 hq, Option.bind_some, x4, g_1117 (by omega), Option.bind_some, a3]
    by_cases c2 : x.2.2.length = (ts.getD h []).length
    · rw [if_pos (eH.mpr c2), hfin true (fun _ => ⟨c1, c2⟩), decide_eq_true (⟨c1, c2⟩ : _ ∧ _)]
    · rw [if_neg (fun z => c2 (eH.mp z)), hfin false (fun z => by cases z), decide_eq_false (fun z : x.2.1.length = snd.length ∧ x.2.2.length = (ts.getD h []).length => c2 z.2)]
  · rw [if_neg (fun z => c1 (eL.mp z)), hfin false (fun z => by cases z), decide_eq_false (fun z : x.2.1.length = snd.length ∧ x.2.2.length = (ts.getD h []).length => c1 z.1)]
/-- how many days: none told 7 -/
def ddN : Option Nat → Nat
  | none => 7
  | some d => if d < 1 then 1 else if 30 < d then 30 else d
theorem ddN_le (o : Option Nat) : ddN o ≤ 30 := by
  cases o with
  | none => decide
  | some d =>
    show (if d < 1 then 1 else if 30 < d then 30 else d) ≤ 30
    by_cases c : d < 1
    · rw [if_pos c]; decide
    · rw [if_neg c]
      by_cases e : 30 < d
      · rw [if_pos e]; exact Nat.le_refl _
      · rw [if_neg e]; omega
theorem r_answd {t : uS} {u nv h today : Nat} {ns : List nT} {snd : List Nat} {ts : List (List Nat)} {dg : Option Nat} (hu : u < 4) (h89 : t.I 1079 89 = nI u) (hN : rNt t u ns) (hO : ntO ns today) (hd : t.I 1079 1 = nI today) (hs : rTe t 93 1137 snd) (hst : rSt t ts) (hh : rHd t nv h) (hht : h < ts.length) (hdg : t.F 1113 nv = oI dg) (hdb : ∀ d : Nat, dg = some d → d < 2 ^ 31) : fn_X12_answered t = some (anB ns snd (ts.getD h []) today (ddN dg)) := by
  obtain ⟨n1, n2⟩ := hN
  obtain ⟨o1, o2, o3, o4⟩ := hO
  have key : ∀ dd : Nat, dd ≤ 30 → fn_X12_answered_45 uFu (nI dd) false 0 t = some (anB ns snd (ts.getD h []) today dd) := by
    intro dd hdd
    have := or0 (F := fun n b x => fn_X12_answered_45 n (nI dd) b x t) (p := fun k => ntB snd (ts.getD h []) (ns.getD k nt0) && decide (today < (ns.getD k nt0).1 + dd)) (fin := fun b => some b) (L := ns.length) (fun n b k hk => ?_) (by show _ < 1000000; omega) false
    · rw [Bool.false_or] at this
      exact this
    · show fb_X12_answered_45 (fn_X12_answered_45 n) (nI dd) b (nI k) t = _
      unfold fb_X12_answered_45
      rw [h89, g_1129 hu, Option.bind_some, n1]
      by_cases c : ns.length ≤ k
      · rw [if_pos (nI_le c (by omega)), if_pos c]
      · rw [if_neg (nI_ge (by omega) (by omega)), if_neg c, nI_1]
        cases b with
        | true => rw [if_pos rfl, Bool.true_or]
        | false =>
          obtain ⟨q1, q2, q3, q4, q5⟩ := o4 k (by omega)
          have hne := n2 k (by omega)
          rw [if_neg (by decide), show (40 : Int32) = nI 40 from rfl, nI_mul, nI_add, r_isNt (by omega) hne q2 q3 q4 q5 hs hst hh hht, Option.bind_some, Bool.false_or]
          cases ntB snd (ts.getD h []) (ns.getD k nt0) with
          | false => rw [if_neg (by decide), Bool.false_and]
          | true =>
            rw [if_pos rfl, Bool.true_and, g_1130 (by omega), Option.bind_some, hne.1, nI_add, hd]
            by_cases z : today < (ns.getD k nt0).1 + dd
            · rw [if_neg (nI_ge z (by omega)), decide_eq_true z]
            · rw [if_pos (nI_le (by omega) (by omega)), decide_eq_false z]
  unfold fn_X12_answered
  rw [hh.1, g_1113 hh.2.1, Option.bind_some, hdg]
  cases dg with
  | none =>
    rw [show oI (none : Option Nat) = -1 from rfl, if_neg (by decide)]
    exact key 7 (by decide)
  | some d =>
    have hd3 := hdb d rfl
    rw [show oI (some d) = nI d from rfl, if_pos (nI_pos' hd3)]
    show _ = some (anB ns snd (ts.getD h []) today (if d < 1 then 1 else if 30 < d then 30 else d))
    by_cases c1 : d < 1
    · rw [if_neg (show ¬ (1 : Int32) ≤ nI d from nI_ge (b := 1) c1 (by decide)), if_pos c1]
      exact key 1 (by decide)
    · rw [if_pos (show (1 : Int32) ≤ nI d from nI_le (a := 1) (by omega) hd3), if_neg c1]
      by_cases c2 : 30 < d
      · rw [if_neg (show ¬ nI d ≤ 30 from nI_ge (a := 30) c2 hd3), if_pos c2]
        exact key 30 (by decide)
      · rw [if_pos (show nI d ≤ 30 from nI_le (b := 30) (by omega) (by decide)), if_neg c2]
        exact key d (by omega)
