/-! addresses on both sides -/
def okA (loc : Bool) (c : Nat) : Bool := isLb c || isDb c || (if loc = true then decide (c ∈ kW_68) else decide (c ∈ kW_69))
abbrev cnd (w : List Nat) (a : Nat) (loc : Bool) (j : Nat) : Prop := if w.getD j 0 = 46 then a < j ∧ w.getD (j - 1) 0 ≠ 46 else okA loc (w.getD j 0) = true
def allB (p : Nat → Bool) : Nat → Nat → Bool
  | 0, _ => true
  | n + 1, i => p i && allB p n (i + 1)
theorem allB_iff {p : Nat → Bool} : ∀ {n i : Nat}, allB p n i = true ↔ ∀ j : Nat, i ≤ j → j < i + n → p j = true := by
  intro n
  induction n with
  | zero => intro i; exact ⟨fun _ j a b => by omega, fun _ => rfl⟩
  | succ n ih =>
    intro i
    unfold allB
    rw [Bool.and_eq_true, ih]
    constructor
    · intro h j a b
      by_cases c : j = i
      · rw [c]; exact h.1
      · exact h.2 j (by omega) (by omega)
    · intro h
      exact ⟨h i (Nat.le_refl _) (by omega), fun j a b => h j (by omega) (by omega)⟩
def dotB (w : List Nat) (a b : Nat) (loc : Bool) : Bool := allB (fun j => decide (cnd w a loc j)) (b - a) a && decide (w.getD (b - 1) 0 ≠ 46)
def dot (w : List Nat) (a b most : Nat) (loc : Bool) : Bool := decide (a < b) && decide (b - a ≤ most) && dotB w a b loc
theorem c_plainc {c : Nat} (h : c < 256) {K21 : Nat → Int32 → List Nat → Int32 → Int32 → uS → Option Bool} {k0 : Nat} {x2 x5 x6 : Int32} {W : List Nat} {s : uS} : (if nI c < 65 then (fb_X9_isDotted_51 K21 k0 x2 W x5 x6 (nI c) s) else (if nI c ≤ 90 then (fb_X9_isDotted_84 K21 k0 x2 W x5 x6 (nI c) true s) else (fb_X9_isDotted_51 K21 k0 x2 W x5 x6 (nI c) s))) = fb_X9_isDotted_84 K21 k0 x2 W x5 x6 (nI c) (isLb c || isDb c) s := by
  have l65 : nI c < (65 : Int32) ↔ c < 65 := nI_ltJ (b := 65) (by omega) (by decide)
  have l97 : nI c < (97 : Int32) ↔ c < 97 := nI_ltJ (b := 97) (by omega) (by decide)
  have l48 : nI c < (48 : Int32) ↔ c < 48 := nI_ltJ (b := 48) (by omega) (by decide)
  have l57 : (57 : Int32) < nI c ↔ 57 < c := nI_ltJ (a := 57) (by decide) (by omega)
  have e90 : nI c ≤ (90 : Int32) ↔ c ≤ 90 := ⟨fun z => Nat.le_of_not_lt fun y => nI_ge (a := 90) y (by omega) z, fun z => nI_le z (by decide)⟩
  have e122 : nI c ≤ (122 : Int32) ↔ c ≤ 122 := ⟨fun z => Nat.le_of_not_lt fun y => nI_ge (a := 122) y (by omega) z, fun z => nI_le z (by decide)⟩
  unfold fb_X9_isDotted_51 fb_X9_isDotted_65
  simp only [l65, l97, l48, l57, e90, e122]
  unfold isLb isDb
  by_cases a1 : c < 65
  · rw [if_pos a1, if_pos (show c < 97 by omega)]
    by_cases a2 : c < 48
    · rw [if_pos a2, decide_eq_false (by omega), decide_eq_false (by omega)]; rfl
    · rw [if_neg a2]
      by_cases a3 : 57 < c
      · rw [if_pos a3, decide_eq_false (by omega), decide_eq_false (by omega)]; rfl
      · rw [if_neg a3, decide_eq_false (by omega), decide_eq_true (by omega)]; rfl
  · rw [if_neg a1]
    by_cases a2 : c ≤ 90
    · rw [if_pos a2, decide_eq_true (by omega)]; rfl
    · rw [if_neg a2]
      by_cases a3 : c < 97
      · rw [if_pos a3, if_neg (show ¬ c < 48 by omega), if_pos (show 57 < c by omega), decide_eq_false (by omega), decide_eq_false (by omega)]; rfl
      · rw [if_neg a3]
        by_cases a4 : c ≤ 122
        · rw [if_pos a4, decide_eq_true (by omega)]; rfl
        · rw [if_neg a4, if_neg (show ¬ c < 48 by omega), if_pos (show 57 < c by omega), decide_eq_false (by omega), decide_eq_false (by omega)]; rfl
theorem st_68 : ∀ c : Fin 256, (0 ≤ stidx kW_68 (((nI c.1).toUInt32 % 65536).toInt32)) ↔ c.1 ∈ kW_68 := by decide +kernel
theorem st_69 : ∀ c : Fin 256, (0 ≤ stidx kW_69 (((nI c.1).toUInt32 % 65536).toInt32)) ↔ c.1 ∈ kW_69 := by decide +kernel
def sgW (loc : Bool) : List Nat := if loc = true then kW_68 else kW_69
theorem c_dotL {s : uS} {k fr a b : Nat} {w : List Nat} {loc : Bool} (h : rdC s k fr w) (hab : a < b) (hb : b ≤ w.length) : ∀ (n m i : Nat) (last : Int32), m = b - i → m < n → a ≤ i → i ≤ b → last = (if i = a then 46 else nI (w.getD (i - 1) 0)) → fn_X9_isDotted_21 n k (nI (fr + b)) (sgW loc) last (nI (fr + i)) s = some (allB (fun j => decide (cnd w a loc j)) m i && decide (w.getD (b - 1) 0 ≠ 46)) := by
  have hf := h.1
  intro n
  induction n with
  | zero => intro m i last _ z; omega
  | succ n ih =>
    intro m i last hm hn hai hib hl
    show fb_X9_isDotted_21 _ _ _ _ _ _ _ = _
    unfold fb_X9_isDotted_21
    have c46 : ∀ q : Nat, nI (w.getD q 0) = (46 : Int32) ↔ w.getD q 0 = 46 := fun q => by
      have := h.2.1 q
      exact nI_eq (b := 46) (by omega) (by omega)
    by_cases c : b ≤ i
    · have hi : i = b := by omega
      rw [if_pos (nI_le (by omega) (by omega)), hl, if_neg (show ¬ i = a by omega), hi]
      rw [show m = 0 by omega]
      show _ = some (true && _)
      rw [Bool.true_and]
      by_cases q : w.getD (b - 1) 0 = 46
      · rw [if_pos ((c46 _).mpr q), decide_eq_false (fun z => z q)]
      · rw [if_neg (fun z => q ((c46 _).mp z)), decide_eq_true q]
    · have h8 := h.2.1 i
      obtain ⟨m', rfl⟩ : ∃ m', m = m' + 1 := ⟨m - 1, by omega⟩
      rw [if_neg (nI_ge (by omega) (by omega)), h.2.2 i (by omega), Option.bind_some, sb_and h8, c_plainc h8]
      have nx := ih m' (i + 1) (nI (w.getD i 0)) (by omega) (by omega) (by omega) (by omega) (by rw [if_neg (by omega), Nat.add_sub_cancel])
      unfold allB fb_X9_isDotted_84
      rw [nI_1, show fr + i + 1 = fr + (i + 1) by omega]
      have lst : last = 46 ↔ (i = a ∨ w.getD (i - 1) 0 = 46) := by
        rw [hl]
        by_cases q : i = a
        · rw [if_pos q]; exact ⟨fun _ => Or.inl q, fun _ => rfl⟩
        · rw [if_neg q, c46]; exact ⟨fun z => Or.inr z, fun z => z.resolve_left q⟩
      by_cases p : (isLb (w.getD i 0) || isDb (w.getD i 0)) = true
      · have np : w.getD i 0 ≠ 46 := by
          intro z; rw [z] at p; exact absurd p (by decide)
        rw [if_pos p, nx, decide_eq_true (show cnd w a loc i by unfold cnd; rw [if_neg np]; unfold okA; rw [p]; rfl), Bool.true_and]
      · rw [if_neg p]
        by_cases q : w.getD i 0 = 46
        · rw [if_pos ((c46 _).mpr q)]
          by_cases r : last = 46
          · rw [if_pos r, decide_eq_false (show ¬ cnd w a loc i by unfold cnd; rw [if_pos q]; intro z; rcases lst.mp r with y | y; omega; exact z.2 y), Bool.false_and, Bool.false_and]
          · have : cnd w a loc i := by
              unfold cnd; rw [if_pos q]
              exact ⟨Nat.lt_of_not_le fun z => r (lst.mpr (Or.inl (by omega))), fun z => r (lst.mpr (Or.inr z))⟩
            rw [if_neg r, nx, decide_eq_true this, Bool.true_and]
        · rw [if_neg (fun z => q ((c46 _).mp z))]
          have hlen : (sgW loc).length < 2 ^ 30 := by unfold sgW; split <;> decide
          rw [if_pos hlen]
          have key : (0 ≤ stidx (sgW loc) (((nI (w.getD i 0)).toUInt32 % 65536).toInt32)) ↔ cnd w a loc i := by
            unfold cnd
            rw [if_neg q]
            unfold okA sgW
            rw [Bool.eq_false_iff.mpr p, Bool.false_or]
            cases loc with
            | true => rw [if_pos rfl, if_pos rfl, decide_eq_true_eq]; exact st_68 ⟨_, h8⟩
            | false => rw [if_neg (by decide), if_neg (by decide), decide_eq_true_eq]; exact st_69 ⟨_, h8⟩
          by_cases r : cnd w a loc i
          · rw [if_pos (key.mpr r), nx, decide_eq_true r, Bool.true_and]
          · rw [if_neg (fun z => r (key.mp z)), decide_eq_false r, Bool.false_and, Bool.false_and]
theorem c_dot {s : uS} {k fr a b most : Nat} {w : List Nat} {loc : Bool} (h : rdC s k fr w) (hb : b ≤ w.length) (ha : a ≤ w.length) (hw : w.length < 900000) (hm : most < 1000) : fn_X9_isDotted k (nI (fr + a)) (nI (fr + b)) (nI most) (sgW loc) s = some (dot w a b most loc) := by
  have hf := h.1
  unfold fn_X9_isDotted dot
  by_cases c : a < b
  · rw [if_neg (nI_ge (by omega) (by omega)), nI_sub (by omega), show fr + b - (fr + a) = b - a by omega, decide_eq_true c, Bool.true_and]
    by_cases d : b - a ≤ most
    · rw [if_pos (nI_le d (by omega)), decide_eq_true d, Bool.true_and]
      exact c_dotL h c hb uFu (b - a) a 46 rfl (by show _ < 1000000; omega) (Nat.le_refl _) (by omega) (by rw [if_pos rfl])
    · rw [if_neg (nI_ge (by omega) (by omega)), decide_eq_false d]; rfl
  · rw [if_pos (nI_le (by omega) (by omega)), decide_eq_false c]; rfl
def adr (w : List Nat) : Option Nat := match fnb w 64 0 w.length with | none => none | some at_ => if dot w 0 at_ 40 true = true ∧ dot w (at_ + 1) w.length 60 false = true then some at_ else none
theorem c_addr {s : uS} {k fr : Nat} {w : List Nat} (h : rdC s k fr w) (hw : w.length < 900000) : fn_X9_isAddress k (nI fr) (nI (fr + w.length)) s = some (adr w).isSome := by
  have hf := h.1
  unfold fn_X9_isAddress adr
  rw [show (64 : Int32) = nI 64 from rfl, c_find h (by decide) hw, Option.bind_some]
  cases q : fnb w 64 0 w.length with
  | none => dsimp only; rw [if_pos (by decide)]; rfl
  | some j =>
    have hj := fnb_some q
    dsimp only
    rw [if_neg (show ¬ nI (fr + j) < 0 from nI_nlt (b := 0) (Nat.zero_le _) (by omega))]
    have d1 : fn_X9_isDotted k (nI fr) (nI (fr + j)) 40 kW_68 s = some (dot w 0 j 40 true) := c_dot (a := 0) (b := j) (most := 40) (loc := true) h (by omega) (by omega) hw (by decide)
    have d2 : fn_X9_isDotted k (nI (fr + j) + 1) (nI (fr + w.length)) 60 kW_69 s = some (dot w (j + 1) w.length 60 false) := by
      rw [nI_1, show fr + j + 1 = fr + (j + 1) by omega]
      exact c_dot (a := j + 1) (b := w.length) (most := 60) (loc := false) h (Nat.le_refl _) (by omega) hw (by decide)
    rw [d1, Option.bind_some]
    by_cases c1 : dot w 0 j 40 true = true
    · rw [if_pos c1, d2, Option.bind_some]
      by_cases c2 : dot w (j + 1) w.length 60 false = true
      · rw [if_pos c2, if_pos ⟨c1, c2⟩]; rfl
      · rw [if_neg c2, if_neg (fun z => c2 z.2)]; rfl
    · rw [if_neg c1, if_neg (fun z => c1 z.1)]; rfl
theorem r_loc {t : uS} : ∀ c : Nat, c < 256 → fn_X12_isLocal (nI c) t = some (okA true c) := by
  have key : ∀ c : Fin 256, fn_X12_isLocal (nI c.1) t = some (okA true c.1) := by
    intro c
    show (fn_X12_isLetter (nI c.1) t).bind _ = _
    have e : ∀ c : Fin 256, ((if nI c.1 < 97 then (if nI c.1 < 65 then (some false) else (if (90 : Int32) < nI c.1 then (some false) else (some true))) else (if nI c.1 ≤ 122 then (some true) else (if nI c.1 < 65 then (some false) else (if (90 : Int32) < nI c.1 then (some false) else (some true))))).bind fun v1 => if v1 = true then (some true) else ((if nI c.1 < 48 then (some false) else (if (57 : Int32) < nI c.1 then (some false) else (some true))).bind fun v4 => if v4 = true then (some true) else (if nI c.1 = 33 then (some true) else (if nI c.1 < 35 then (if nI c.1 = 42 then (some true) else (if nI c.1 = 43 then (some true) else (if nI c.1 = 45 then (some true) else (if nI c.1 = 47 then (some true) else (if nI c.1 = 61 then (some true) else (if nI c.1 = 63 then (some true) else (if nI c.1 < 94 then (if nI c.1 < 123 then (some false) else (if (126 : Int32) < nI c.1 then (some false) else (some true))) else (if nI c.1 ≤ 96 then (some true) else (if nI c.1 < 123 then (some false) else (if (126 : Int32) < nI c.1 then (some false) else (some true)))))))))))  else (if nI c.1 ≤ 39 then (some true) else (if nI c.1 = 42 then (some true) else (if nI c.1 = 43 then (some true) else (if nI c.1 = 45 then (some true) else (if nI c.1 = 47 then (some true) else (if nI c.1 = 61 then (some true) else (if nI c.1 = 63 then (some true) else (if nI c.1 < 94 then (if nI c.1 < 123 then (some false) else (if (126 : Int32) < nI c.1 then (some false) else (some true))) else (if nI c.1 ≤ 96 then (some true) else (if nI c.1 < 123 then (some false) else (if (126 : Int32) < nI c.1 then (some false) else (some true))))))))))))))) : Option Bool) = some (okA true c.1) := by decide +kernel
    exact e c
  exact fun c h => key ⟨c, h⟩
theorem r_dom {t : uS} : ∀ c : Nat, c < 256 → fn_X12_isDomain (nI c) t = some (okA false c) := by
  have key : ∀ c : Fin 256, fn_X12_isDomain (nI c.1) t = some (okA false c.1) := by
    intro c
    have e : ∀ c : Fin 256, ((if nI c.1 < 97 then (if nI c.1 < 65 then (some false) else (if (90 : Int32) < nI c.1 then (some false) else (some true))) else (if nI c.1 ≤ 122 then (some true) else (if nI c.1 < 65 then (some false) else (if (90 : Int32) < nI c.1 then (some false) else (some true))))).bind fun v1 => if v1 = true then (some true) else ((if nI c.1 < 48 then (some false) else (if (57 : Int32) < nI c.1 then (some false) else (some true))).bind fun v4 => if v4 = true then (some true) else (if nI c.1 = 45 then (some true) else (some false))) : Option Bool) = some (okA false c.1) := by decide +kernel
    exact e c
  exact fun c h => key ⟨c, h⟩
/-- the text under 'one' -/
def rOne (w : List Nat) (t : uS) : Prop := t.I 1079 21 = nI w.length ∧ w.length ≤ 4100 ∧ bys w ∧ ∀ j : Nat, j < w.length → t.F 1093 j = nI (w.getD j 0)
theorem r_dotL {t : uS} {a b : Nat} {w : List Nat} {loc : Bool} (h : rOne w t) (hb : b ≤ w.length) : ∀ (n m i : Nat) (is : Bool), m = b - i → m < n → a ≤ i → i ≤ b → fn_X12_isDotted_22 n (nI a) (nI b) loc is (nI i) t = some (is && allB (fun j => decide (cnd w a loc j ∧ (w.getD j 0 = 46 → j + 1 < b))) m i) := by
  obtain ⟨h1, h2, h3, h4⟩ := h
  intro n
  induction n with
  | zero => intro m i is _ z; omega
  | succ n ih =>
    intro m i is hm hn hai hib
    show fb_X12_isDotted_22 _ _ _ _ _ _ _ = _
    unfold fb_X12_isDotted_22
    by_cases c : b ≤ i
    · rw [if_pos (nI_le c (by omega)), show m = 0 by omega]
      show _ = some (is && true)
      rw [Bool.and_true]
    · obtain ⟨m', rfl⟩ : ∃ m', m = m' + 1 := ⟨m - 1, by omega⟩
      rw [if_neg (nI_ge (by omega) (by omega))]
      cases is with
      | false => rw [if_neg (by decide), Bool.false_and]
      | true =>
        have h8 := h3 i
        have nx := fun is => ih m' (i + 1) is (by omega) (by omega) (by omega) (by omega)
        rw [if_pos rfl, g_1093 (by omega), Option.bind_some, h4 i (by omega), Bool.true_and]
        unfold allB fb_X12_isDotted_50
        rw [nI_1, if_neg (show ¬ false = true by decide)]
        have c46 : ∀ q : Nat, nI (w.getD q 0) = (46 : Int32) ↔ w.getD q 0 = 46 := fun q => by
          have := h3 q
          exact nI_eq (b := 46) (by omega) (by omega)
        by_cases q : w.getD i 0 = 46
        · rw [if_pos ((c46 _).mpr q), if_pos rfl]
          by_cases r1 : i ≤ a
          · rw [if_pos (nI_le r1 (by omega)), nx, decide_eq_false (show ¬ (cnd w a loc i ∧ (w.getD i 0 = 46 → i + 1 < b)) by unfold cnd; rw [if_pos q]; intro z; omega)]
          · rw [if_neg (nI_ge (by omega) (by omega))]
            by_cases r2 : b ≤ i + 1
            · rw [if_pos (nI_le r2 (by omega)), nx, decide_eq_false (fun z => by have := z.2 q; omega)]
            · rw [if_neg (nI_ge (by omega) (by omega)), show nI i - 1 = nI (i - 1) from nI_sub (show 1 ≤ i by omega), g_1093 (by omega), Option.bind_some, h4 _ (by omega)]
              by_cases r3 : w.getD (i - 1) 0 = 46
              · rw [if_pos ((c46 _).mpr r3), nx, decide_eq_false (show ¬ (cnd w a loc i ∧ (w.getD i 0 = 46 → i + 1 < b)) by unfold cnd; rw [if_pos q]; exact fun z => z.1.2 r3)]
              · rw [if_neg (fun z => r3 ((c46 _).mp z)), nx, decide_eq_true (show cnd w a loc i ∧ (w.getD i 0 = 46 → i + 1 < b) by unfold cnd; rw [if_pos q]; exact ⟨⟨by omega, r3⟩, fun _ => by omega⟩)]
        · rw [if_neg (fun z => q ((c46 _).mp z))]
          have key : decide (cnd w a loc i ∧ (w.getD i 0 = 46 → i + 1 < b)) = okA loc (w.getD i 0) := by
            have e : cnd w a loc i ↔ okA loc (w.getD i 0) = true := by unfold cnd; rw [if_neg q]
            by_cases z : okA loc (w.getD i 0) = true
            · exact (decide_eq_true (show cnd w a loc i ∧ (w.getD i 0 = 46 → i + 1 < b) from ⟨e.mpr z, fun y => absurd y q⟩)).trans z.symm
            · exact (decide_eq_false (show ¬ (cnd w a loc i ∧ (w.getD i 0 = 46 → i + 1 < b)) from fun y => z (e.mp y.1))).trans (Bool.eq_false_iff.mpr z).symm
          rw [key]
          cases loc with
          | true => rw [if_pos rfl, g_1093 (by omega), Option.bind_some, h4 i (by omega), r_loc _ h8, Option.bind_some, nx]
          | false => rw [if_neg (by decide), g_1093 (by omega), Option.bind_some, h4 i (by omega), r_dom _ h8, Option.bind_some, nx]
theorem r_dot {t : uS} {a b most : Nat} {w : List Nat} {loc : Bool} (h : rOne w t) (hb : b ≤ w.length) (ha : a ≤ w.length) (hm : most < 1000) : fn_X12_isDotted (nI a) (nI b) (nI most) loc t = some (dot w a b most loc) := by
  have hl := h.2.1
  unfold fn_X12_isDotted dot
  by_cases c : a < b
  · rw [if_neg (nI_ge (by omega) (by omega)), nI_sub (by omega), decide_eq_true c, Bool.true_and]
    by_cases d : b - a ≤ most
    · rw [if_neg (show ¬ nI most < nI (b - a) from nI_nlt d (by omega)), decide_eq_true d, Bool.true_and, r_dotL h hb uFu (b - a) a true rfl (by show _ < 1000000; omega) (Nat.le_refl _) (by omega), Bool.true_and]
      unfold dotB
      congr 1
      rw [Bool.eq_iff_iff, Bool.and_eq_true, allB_iff, allB_iff, decide_eq_true_eq]
      constructor
      · intro z
        refine ⟨fun j q1 q2 => decide_eq_true (of_decide_eq_true (z j q1 q2)).1, fun y => ?_⟩
        have := (of_decide_eq_true (z (b - 1) (by omega) (by omega))).2 y
        omega
      · rintro ⟨z, y⟩ j q1 q2
        refine decide_eq_true ⟨of_decide_eq_true (z j q1 q2), fun u => ?_⟩
        apply Nat.lt_of_not_le
        intro v
        exact y (by rw [show b - 1 = j by omega]; exact u)
    · rw [if_pos (show nI most < nI (b - a) from nI_lt (by omega) (by omega)), decide_eq_false d, r_dotL h hb uFu (b - a) a false rfl (by show _ < 1000000; omega) (Nat.le_refl _) (by omega)]; rfl
  · rw [if_pos (nI_le (by omega) (by omega)), decide_eq_false c]
    show fn_X12_isDotted_22 (999999 + 1) _ _ _ _ _ _ = _
    show fb_X12_isDotted_22 _ _ _ _ _ _ _ = _
    unfold fb_X12_isDotted_22
    rw [if_pos (nI_le (by omega) (by omega))]; rfl
theorem r_atL {t : uS} {w : List Nat} (h : rOne w t) : ∀ (n i : Nat), w.length < i + n → i ≤ w.length → (∀ j : Nat, j < i → w.getD j 0 ≠ 64) → fn_X12_atOf_2 n (nI i) t = fb_X12_atOf_28 (nI ((fnb w 64 i (w.length - i)).getD w.length)) t := by
  obtain ⟨h1, h2, h3, h4⟩ := h
  intro n
  induction n with
  | zero => intro i a b; omega
  | succ n ih =>
    intro i a b hj
    show fb_X12_atOf_2 _ _ _ = _
    unfold fb_X12_atOf_2
    rw [h1]
    by_cases c : w.length ≤ i
    · rw [if_pos (nI_le c (by omega)), show w.length - i = 0 by omega, show i = w.length by omega]; rfl
    · have h8 := h3 i
      rw [if_neg (nI_ge (by omega) (by omega)), g_1093 (by omega), Option.bind_some, h4 i (by omega), nI_1]
      obtain ⟨m, hm⟩ : ∃ m, w.length - i = m + 1 := ⟨w.length - i - 1, by omega⟩
      rw [hm]
      unfold fnb
      by_cases d : w.getD i 0 = 64
      · rw [if_pos (by rw [d]; rfl), if_pos d]; rfl
      · rw [if_neg (show ¬ nI (w.getD i 0) = 64 by show ¬ nI (w.getD i 0) = nI 64; rw [nI_eq (by omega) (by omega)]; exact d), if_neg d, ih (i + 1) (by omega) (by omega) (fun j q => by by_cases z : j = i; rw [z]; exact d; exact hj j (by omega)), show w.length - (i + 1) = m by omega]
theorem r_atOf {t : uS} {w : List Nat} (h : rOne w t) : fn_X12_atOf t = some (oI (adr w)) := by
  have hl := h.2.1
  unfold fn_X12_atOf
  rw [show (0 : Int32) = nI 0 from rfl, r_atL h uFu 0 (by show _ < 0 + 1000000; omega) (Nat.zero_le _) (fun j q => by omega), Nat.sub_zero]
  unfold adr fb_X12_atOf_28
  rw [h.1]
  cases q : fnb w 64 0 w.length with
  | none => dsimp only [Option.getD]; rw [if_pos (nI_le (Nat.le_refl _) (by omega))]; rfl
  | some j =>
    have hj := fnb_some q
    dsimp only [Option.getD]
    rw [if_neg (nI_ge (by omega) (by omega)), show (0 : Int32) = nI 0 from rfl, show (40 : Int32) = nI 40 from rfl, show (60 : Int32) = nI 60 from rfl, r_dot h (by omega) (by omega) (by decide), Option.bind_some, nI_1, r_dot h (Nat.le_refl _) (by omega) (by decide), Option.bind_some]
    by_cases c1 : dot w 0 j 40 true = true
    · rw [if_pos c1]
      by_cases c2 : dot w (j + 1) w.length 60 false = true
      · rw [if_pos c2, if_pos ⟨c1, c2⟩]; rfl
      · rw [if_neg c2, if_neg (fun z => c2 z.2)]; rfl
    · rw [if_neg c1, if_neg (fun z => c1 z.1)]; rfl
