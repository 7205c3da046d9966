/-! may the message be answered by a machine: on both sides -/
def ffst (p : Nat → Bool) : Nat → Nat → Option Nat
  | 0, _ => none
  | n + 1, i => if p i = true then some i else ffst p n (i + 1)
theorem ffst_some {p : Nat → Bool} : ∀ (n i j : Nat), ffst p n i = some j → i ≤ j ∧ j < i + n ∧ p j = true
  | 0, i, j, h => by cases h
  | n + 1, i, j, h => by
    unfold ffst at h
    by_cases c : p i = true
    · rw [if_pos c] at h
      cases h
      exact ⟨Nat.le_refl _, by omega, c⟩
    · rw [if_neg c] at h
      obtain ⟨a, b, d⟩ := ffst_some n (i + 1) j h
      exact ⟨by omega, by omega, d⟩
theorem ffst_any {p : Nat → Bool} : ∀ (n i : Nat), (ffst p n i).isSome = anyB p n i
  | 0, i => rfl
  | n + 1, i => by
    unfold ffst
    rw [anyB_s]
    cases c : p i with
    | true => rw [if_pos rfl]; rfl
    | false => rw [if_neg (by decide), Bool.false_or]; exact ffst_any n (i + 1)
theorem ffst_c {p q : Nat → Bool} : ∀ (n i : Nat), (∀ j : Nat, i ≤ j → j < i + n → p j = q j) → ffst p n i = ffst q n i
  | 0, i, _ => rfl
  | n + 1, i, h => by
    unfold ffst
    rw [h i (Nat.le_refl _) (by omega), ffst_c n (i + 1) (fun j a b => h j (by omega) (by omega))]
theorem fstL {β : Type} {F : Nat → Int32 → Option β} {fin : Option Nat → Option β} {L : Nat} {p : Nat → Bool} (h : ∀ (n i : Nat), i ≤ L → F (n + 1) (nI i) = if L ≤ i then fin none else if p i = true then fin (some i) else F n (nI (i + 1))) : ∀ (n i : Nat), L < i + n → i ≤ L → F n (nI i) = fin (ffst p (L - i) i) := by
  intro n
  induction n with
  | zero => intro i h1 h2; omega
  | succ n ih =>
    intro i h1 h2
    rw [h n i h2]
    by_cases c : L ≤ i
    · rw [if_pos c, show L - i = 0 by omega]; rfl
    · rw [if_neg c, show L - i = (L - (i + 1)) + 1 by omega]
      unfold ffst
      by_cases d : p i = true
      · rw [if_pos d, if_pos d]
      · rw [if_neg d, if_neg d]
        exact ih (i + 1) (by omega) (by omega)
theorem fst0 {β : Type} {F : Nat → Int32 → Option β} {fin : Option Nat → Option β} {L : Nat} {p : Nat → Bool} (h : ∀ (n i : Nat), i ≤ L → F (n + 1) (nI i) = if L ≤ i then fin none else if p i = true then fin (some i) else F n (nI (i + 1))) (hL : L < uFu) : F uFu 0 = fin (ffst p L 0) := fstL h uFu 0 (by omega) (Nat.zero_le _)
theorem oI_neg {o : Option Nat} (h : ∀ j : Nat, o = some j → j < 2 ^ 31) : (oI o < 0) = (o = none) := by
  cases o with
  | none => exact propext ⟨fun _ => rfl, fun _ => by decide⟩
  | some j => exact propext ⟨fun z => absurd z (nI_pos (h j rfl)), fun z => by cases z⟩
theorem c_plIn {s : uS} {k cap mo bg i : Nat} {ts : List (List Nat)} {cur W : List Nat} (hk : uTx k cap mo) (h : cTz s k cap mo ts bg cur) (hi : i < ts.length) (hW : ∀ c ∈ W, c < 128) (hl : W.length < 900000) : fn_X9_placeIn k W (nI i) s = some (oI (plc (ts.getD i []) W 0 0 true)) := by
  obtain ⟨fr, a1, a2, a3, a4⟩ := tz_rd hk h hi
  have hm := h.2.1
  have hk6 := hk.2.2.2.2.2
  unfold fn_X9_placeIn
  rw [tz_has hk h (by omega), Option.bind_some, if_pos (decide_eq_true hi), a1, Option.bind_some, a2, Option.bind_some, c_place a3 hW hl, Option.bind_some]
theorem plc_1 {w W : List Nat} (hW : spl W = (W, [])) : plc w W 0 0 true = if eqW w W = true then some 0 else none := by
  rw [plc_wix, hW]
  show (if eqW w W = true then some 0 else wix w [] 1) = _
  rfl
theorem c_fnamed {s : uS} {fs : List (List Nat × List Nat)} {W : List Nat} (h : cFl s fs) (ho : fsO fs) (hW : ∀ c ∈ W, c < 128) (hl : W.length < 900000) (hp : ∀ w j, plc w W 0 0 true = some j → j < 1000) : fn_X6_fieldNamed W s = some (oI (ffst (fun f => (plc (fnm fs f) W 0 0 true).isSome) fs.length 0)) := by
  obtain ⟨b1, b2, m1, m2⟩ := h
  have hlen : (fs.map Prod.fst).length = fs.length := List.length_map ..
  have hle := tot_len fs
  have ht := ho.1
  unfold fn_X6_fieldNamed
  rw [fst0 (F := fun n x => fn_X6_fieldNamed_2 n W x s) (p := fun f => (plc (fnm fs f) W 0 0 true).isSome) (fin := fun o => some (oI o)) (L := fs.length) (fun n i hi => ?_) (by show _ < 1000000; omega)]
  show fb_X6_fieldNamed_2 (fn_X6_fieldNamed_2 n) W (nI i) s = _
  unfold fb_X6_fieldNamed_2
  rw [m1.1, hlen]
  by_cases c : fs.length ≤ i
  · rw [if_pos (nI_le c (by omega)), if_pos c]; rfl
  · obtain ⟨fr, a1, a2, a3, a4⟩ := tz_rd uTx_nm m1 (show i < (fs.map Prod.fst).length by omega)
    have a1' : iget 20 s 1056 (nI i) = some (nI fr) := a1
    have a2' : iget 20 s 1057 (nI i) = some (nI (fr + (fnm fs i).length)) := a2
    have a3' : rdC s 1055 fr (fnm fs i) := a3
    rw [if_neg (nI_ge (by omega) (by omega)), if_neg c, a1', Option.bind_some, a2', Option.bind_some, c_place a3' hW hl, Option.bind_some]
    cases d : plc (fnm fs i) W 0 0 true with
    | none => rw [show oI (none : Option Nat) = -1 from rfl, if_pos (by decide), if_neg (by decide), nI_1]
    | some j =>
      have := hp _ _ d
      rw [show oI (some j) = nI j from rfl, if_neg (nI_pos (by omega)), if_pos (show (some j).isSome = true from rfl)]
      rfl
def fHas (fs : List (List Nat × List Nat)) (W : List Nat) : Bool := anyB (fun f => eqW (fnm fs f) W) fs.length 0
def autB (fs : List (List Nat × List Nat)) : Bool := anyB (fun f => eqW (fnm fs f) kW_143 && !eqW (fvl fs f) kW_144) fs.length 0
/-- how a text begins and ends -/
def bgB (v W : List Nat) (a : Nat) : Bool := decide (W.length ≤ a) && decide (∀ j : Nat, j < W.length → lo (v.getD j 0) = W.getD j 0)
def enB (v W : List Nat) (a : Nat) : Bool := decide (W.length ≤ a) && decide (∀ j : Nat, j < W.length → lo (v.getD (a - W.length + j) 0) = W.getD j 0)
def nobB (snd : List Nat) : Bool := match adr snd with
  | none => false
  | some a => (bgB snd kW_145 a && decide (a = 13)) || (bgB snd kW_146 a && decide (a = 8)) || (bgB snd kW_147 a && decide (a = 9)) || bgB snd kW_148 a || enB snd kW_149 a
def prsB (fs : List (List Nat × List Nat)) (snd : List Nat) : Bool := decide (0 < snd.length) && !fHas fs kW_152 && !fHas fs kW_153 && !fHas fs kW_154 && !autB fs && !nobB snd
theorem lwc_k : lwc kW_145 ∧ lwc kW_146 ∧ lwc kW_147 ∧ lwc kW_148 ∧ lwc kW_149 := by
  refine ⟨?_, ?_, ?_, ?_, ?_⟩ <;> (unfold lwc; decide)
/-- a word that stands at a place of a text -/
theorem eqW_sub {v W : List Nat} {b : Nat} (hW : lwc W) (hb : b + W.length ≤ v.length) : eqW (sub v b (b + W.length)) W = decide (∀ j : Nat, j < W.length → lo (v.getD (b + j) 0) = W.getD j 0) := by
  rw [eqW_r hW, sub_len (by omega) (by omega), decide_eq_true (by omega), Bool.true_and]
  refine decide_eq_decide.mpr ⟨fun h j hj => ?_, fun h j hj => ?_⟩
  · have := h j hj
    rw [sub_get (by omega)] at this
    exact this
  · rw [sub_get (by omega)]
    exact h j hj
theorem eqW_bg {v W : List Nat} {a : Nat} (hW : lwc W) (ha : a ≤ v.length) : eqW (sub v 0 a) W = (bgB v W a && decide (a = W.length)) := by
  by_cases c : a = W.length
  · have := eqW_sub (v := v) (b := 0) hW (by omega)
    rw [Nat.zero_add] at this
    unfold bgB
    rw [c, this, decide_eq_true (Nat.le_refl _), decide_eq_true rfl, Bool.true_and, Bool.and_true]
    simp only [Nat.zero_add]
  · rw [decide_eq_false c, Bool.and_false]
    rw [eqW_r hW, sub_len ha (by omega), decide_eq_false (by omega), Bool.false_and]
theorem adr_at {v : List Nat} {a : Nat} (h : adr v = some a) : fnb v 64 0 v.length = some a ∧ a < v.length := by
  unfold adr at h
  cases c : fnb v 64 0 v.length with
  | none => rw [c] at h; cases h
  | some b =>
    rw [c] at h
    dsimp only at h
    split at h
    · have := Option.some.inj h
      subst this
      exact ⟨rfl, by have := fnb_lt _ _ _ c; omega⟩
    · cases h
theorem low_k52 {w : List Nat} : (plc w kW_52 0 0 true).isSome = (eqW w kW_152 || eqW w kW_153 || eqW w kW_154) := by
  rw [plc_wix]
  show (if eqW w ((spl kW_52).1) = true then some 0 else if eqW w ((spl kW_52).2.getD 0 []) = true then some 1 else if eqW w ((spl kW_52).2.getD 1 []) = true then some 2 else none : Option Nat).isSome = _
  rw [show kW_152 = (spl kW_52).1.map lo by decide, show kW_153 = ((spl kW_52).2.getD 0 []).map lo by decide, show kW_154 = ((spl kW_52).2.getD 1 []).map lo by decide, eqW_lo, eqW_lo, eqW_lo]
  cases eqW w ((spl kW_52).1) <;> cases eqW w ((spl kW_52).2.getD 0 []) <;> cases eqW w ((spl kW_52).2.getD 1 []) <;> rfl
theorem low_k55 {w : List Nat} : (plc w kW_55 0 0 true).isSome = (eqW w kW_145 || eqW w kW_146 || eqW w kW_147) := by
  rw [plc_wix]
  show (if eqW w kW_145 = true then some 0 else if eqW w kW_146 = true then some 1 else if eqW w kW_147 = true then some 2 else none : Option Nat).isSome = _
  cases eqW w kW_145 <;> cases eqW w kW_146 <;> cases eqW w kW_147 <;> rfl
theorem plc_b {w W : List Nat} (h : ∀ (ws : List (List Nat)), (spl W).1 :: (spl W).2 = ws → ws.length ≤ 20) {j : Nat} (hj : plc w W 0 0 true = some j) : j < 1000 := by
  rw [plc_wix] at hj
  have a := wix_lt hj
  have b := h _ rfl
  omega
/-- the class -/
theorem c_pers {s : uS} {fs : List (List Nat × List Nat)} {snd : List Nat} (h : cFl s fs) (ho : fsO fs) (hs : cTz s 1043 101 1 [snd] snd.length []) (ha : adO snd) : fn_X6_isFromPerson s = some (prsB fs snd) := by
  have hcl := h
  obtain ⟨b1, b2, m1, m2⟩ := hcl
  have hle := tot_len fs
  have ht := ho.1
  have hlen1 : (fs.map Prod.fst).length = fs.length := List.length_map ..
  have hlen2 : (fs.map Prod.snd).length = fs.length := List.length_map ..
  obtain ⟨l1, l2, l3, l4, l5⟩ := lwc_k
  have hl0 : fn_X9_lengthOf 1043 0 s = some (nI snd.length) := tz_len uTx_sn hs (i := 0) Nat.zero_lt_one
  have hsl : snd.length ≤ 101 := by have := hs.2.2.2.2.1; simpa using this
  unfold fn_X6_isFromPerson prsB
  rw [hl0, Option.bind_some]
  by_cases c0 : snd.length = 0
  · rw [if_pos (by rw [c0]; rfl), decide_eq_false (by omega)]
    simp
  rw [if_neg (show ¬ nI snd.length = 0 from nI_ne (b := 0) (by omega) (by decide) c0), decide_eq_true (show 0 < snd.length by omega), Bool.true_and, c_fnamed h ho (by decide) (by decide) (fun w j hj => plc_b (fun ws e => by rw [← e]; decide) hj), Option.bind_some]
  have hff : ∀ j : Nat, ffst (fun f => (plc (fnm fs f) kW_52 0 0 true).isSome) fs.length 0 = some j → j < 2 ^ 31 := fun j hj => by have := ffst_some _ _ _ hj; omega
  have e52 : anyB (fun f => (plc (fnm fs f) kW_52 0 0 true).isSome) fs.length 0 = (fHas fs kW_152 || fHas fs kW_153 || fHas fs kW_154) := by
    rw [Bool.eq_iff_iff, anyB_iff]
    unfold fHas
    simp only [Bool.or_eq_true, anyB_iff, low_k52]
    constructor
    · rintro ⟨j, x, y, (z | z) | z⟩
      · exact Or.inl (Or.inl ⟨j, x, y, z⟩)
      · exact Or.inl (Or.inr ⟨j, x, y, z⟩)
      · exact Or.inr ⟨j, x, y, z⟩
    · rintro ((⟨j, x, y, z⟩ | ⟨j, x, y, z⟩) | ⟨j, x, y, z⟩)
      · exact ⟨j, x, y, Or.inl (Or.inl z)⟩
      · exact ⟨j, x, y, Or.inl (Or.inr z)⟩
      · exact ⟨j, x, y, Or.inr z⟩
  rw [← ffst_any] at e52
  cases hfn : ffst (fun f => (plc (fnm fs f) kW_52 0 0 true).isSome) fs.length 0 with
  | some j =>
    rw [hfn] at e52
    have hj := hff j hfn
    rw [show oI (some j) = nI j from rfl, if_neg (nI_pos hj)]
    have e52' : (fHas fs kW_152 || fHas fs kW_153 || fHas fs kW_154) = true := e52.symm
    revert e52'
    generalize fHas fs kW_152 = x1
    generalize fHas fs kW_153 = x2
    generalize fHas fs kW_154 = x3
    cases x1 <;> cases x2 <;> cases x3 <;> simp
  | none =>
    rw [hfn] at e52
    have e52' : (fHas fs kW_152 || fHas fs kW_153 || fHas fs kW_154) = false := e52.symm
    have x1 : fHas fs kW_152 = false := by revert e52'; cases fHas fs kW_152 <;> simp
    have x2 : fHas fs kW_153 = false := by revert e52'; cases fHas fs kW_153 <;> simp
    have x3 : fHas fs kW_154 = false := by revert e52'; cases fHas fs kW_154 <;> simp
    rw [show oI (none : Option Nat) = -1 from rfl, if_pos (by decide), x1, x2, x3]
    simp only [Bool.not_false, Bool.true_and]
    have hfin : ((iget 20 s 1046 0).bind fun v2 => (fn_X9_find 1044 0 v2 64 s).bind fun v4 => (fn_X9_place kW_55 1044 0 v4 s).bind fun v7 => if 0 ≤ v7 then (some false) else (if v4 < 6 then (fb_X6_isFromPerson_132 v4 s) else ((fn_X9_place kW_56 1044 0 6 s).bind fun v12 => if v12 = 0 then (some false) else (fb_X6_isFromPerson_132 v4 s)))) = some (!nobB snd) := by
      obtain ⟨fr, g1, g2, g3, g4⟩ := tz_rd uTx_sn hs (i := 0) Nat.zero_lt_one
      have gf : fr = 0 := by
        obtain ⟨f, f1, f2⟩ := hs.2.2.2.2.2.2.2
        have f3 := f2 0 Nat.zero_lt_one
        have f4 : f 0 + snd.length ≤ f 1 := f3.2.2.2.1
        have f5 : f 1 = snd.length := f1
        have f6 : s.F 1045 0 = nI (f 0) := f3.2.1
        have g1' : iget 20 s 1045 (nI 0) = some (nI fr) := g1
        rw [g_1045 (by decide), f6] at g1'
        have := (nI_eq (by omega) (by have := g3.1; omega)).mp (Option.some.inj g1')
        omega
      subst gf
      have g2' : iget 20 s 1046 0 = some (nI snd.length) := by
        have : iget 20 s 1046 (nI 0) = some (nI (0 + snd.length)) := g2
        rw [Nat.zero_add] at this
        exact this
      have g3' : rdC s 1044 0 snd := g3
      obtain ⟨at_, hat⟩ : ∃ a : Nat, adr snd = some a := by
        rcases ha with z | z
        · rw [z] at c0; exact absurd rfl c0
        · exact Option.isSome_iff_exists.mp z
      obtain ⟨k1, k2⟩ := adr_at hat
      have hfi := c_find g3' (b := 64) (by decide) (by omega)
      rw [Nat.zero_add, k1] at hfi
      have hfi' : fn_X9_find 1044 0 (nI snd.length) 64 s = some (nI at_) := by
        have : fn_X9_find 1044 (nI 0) (nI snd.length) (nI 64) s = some (nI (0 + at_)) := hfi
        rw [Nat.zero_add] at this
        exact this
      have hsub : ∀ a b : Nat, a ≤ b → b ≤ snd.length → rdC s 1044 a (sub snd a b) := by
        intro a b x y
        refine ⟨by rw [sub_len y x]; omega, sub_by g3'.2.1, fun j hj => ?_⟩
        rw [sub_len y x] at hj
        have := g3'.2.2 (a + j) (by omega)
        rw [Nat.zero_add] at this
        rw [this, sub_get hj]
      have hpl : ∀ (W : List Nat) (a b : Nat), (∀ c ∈ W, c < 128) → W.length < 900000 → a ≤ b → b ≤ snd.length → fn_X9_place W 1044 (nI a) (nI b) s = some (oI (plc (sub snd a b) W 0 0 true)) := by
        intro W a b w1 w2 x y
        have := c_place (hsub a b x y) w1 w2
        rw [sub_len y x, show a + (b - a) = b by omega] at this
        exact this
      have p55 := hpl kW_55 0 at_ (by decide) (by decide) (by omega) (by omega)
      have p55' : fn_X9_place kW_55 1044 0 (nI at_) s = _ := p55
      have n55 : (plc (sub snd 0 at_) kW_55 0 0 true).isSome = ((bgB snd kW_145 at_ && decide (at_ = 13)) || (bgB snd kW_146 at_ && decide (at_ = 8)) || (bgB snd kW_147 at_ && decide (at_ = 9))) := by
        rw [low_k55, eqW_bg l1 (by omega), eqW_bg l2 (by omega), eqW_bg l3 (by omega)]
        rfl
      have h132 : fb_X6_isFromPerson_132 (nI at_) s = some (!enB snd kW_149 at_) := by
        unfold fb_X6_isFromPerson_132 enB
        by_cases c : at_ < 8
        · rw [if_pos (show nI at_ < 8 from nI_lt (b := 8) c (by decide)), decide_eq_false (show ¬ kW_149.length ≤ at_ by show ¬ 8 ≤ at_; omega)]
          rfl
        · have p57 := hpl kW_57 (at_ - 8) at_ (by decide) (by decide) (by omega) (by omega)
          have ek : nI at_ - 8 = nI (at_ - 8) := nI_sub (a := at_) (b := 8) (by omega)
          rw [if_neg (show ¬ nI at_ < 8 from nI_nlt (b := 8) (by omega) (by omega)), ek, p57, Option.bind_some, plc_1 (by decide), decide_eq_true (show kW_149.length ≤ at_ by show 8 ≤ at_; omega), Bool.true_and]
          have e8 := eqW_sub (v := snd) (b := at_ - 8) l5 (by show at_ - 8 + 8 ≤ _; omega)
          have e8' : eqW (sub snd (at_ - 8) at_) kW_149 = decide (∀ j : Nat, j < kW_149.length → lo (snd.getD (at_ - kW_149.length + j) 0) = kW_149.getD j 0) := by
            rw [show at_ - 8 + kW_149.length = at_ by show at_ - 8 + 8 = at_; omega] at e8
            exact e8
          rw [show kW_57 = kW_149 from rfl, e8']
          generalize decide (∀ j : Nat, j < kW_149.length → lo (snd.getD (at_ - kW_149.length + j) 0) = kW_149.getD j 0) = B
          cases B <;> rfl
      have n148 : ∀ X : Option Bool, (if nI at_ < 6 then X else ((fn_X9_place kW_56 1044 0 6 s).bind fun v12 => if v12 = 0 then (some false) else X)) = if bgB snd kW_148 at_ = true then some false else X := by
        intro X
        unfold bgB
        by_cases c : at_ < 6
        · rw [if_pos (show nI at_ < 6 from nI_lt (b := 6) c (by decide)), decide_eq_false (show ¬ kW_148.length ≤ at_ by show ¬ 6 ≤ at_; omega), Bool.false_and, if_neg (by decide)]
        · have p56 := hpl kW_56 0 6 (by decide) (by decide) (by omega) (by omega)
          have p56' : fn_X9_place kW_56 1044 0 6 s = some (oI (plc (sub snd 0 6) kW_56 0 0 true)) := p56
          rw [if_neg (show ¬ nI at_ < 6 from nI_nlt (b := 6) (by omega) (by omega)), p56', Option.bind_some, plc_1 (by decide), decide_eq_true (show kW_148.length ≤ at_ by show 6 ≤ at_; omega), Bool.true_and]
          have e8 := eqW_sub (v := snd) (b := 0) l4 (by show 0 + 6 ≤ _; omega)
          have e8' : eqW (sub snd 0 6) kW_148 = decide (∀ j : Nat, j < kW_148.length → lo (snd.getD (0 + j) 0) = kW_148.getD j 0) := e8
          simp only [Nat.zero_add] at e8'
          rw [show kW_56 = kW_148 from rfl, e8']
          generalize decide (∀ j : Nat, j < kW_148.length → lo (snd.getD j 0) = kW_148.getD j 0) = B
          cases B <;> rfl
      rw [g2', Option.bind_some, hfi', Option.bind_some, p55', Option.bind_some, n148, h132]
      have hp55 : ∀ j : Nat, plc (sub snd 0 at_) kW_55 0 0 true = some j → j < 1000 := fun j hj => plc_b (fun ws e => by rw [← e]; decide) hj
      unfold nobB
      rw [hat]
      dsimp only
      rw [← n55]
      cases hq : plc (sub snd 0 at_) kW_55 0 0 true with
      | some j =>
        have := hp55 j hq
        rw [show oI (some j) = nI j from rfl, if_pos (nI_pos' (by omega))]
        rfl
      | none =>
        rw [show oI (none : Option Nat) = -1 from rfl, if_neg (by decide)]
        cases bgB snd kW_148 at_ <;> cases enB snd kW_149 at_ <;> rfl
    have hloop := any0 (F := fun n x => fn_X6_isFromPerson_27 n x s) (p := fun f => eqW (fnm fs f) kW_143 && !eqW (fvl fs f) kW_144) (fin := fun B => if B = true then some false else some (!nobB snd)) (L := fs.length) (fun n i hi => ?_) (by show _ < 1000000; omega)
    · rw [hloop]
      show (if autB fs = true then _ else _) = _
      cases autB fs <;> simp
    · show fb_X6_isFromPerson_27 (fn_X6_isFromPerson_27 n) (nI i) s = _
      unfold fb_X6_isFromPerson_27
      rw [hfin, m1.1, hlen1]
      by_cases c : fs.length ≤ i
      · rw [if_pos (nI_le c (by omega)), if_pos c, if_neg (by decide)]
      · have q1 := c_plIn (W := kW_53) uTx_nm m1 (show i < (fs.map Prod.fst).length by omega) (by decide) (by decide)
        have q2 := c_plIn (W := kW_54) uTx_vl m2 (show i < (fs.map Prod.snd).length by omega) (by decide) (by decide)
        rw [if_neg (nI_ge (by omega) (by omega)), if_neg c, q1, Option.bind_some, plc_1 (by decide), q2, plc_1 (by decide), nI_1]
        have e53 : eqW ((fs.map Prod.fst).getD i []) kW_53 = eqW (fnm fs i) kW_143 := by
          rw [show kW_143 = kW_53.map lo by decide, eqW_lo]
        have e54 : eqW ((fs.map Prod.snd).getD i []) kW_54 = eqW (fvl fs i) kW_144 := rfl
        rw [e53, e54]
        cases eqW (fnm fs i) kW_143 with
        | false => rfl
        | true => cases eqW (fvl fs i) kW_144 <;> rfl
