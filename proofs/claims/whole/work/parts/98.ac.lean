theorem nI_sbl {a b c : Nat} (ha : a < 2 ^ 30) (hb : b < 2 ^ 30) (hc : c < 2 ^ 31) : nI a - nI b ≤ nI c ↔ a ≤ c + b := by
  rw [Int32.le_iff_toInt_le, Int32.toInt_sub, nI_toInt (by omega), nI_toInt (by omega), nI_toInt (by omega), Int.bmod_eq_of_le (by omega) (by omega)]
  omega
/-- a row of bytes that was made later, or a static one -/
def cB (s : uS) (k : Nat) (bs : List Int32) : Prop := uOk s k ∧ uCl s k = (21, bs.length) ∧ bs.length ≤ 10000 ∧ ∀ i : Nat, i < bs.length → s.F k i = bs.getD i 0
theorem cB.get {s : uS} {k i : Nat} {bs : List Int32} (h : cB s k bs) (hi : i < bs.length) : iget 21 s k (nI i) = some (bs.getD i 0) := by
  obtain ⟨h1, h2, h3, h4⟩ := h
  unfold iget
  rw [if_pos ⟨⟨h1, by rw [h2]⟩, by show ¬ (nI i < 0 ∨ (uCl s k).2 ≤ _); rw [h2]; exact nI_in hi (by omega)⟩, nI_clamp (by omega), h4 i hi]
theorem cB.len {s : uS} {k : Nat} {bs : List Int32} (h : cB s k bs) : ulen s k = some (nI bs.length) := by
  obtain ⟨h1, h2, h3, h4⟩ := h
  unfold ulen
  rw [if_pos ⟨h1, by rw [h2]; exact ⟨by show 20 ≤ 21; decide, by show 21 < 29; decide⟩⟩, h2]
/-- eight bytes, the first the highest -/
def e8f (g : Nat → Int32) : Nat → Int64
  | 0 => 0
  | j + 1 => (e8f g j <<< (8 : Int64)) ||| (g j).toInt64
def e8g (bs : List Int32) (i j : Nat) : Int32 := if i + j < bs.length then bs.getD (i + j) 0 &&& 255 else 0
def e8w (bs : List Int32) (i : Nat) : Int64 := e8f (e8g bs i) 8
/-- the class's eight bytes of the row k from place fr + i on, up to fr + the length -/
theorem c_e8s {n j fr i : Nat} {k : Nat} {bs : List Int32} {s : uS} (hj : j < 8) (hi : fr + i < 2 ^ 31) (hb : fr + bs.length ≤ 10000) (hg : ∀ q : Nat, q < bs.length → iget 21 s k (nI (fr + q)) = some (bs.getD q 0)) : fn_X11_eightBytes_5 (n + 1) k (nI (fr + i)) (nI (fr + bs.length)) (e8f (e8g bs i) j) (nI j) s = fn_X11_eightBytes_5 n k (nI (fr + i)) (nI (fr + bs.length)) (e8f (e8g bs i) (j + 1)) (nI (j + 1)) s := by
  show fb_X11_eightBytes_5 (fn_X11_eightBytes_5 n) k (nI (fr + i)) (nI (fr + bs.length)) (e8f (e8g bs i) j) (nI j) s = _
  unfold fb_X11_eightBytes_5 fb_X11_eightBytes_34
  rw [if_neg (by rw [show (8 : Int32) = nI 8 by decide]; exact nI_ge hj (by decide)), show (8 : Int32).toInt64 &&& 63 = 8 by decide]
  by_cases c : i + j < bs.length
  · rw [if_neg (fun e => by have := (nI_sbl (by omega) (by omega) (by omega)).mp e; omega), nI_add, show fr + i + j = fr + (i + j) by omega, hg (i + j) c, Option.bind_some, nI_1]
    show fn_X11_eightBytes_5 n k _ _ ((e8f (e8g bs i) j <<< (8 : Int64)) ||| (bs.getD (i + j) 0 &&& 255).toInt64) _ s = fn_X11_eightBytes_5 n k _ _ ((e8f (e8g bs i) j <<< (8 : Int64)) ||| (e8g bs i j).toInt64) _ s
    unfold e8g
    rw [if_pos c]
  · rw [if_pos ((nI_sbl (by omega) (by omega) (by omega)).mpr (by omega)), nI_1]
    show fn_X11_eightBytes_5 n k _ _ ((e8f (e8g bs i) j <<< (8 : Int64)) ||| (0 : Int32).toInt64) _ s = fn_X11_eightBytes_5 n k _ _ ((e8f (e8g bs i) j <<< (8 : Int64)) ||| (e8g bs i j).toInt64) _ s
    rw [show e8g bs i j = 0 from if_neg c]
theorem c_e8 {fr i : Nat} {k : Nat} {bs : List Int32} {s : uS} (hi : fr + i < 2 ^ 31) (hb : fr + bs.length ≤ 10000) (hg : ∀ q : Nat, q < bs.length → iget 21 s k (nI (fr + q)) = some (bs.getD q 0)) : fn_X11_eightBytes k (nI (fr + i)) (nI (fr + bs.length)) s = some (e8w bs i) := by
  unfold fn_X11_eightBytes
  show fn_X11_eightBytes_5 (999991 + 1 + 1 + 1 + 1 + 1 + 1 + 1 + 1 + 1) k (nI (fr + i)) (nI (fr + bs.length)) (e8f (e8g bs i) 0) (nI 0) s = _
  rw [c_e8s (by decide) hi hb hg, c_e8s (by decide) hi hb hg, c_e8s (by decide) hi hb hg, c_e8s (by decide) hi hb hg, c_e8s (by decide) hi hb hg, c_e8s (by decide) hi hb hg, c_e8s (by decide) hi hb hg, c_e8s (by decide) hi hb hg]
  show fb_X11_eightBytes_5 _ k _ _ _ (nI 8) s = _
  unfold fb_X11_eightBytes_5
  rw [if_pos (by decide)]
  rfl
/-- where all bytes are 0 -/
theorem e8_out {bs : List Int32} {i : Nat} (h : bs.length ≤ i) : e8w bs i = 0 := by
  have e : ∀ j, e8f (e8g bs i) j = 0 := by
    intro j
    induction j with
    | zero => rfl
    | succ j ih =>
      show (e8f (e8g bs i) j <<< (8 : Int64)) ||| (e8g bs i j).toInt64 = 0
      rw [ih, show e8g bs i j = 0 from if_neg (by omega)]
      decide
  exact e 8
/-- the mailboxes' names of a user -/
def cX (s : uS) (u : Nat) (ns : List (List Int32)) : Prop := ns.length ≤ 6 ∧ s.I (988 + 16 * u) 3 = nI ns.length ∧ (∀ b : Nat, b < ns.length → (ns.getD b []).length ≤ 20 ∧ ∃ fr : Nat, fr + (ns.getD b []).length ≤ 120 ∧ s.F (990 + 16 * u) b = nI fr ∧ s.F (991 + 16 * u) b = nI (fr + (ns.getD b []).length) ∧ ∀ j : Nat, j < (ns.getD b []).length → s.F (989 + 16 * u) (fr + j) = (ns.getD b []).getD j 0)
def rX (s : uS) (u : Nat) (ns : List (List Int32)) : Prop := ns.length ≤ 6 ∧ s.F 1126 u = nI ns.length ∧ ∀ b : Nat, b < ns.length → (ns.getD b []).length ≤ 20 ∧ s.F 1128 (6 * u + b) = nI (ns.getD b []).length ∧ ∀ j : Nat, j < (ns.getD b []).length → s.F 1127 (20 * (6 * u + b) + j) = (ns.getD b []).getD j 0 &&& 255
/-- whether there is such a mailbox -/
def hasB (nb : Nat → Nat) (x y : Int32) : Bool := decide (0 ≤ x ∧ x < 4 ∧ 0 ≤ y ∧ y < nI (nb x.toNatClampNeg))
theorem c_has {s : uS} {nb : Nat → Nat} (h : ∀ u : Nat, u < 4 → s.I (988 + 16 * u) 3 = nI (nb u)) (x y : Int32) : fn_X11_hasBox x y s = some (hasB nb x y) := by
  unfold fn_X11_hasBox hasB
  by_cases c1 : x < 0
  · rw [if_pos c1, decide_eq_false (fun e => absurd c1 (Int32.not_lt.mpr e.1))]
  · rw [if_neg c1]
    by_cases c2 : (4 : Int32) ≤ x
    · rw [if_pos c2, decide_eq_false (fun e => absurd e.2.1 (Int32.not_lt.mpr c2))]
    · rw [if_neg c2]
      have c2' : x < 4 := Int32.not_le.mp c2
      by_cases c3 : y < 0
      · rw [if_pos c3, decide_eq_false (fun e => absurd c3 (Int32.not_lt.mpr e.2.2.1))]
      · rw [if_neg c3]
        obtain ⟨u, hu, rfl⟩ := nI_of c1
        have hu4 : u < 4 := (nI_ltI hu (by decide)).mp (by rw [show nI 4 = 4 by decide]; exact c2')
        rw [pgt_usr hu4, Option.bind_some, if_pos (so_usr hu4), show 985 + 16 * u + 3 = 988 + 16 * u by omega, h u hu4, nI_clamp (by omega)]
        by_cases c4 : nI (nb u) ≤ y
        · rw [if_pos c4, decide_eq_false (fun e => absurd e.2.2.2 (Int32.not_lt.mpr c4))]
        · rw [if_neg c4, decide_eq_true ⟨Int32.not_lt.mp c1, c2', Int32.not_lt.mp c3, Int32.not_le.mp c4⟩]
theorem r_has {s : uS} {nb : Nat → Nat} (h : ∀ u : Nat, u < 4 → s.F 1126 u = nI (nb u)) (x y : Int32) : fn_X12_isBox x y s = some (hasB nb x y) := by
  unfold fn_X12_isBox hasB
  by_cases c1 : x < 0
  · rw [if_pos c1, decide_eq_false (fun e => absurd c1 (Int32.not_lt.mpr e.1))]
  · rw [if_neg c1]
    by_cases c2 : (4 : Int32) ≤ x
    · rw [if_pos c2, decide_eq_false (fun e => absurd e.2.1 (Int32.not_lt.mpr c2))]
    · rw [if_neg c2]
      have c2' : x < 4 := Int32.not_le.mp c2
      by_cases c3 : y < 0
      · rw [if_pos c3, decide_eq_false (fun e => absurd c3 (Int32.not_lt.mpr e.2.2.1))]
      · rw [if_neg c3]
        obtain ⟨u, hu, rfl⟩ := nI_of c1
        have hu4 : u < 4 := (nI_ltI hu (by decide)).mp (by rw [show nI 4 = 4 by decide]; exact c2')
        rw [iget_c (N := 4) (by decide) (by decide) hu4 (by decide), Option.bind_some, h u hu4, nI_clamp (by omega)]
        by_cases c4 : nI (nb u) ≤ y
        · rw [if_pos c4, decide_eq_false (fun e => absurd e.2.2.2 (Int32.not_lt.mpr c4))]
        · rw [if_neg c4, decide_eq_true ⟨Int32.not_lt.mp c1, c2', Int32.not_lt.mp c3, Int32.not_le.mp c4⟩]
