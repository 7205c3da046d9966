/-! the lexers: texts of lines -/
def isBl (b : Nat) : Bool := decide (b = 32 ∨ b = 9)
def blx (x : List Nat) : Nat → Nat → Nat
  | 0, p => p
  | n + 1, p => if p < x.length ∧ isBl (x.getD p 0) = true then blx x n (p + 1) else p
theorem blx_le {x : List Nat} : ∀ {n p : Nat}, p ≤ x.length → p ≤ blx x n p ∧ blx x n p ≤ x.length := by
  intro n
  induction n with
  | zero => intro p h; exact ⟨Nat.le_refl _, h⟩
  | succ n ih =>
    intro p h
    unfold blx
    split
    · have := ih (p := p + 1) (by omega); omega
    · exact ⟨Nat.le_refl _, h⟩
theorem blx_mono {x : List Nat} : ∀ (n p : Nat), x.length ≤ p + n → blx x (n + 1) p = blx x n p := by
  intro n
  induction n with
  | zero => intro p h; unfold blx; rw [if_neg (by omega)]
  | succ n ih =>
    intro p h
    show (if p < x.length ∧ isBl (x.getD p 0) = true then blx x (n + 1) (p + 1) else p) = (if p < x.length ∧ isBl (x.getD p 0) = true then blx x n (p + 1) else p)
    rw [ih (p + 1) (by omega)]
theorem blx_add {x : List Nat} {p : Nat} : ∀ d : Nat, blx x (x.length + d) p = blx x x.length p := by
  intro d
  induction d with
  | zero => rfl
  | succ d ih => rw [← ih, show x.length + (d + 1) = (x.length + d) + 1 by omega]; exact blx_mono _ _ (by omega)
def bl (x : List Nat) (p : Nat) : Nat := blx x x.length p
/-- how long the end of a line is there -/
def eAt (x : List Nat) (q : Nat) : Nat := if q < x.length ∧ x.getD q 0 = 10 then 1 else if q + 1 < x.length ∧ x.getD q 0 = 13 ∧ x.getD (q + 1) 0 = 10 then 2 else 0
/-- where lines begin behind a text's colon at p -/
def ltx (x : List Nat) (p : Nat) : Option Nat := if eAt x (bl x (p + 1)) = 0 then none else some (bl x (p + 1) + eAt x (bl x (p + 1)))
theorem eAt_v (x : List Nat) (q : Nat) : eAt x q = 0 ∨ (eAt x q = 1 ∧ q < x.length) ∨ (eAt x q = 2 ∧ q + 1 < x.length) := by
  unfold eAt
  split
  · rename_i h; exact Or.inr (Or.inl ⟨rfl, h.1⟩)
  · split
    · rename_i h; exact Or.inr (Or.inr ⟨rfl, h.1⟩)
    · exact Or.inl rfl
theorem r_endAt {t : uS} {x : List Nat} {p q : Nat} (h : lxR t x p) (hq : q < 10000) : fn_X12_endAt (nI q) t = some (nI (eAt x q)) := by
  obtain ⟨h1, h2, h3, h4, -, -⟩ := h
  have key : ¬ (q < x.length ∧ x.getD q 0 = 10) → fb_X12_endAt_23 (nI q) t = some (nI (eAt x q)) := by
    intro hn
    unfold fb_X12_endAt_23 eAt
    rw [if_neg hn, h1, nI_1]
    by_cases c : x.length ≤ q + 1
    · rw [if_pos (nI_le c (by omega)), if_neg (by omega)]; rfl
    · have b1 := h3 q
      have b2 := h3 (q + 1)
      have e1 : nI (x.getD q 0) = (13 : Int32) ↔ x.getD q 0 = 13 := nI_eq (by omega) (by decide)
      have e2 : nI (x.getD (q + 1) 0) = (10 : Int32) ↔ x.getD (q + 1) 0 = 10 := nI_eq (by omega) (by decide)
      rw [if_neg (nI_ge (by omega) (by omega)), g_1096 (by omega), Option.bind_some, h2 q (by omega), g_1096 (by omega), Option.bind_some, h2 (q + 1) (by omega)]
      by_cases d : x.getD q 0 = 13
      · rw [if_pos (e1.mpr d)]
        by_cases e : x.getD (q + 1) 0 = 10
        · rw [if_pos (e2.mpr e), if_pos ⟨by omega, d, e⟩]; rfl
        · rw [if_neg (fun z => e (e2.mp z)), if_neg (fun z => e z.2.2)]; rfl
      · rw [if_neg (fun z => d (e1.mp z)), if_neg (fun z => d z.2.1)]; rfl
  unfold fn_X12_endAt
  rw [h1]
  by_cases c : x.length ≤ q
  · rw [if_pos (nI_le c (by omega))]; exact key (by omega)
  · have b1 := h3 q
    have e1 : nI (x.getD q 0) = (10 : Int32) ↔ x.getD q 0 = 10 := nI_eq (by omega) (by decide)
    rw [if_neg (nI_ge (by omega) (by omega)), g_1096 (by omega), Option.bind_some, h2 q (by omega)]
    by_cases d : x.getD q 0 = 10
    · rw [if_pos (e1.mpr d)]
      unfold eAt
      rw [if_pos ⟨by omega, d⟩]; rfl
    · rw [if_neg (fun z => d (e1.mp z))]; exact key (fun z => d z.2)
theorem iBl_s {b : Nat} (h : b < 256) (s : uS) : fn_X9_isBlank (sb b) s = some (isBl b) := by
  unfold fn_X9_isBlank isBl
  have e1 : sb b = (32 : Int32) ↔ b = 32 := sb_e h (by decide)
  have e2 : sb b = (9 : Int32) ↔ b = 9 := sb_e h (by decide)
  by_cases c : b = 32
  · rw [if_pos (e1.mpr c), decide_eq_true (Or.inl c)]
  · rw [if_neg (fun z => c (e1.mp z))]
    by_cases d : b = 9
    · rw [if_pos (e2.mpr d), decide_eq_true (Or.inr d)]
    · rw [if_neg (fun z => d (e2.mp z)), decide_eq_false (by omega)]
theorem c_linesL {s : uS} {k fr p : Nat} {x : List Nat} (h : lxC s k fr x p) : ∀ (n i : Nat), x.length < i + n → i ≤ x.length → fn_X2_linesOfText_42 n (nI (fr + i)) s = fb_X2_linesOfText_68 (nI (fr + blx x n i)) s := by
  have hx := h.2.2.1
  have hfr := h.2.2.2.1
  intro n
  induction n with
  | zero => intro i a b; omega
  | succ n ih =>
    intro i a b
    unfold fn_X2_linesOfText_42 fb_X2_linesOfText_42 blx
    rw [h.2.2.2.2.2.1]
    by_cases c : i < x.length
    · rw [if_neg (nI_ge (by omega) (by omega)), h.1, Option.bind_some, h.at c, Option.bind_some, iBl_s (h.by i), Option.bind_some]
      by_cases d : isBl (x.getD i 0) = true
      · rw [if_pos d, if_pos (show i < x.length ∧ isBl (x.getD i 0) = true from ⟨c, d⟩), nI_1, show fr + i + 1 = fr + (i + 1) by omega]; exact ih (i + 1) (by omega) (by omega)
      · rw [if_neg d, if_neg (show ¬ (i < x.length ∧ isBl (x.getD i 0) = true) from fun z => d z.2)]
    · rw [if_pos (nI_le (by omega) (by omega)), if_neg (show ¬ (i < x.length ∧ isBl (x.getD i 0) = true) from fun z => c z.1)]
theorem c_lines68 {s : uS} {k fr p j : Nat} {x : List Nat} (h : lxC s k fr x p) (hj : j ≤ x.length) : fb_X2_linesOfText_68 (nI (fr + j)) s = some (if eAt x j = 0 then -1 else nI (fr + (j + eAt x j))) := by
  have hx := h.2.2.1
  have hfr := h.2.2.2.1
  have h81 : ∀ q : Nat, q ≤ x.length + 1 → fb_X2_linesOfText_81 (nI (fr + q)) s = some (if q < x.length ∧ x.getD q 0 = 10 then nI (fr + (q + 1)) else -1) := by
    intro q hq
    unfold fb_X2_linesOfText_81
    rw [h.byteAt (by omega), Option.bind_some, nI_1, show fr + q + 1 = fr + (q + 1) by omega]
    by_cases c : q < x.length
    · have e : sb (x.getD q 0) = (10 : Int32) ↔ x.getD q 0 = 10 := sb_e (h.by q) (by decide)
      rw [if_pos c]
      by_cases d : x.getD q 0 = 10
      · rw [if_pos (e.mpr d), if_pos ⟨c, d⟩]
      · rw [if_neg (fun z => d (e.mp z)), if_neg (fun z => d z.2)]
    · rw [if_neg c, if_neg (by decide), if_neg (fun z => c z.1)]
  unfold fb_X2_linesOfText_68
  rw [h.byteAt (by omega), Option.bind_some, nI_1, show fr + j + 1 = fr + (j + 1) by omega, h81 j (by omega), h81 (j + 1) (by omega)]
  unfold eAt
  by_cases c : j < x.length
  · have e : sb (x.getD j 0) = (13 : Int32) ↔ x.getD j 0 = 13 := sb_e (h.by j) (by decide)
    rw [if_pos c]
    by_cases d : x.getD j 0 = 13
    · rw [if_pos (e.mpr d), if_neg (show ¬ (j < x.length ∧ x.getD j 0 = 10) by omega)]
      by_cases f : j + 1 < x.length ∧ x.getD (j + 1) 0 = 10
      · rw [if_pos f, if_pos (show j + 1 < x.length ∧ x.getD j 0 = 13 ∧ x.getD (j + 1) 0 = 10 from ⟨f.1, d, f.2⟩), if_neg (by decide), show j + 1 + 1 = j + 2 by omega]
      · rw [if_neg f, if_neg (show ¬ (j + 1 < x.length ∧ x.getD j 0 = 13 ∧ x.getD (j + 1) 0 = 10) from fun z => f ⟨z.1, z.2.2⟩), if_pos rfl]
    · rw [if_neg (fun z => d (e.mp z))]
      by_cases f : x.getD j 0 = 10
      · rw [if_pos ⟨c, f⟩, if_pos (show j < x.length ∧ x.getD j 0 = 10 from ⟨c, f⟩), if_neg (by decide)]
      · rw [if_neg (fun z => f z.2), if_neg (show ¬ (j < x.length ∧ x.getD j 0 = 10) from fun z => f z.2), if_neg (show ¬ (j + 1 < x.length ∧ x.getD j 0 = 13 ∧ x.getD (j + 1) 0 = 10) from fun z => d z.2.1), if_pos rfl]
  · rw [if_neg c, if_neg (show ¬ (-1 : Int32) = 13 by decide), if_neg (fun z => c z.1), if_neg (show ¬ (j < x.length ∧ x.getD j 0 = 10) from fun z => c z.1), if_neg (show ¬ (j + 1 < x.length ∧ x.getD j 0 = 13 ∧ x.getD (j + 1) 0 = 10) by omega), if_pos rfl]
theorem c_lines {s : uS} {k fr p i : Nat} {x : List Nat} (h : lxC s k fr x p) (hi : i + 1 ≤ x.length) : fn_X2_linesOfText_42 uFu (nI (fr + (i + 1))) s = some (match ltx x i with | none => -1 | some q => nI (fr + q)) := by
  have hx := h.2.2.1
  have h1 := c_linesL h uFu (i + 1) (by show _ < i + 1 + 1000000; omega) hi
  have hb : i + 1 ≤ bl x (i + 1) ∧ bl x (i + 1) ≤ x.length := blx_le (x := x) (n := x.length) hi
  have h2 : blx x uFu (i + 1) = bl x (i + 1) := by
    show blx x 1000000 (i + 1) = _
    rw [show 1000000 = x.length + (1000000 - x.length) by omega]
    exact blx_add _
  rw [h1, h2, c_lines68 h hb.2]
  unfold ltx
  by_cases c : eAt x (bl x (i + 1)) = 0
  · rw [if_pos c, if_pos c]
  · rw [if_neg c, if_neg c]
