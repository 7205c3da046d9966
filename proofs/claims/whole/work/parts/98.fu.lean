/-! the header of a message: what both look for -/
def lnE (tx : List Nat) : Nat → Nat → Nat
  | 0, _ => tx.length
  | n + 1, a => if tx.length ≤ a + 1 then tx.length else if tx.getD a 0 = 13 ∧ tx.getD (a + 1) 0 = 10 then a else lnE tx n (a + 1)
def lE (tx : List Nat) (a : Nat) : Nat := lnE tx (tx.length - a) a
theorem lnE_ge {tx : List Nat} : ∀ (n a : Nat), a ≤ tx.length → a ≤ lnE tx n a ∧ lnE tx n a ≤ tx.length
  | 0, a, h => ⟨h, Nat.le_refl _⟩
  | n + 1, a, h => by
    unfold lnE
    split
    · exact ⟨h, Nat.le_refl _⟩
    · split
      · exact ⟨Nat.le_refl _, h⟩
      · have := lnE_ge (tx := tx) n (a + 1) (by omega)
        omega
theorem lnE_at {tx : List Nat} : ∀ (n a e : Nat), a ≤ e → e + 1 < tx.length → tx.getD e 0 = 13 → tx.getD (e + 1) 0 = 10 → tx.length ≤ a + n → lnE tx n a + 1 < tx.length ∧ tx.getD (lnE tx n a) 0 = 13 ∧ tx.getD (lnE tx n a + 1) 0 = 10
  | 0, a, e, h1, h2, h3, h4, h5 => by omega
  | n + 1, a, e, h1, h2, h3, h4, h5 => by
    unfold lnE
    rw [if_neg (by omega)]
    by_cases c : tx.getD a 0 = 13 ∧ tx.getD (a + 1) 0 = 10
    · rw [if_pos c]; exact ⟨by omega, c.1, c.2⟩
    · rw [if_neg c]
      by_cases d : a = e
      · subst d; exact absurd ⟨h3, h4⟩ c
      · exact lnE_at n (a + 1) e (by omega) h2 h3 h4 (by omega)
def nch (b : Nat) : Bool := decide (32 < b ∧ b < 127 ∧ b ≠ 58)
def nmE (tx : List Nat) (e : Nat) : Nat → Nat → Nat
  | 0, a => a
  | n + 1, a => if e ≤ a then a else if nch (tx.getD a 0) = true then nmE tx e n (a + 1) else a
def blE (tx : List Nat) (e : Nat) : Nat → Nat → Nat
  | 0, a => a
  | n + 1, a => if e ≤ a then a else if isBl (tx.getD a 0) = true then blE tx e n (a + 1) else a
theorem nmE_ge {tx : List Nat} {e : Nat} : ∀ (n a : Nat), a ≤ e → a ≤ nmE tx e n a ∧ nmE tx e n a ≤ e
  | 0, a, h => ⟨Nat.le_refl _, h⟩
  | n + 1, a, h => by
    unfold nmE
    split
    · exact ⟨Nat.le_refl _, h⟩
    · split
      · have := nmE_ge (tx := tx) (e := e) n (a + 1) (by omega)
        omega
      · exact ⟨Nat.le_refl _, h⟩
theorem blE_ge {tx : List Nat} {e : Nat} : ∀ (n a : Nat), a ≤ e → a ≤ blE tx e n a ∧ blE tx e n a ≤ e
  | 0, a, h => ⟨Nat.le_refl _, h⟩
  | n + 1, a, h => by
    unfold blE
    split
    · exact ⟨Nat.le_refl _, h⟩
    · split
      · have := blE_ge (tx := tx) (e := e) n (a + 1) (by omega)
        omega
      · exact ⟨Nat.le_refl _, h⟩
def fldN (tx : List Nat) (a e : Nat) : Nat := nmE tx e (e - a) a
def fldC (tx : List Nat) (a e : Nat) : Nat := blE tx e (e - fldN tx a e) (fldN tx a e)
def fldB (tx : List Nat) (a e : Nat) : Bool := decide (fldN tx a e ≠ a ∧ fldN tx a e - a ≤ 60 ∧ fldC tx a e < e ∧ tx.getD (fldC tx a e) 0 = 58)
theorem fld_ge {tx : List Nat} {a e : Nat} (h : a ≤ e) : a ≤ fldN tx a e ∧ fldN tx a e ≤ fldC tx a e ∧ fldC tx a e ≤ e := by
  have x := nmE_ge (tx := tx) (e - a) a h
  have y := blE_ge (tx := tx) (e - fldN tx a e) (fldN tx a e) x.2
  exact ⟨x.1, y.1, y.2⟩
/-- blanks at both ends -/
def tA (v : List Nat) : Nat → Nat → Nat
  | 0, a => a
  | n + 1, a => if v.length ≤ a then a else if isBl (v.getD a 0) = true then tA v n (a + 1) else a
def tB (v : List Nat) (a : Nat) : Nat → Nat
  | 0 => 0
  | b + 1 => if b + 1 ≤ a then b + 1 else if isBl (v.getD b 0) = true then tB v a b else b + 1
theorem tA_le {v : List Nat} : ∀ (n a : Nat), a ≤ v.length → a ≤ tA v n a ∧ tA v n a ≤ v.length
  | 0, a, h => ⟨Nat.le_refl _, h⟩
  | n + 1, a, h => by
    unfold tA
    split
    · exact ⟨Nat.le_refl _, h⟩
    · split
      · have := tA_le (v := v) n (a + 1) (by omega)
        omega
      · exact ⟨Nat.le_refl _, h⟩
theorem tB_le {v : List Nat} {a : Nat} : ∀ (b : Nat), a ≤ b → a ≤ tB v a b ∧ tB v a b ≤ b
  | 0, h => ⟨h, Nat.le_refl _⟩
  | b + 1, h => by
    unfold tB
    split
    · exact ⟨h, Nat.le_refl _⟩
    · split
      · have := tB_le (v := v) (a := a) b (by omega)
        omega
      · exact ⟨h, Nat.le_refl _⟩
def trA (v : List Nat) : Nat := tA v v.length 0
def trB (v : List Nat) : Nat := tB v (trA v) v.length
def trm (v : List Nat) : List Nat := sub v (trA v) (trB v)
theorem tr_le (v : List Nat) : trA v ≤ trB v ∧ trB v ≤ v.length := by
  have x := tA_le (v := v) v.length 0 (Nat.zero_le _)
  exact tB_le (v := v) (a := trA v) v.length x.2
theorem trm_len (v : List Nat) : (trm v).length ≤ v.length := by
  have := tr_le v
  unfold trm
  rw [sub_len this.2 this.1]
  omega
/-- a field that is not ended yet -/
def flP : Option (List Nat × List Nat) → List (List Nat × List Nat)
  | none => []
  | some p => [(p.1, trm p.2)]
/-- the fields from a line's begin on -/
def hdL (tx : List Nat) : Nat → Nat → Option (List Nat × List Nat) → List (List Nat × List Nat)
  | 0, _, p => flP p
  | n + 1, a, p => if tx.length ≤ a then flP p else
    if a < lE tx a ∧ isBl (tx.getD a 0) = true then (match p with
      | none => []
      | some q => hdL tx n (lE tx a + 2) (some (q.1, q.2 ++ sub tx a (lE tx a))))
    else if fldB tx a (lE tx a) = true then flP p ++ hdL tx n (lE tx a + 2) (some (sub tx a (fldN tx a (lE tx a)), sub tx (fldC tx a (lE tx a) + 1) (lE tx a)))
    else flP p
