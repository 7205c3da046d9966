/-! plans: places of mailboxes; the class's side -/
def fndI : List (List Nat) → List Nat → Nat → Option Nat
  | [], _, _ => none
  | x :: l, w, i => if x = w then some i else fndI l w (i + 1)
theorem fndI_app {w : List Nat} : ∀ (a b : List (List Nat)) (i : Nat), fndI (a ++ b) w i = match fndI a w i with | some j => some j | none => fndI b w (i + a.length)
  | [], b, i => rfl
  | x :: a, b, i => by
    show (if x = w then some i else fndI (a ++ b) w (i + 1)) = match (if x = w then some i else fndI a w (i + 1)) with | some j => some j | none => fndI b w (i + (a.length + 1))
    by_cases c : x = w
    · rw [if_pos c, if_pos c]
    · rw [if_neg c, if_neg c, fndI_app a b (i + 1), show i + 1 + a.length = i + (a.length + 1) by omega]
theorem fndI_lt {w : List Nat} : ∀ {l : List (List Nat)} {i j : Nat}, fndI l w i = some j → i ≤ j ∧ j < i + l.length ∧ l.getD (j - i) [] = w
  | [], i, j, h => by cases h
  | x :: l, i, j, h => by
    have h2 : (if x = w then some i else fndI l w (i + 1)) = some j := h
    by_cases c : x = w
    · rw [if_pos c] at h2
      cases h2
      exact ⟨Nat.le_refl _, by simp, by rw [Nat.sub_self]; exact c⟩
    · rw [if_neg c] at h2
      obtain ⟨a, b, e⟩ := fndI_lt h2
      refine ⟨by omega, by simp only [List.length_cons]; omega, ?_⟩
      rw [show j - i = (j - (i + 1)) + 1 by omega]; exact e
theorem fndI_no {w : List Nat} : ∀ {l : List (List Nat)} {i : Nat}, fndI l w i = none ↔ w ∉ l
  | [], i => ⟨fun _ => by simp, fun _ => rfl⟩
  | x :: l, i => by
    show (if x = w then some i else fndI l w (i + 1)) = none ↔ _
    by_cases c : x = w
    · rw [if_pos c]; simp [c]
    · rw [if_neg c, fndI_no (l := l)]
      simp only [List.mem_cons, not_or]
      exact ⟨fun h => ⟨fun e => c e.symm, h⟩, fun h => h.2⟩
theorem fndI_sh {w : List Nat} : ∀ {l : List (List Nat)} {i k : Nat}, fndI l w (i + k) = (fndI l w i).map (· + k)
  | [], i, k => rfl
  | x :: l, i, k => by
    show (if x = w then some (i + k) else fndI l w (i + k + 1)) = (if x = w then some i else fndI l w (i + 1)).map (· + k)
    by_cases c : x = w
    · rw [if_pos c, if_pos c]; rfl
    · rw [if_neg c, if_neg c, show i + k + 1 = (i + 1) + k by omega, fndI_sh]
/-- the place of a mailbox -/
def bxN (l : List (List Nat)) : Option (List Nat) → Option Nat
  | none => some 0
  | some w => fndI l w 0
theorem bxN_app {l m : List (List Nat)} {k : Option (List Nat)} {b : Nat} (h : bxN l k = some b) : bxN (l ++ m) k = some b := by
  cases k with
  | none => exact h
  | some w =>
    have h2 : fndI l w 0 = some b := h
    show fndI (l ++ m) w 0 = some b
    rw [fndI_app, h2]
def kyO (k : Option (List Nat)) : Prop := ∀ w : List Nat, k = some w → eqW w kW_142 = false
theorem fky_ok (ts : List (List Nat)) (x : Option Nat) : kyO (fky ts x) := by
  intro w h
  cases x with
  | none => cases h
  | some j =>
    have h2 : (if eqW (ts.getD j []) kW_142 = true then none else some (ts.getD j [])) = some w := h
    split at h2
    · cases h2
    · rename_i c; cases h2; rw [← Bool.not_eq_true]; exact c
theorem inb_W : eqW kW_59 kW_142 = true := by decide
theorem bxN_inj {l : List (List Nat)} {k1 k2 : Option (List Nat)} {b : Nat} (h0 : l.getD 0 [] = kW_59) (o1 : kyO k1) (o2 : kyO k2) (h1 : bxN l k1 = some b) (h2 : bxN l k2 = some b) : k1 = k2 := by
  have key : ∀ w : List Nat, kyO (some w) → bxN l (some w) = some 0 → False := by
    intro w hw h
    have h' : fndI l w 0 = some 0 := h
    obtain ⟨-, -, e⟩ := fndI_lt h'
    rw [h0] at e
    have := hw w rfl
    rw [← e, inb_W] at this
    cases this
  cases k1 with
  | none =>
    cases k2 with
    | none => rfl
    | some w =>
      have hb : b = 0 := (Option.some.inj h1).symm
      rw [hb] at h2
      exact (key w o2 h2).elim
  | some v =>
    cases k2 with
    | none =>
      have hb : b = 0 := (Option.some.inj h2).symm
      rw [hb] at h1
      exact (key v o1 h1).elim
    | some w =>
      have h1' : fndI l v 0 = some b := h1
      have h2' : fndI l w 0 = some b := h2
      obtain ⟨-, -, e1⟩ := fndI_lt h1'
      obtain ⟨-, -, e2⟩ := fndI_lt h2'
      rw [← e1, ← e2]
theorem pig_f {n : Nat} : ∀ l : List Nat, l.Nodup → l.length ≤ (l.filter (fun x => decide (x ≠ n))).length + 1
  | [], _ => by simp
  | x :: l, h => by
    obtain ⟨h1, h2⟩ := List.nodup_cons.mp h
    rw [List.filter_cons]
    by_cases c : x = n
    · rw [if_neg (by simp [c])]
      have : l.filter (fun x => decide (x ≠ n)) = l := List.filter_eq_self.mpr (fun a ha => decide_eq_true (fun e => h1 (by rw [c, ← e]; exact ha)))
      rw [this]; simp
    · rw [if_pos (decide_eq_true c)]
      have := pig_f (n := n) l h2
      simp only [List.length_cons]; omega
theorem pig : ∀ (n : Nat) (l : List Nat), l.Nodup → (∀ x ∈ l, x < n) → l.length ≤ n
  | 0, l, _, h => by
    cases l with
    | nil => exact Nat.le_refl _
    | cons x l => exact absurd (h x (by simp)) (by omega)
  | n + 1, l, hd, h => by
    have a := pig_f (n := n) l hd
    have b := pig n (l.filter (fun x => decide (x ≠ n))) (hd.filter _) (fun x hx => by
      have := List.mem_filter.mp hx
      have h1 := h x this.1
      have h2 := of_decide_eq_true this.2
      omega)
    omega
/-- filed, as the class holds it -/
def cFi (s : uS) (CF : List (Nat × Nat)) : Prop := s.I 1070 5 = nI CF.length ∧ CF.length ≤ 6 ∧ ∀ k : Nat, k < CF.length → s.F 1071 k = nI (CF.getD k (0, 0)).1 ∧ (CF.getD k (0, 0)).1 < 6 ∧ s.F 1072 k = nI (CF.getD k (0, 0)).2
def cNb (s : uS) (nb : List Nat) : Prop := s.I 1070 6 = nI nb.length ∧ nb.length ≤ 6 ∧ ∀ k : Nat, k < nb.length → s.F 1073 k = nI (nb.getD k 0)
def cDi (s : uS) (D : List Nat) : Prop := s.I 1070 7 = nI D.length ∧ D.length ≤ 4 ∧ ∀ k : Nat, k < D.length → s.F 1074 k = nI (D.getD k 0)
def hasC (CF : List (Nat × Nat)) (b : Nat) : Bool := anyB (fun k => decide ((CF.getD k (0, 0)).1 = b)) CF.length 0
def addC (CF : List (Nat × Nat)) (b g : Nat) : List (Nat × Nat) := if hasC CF b = true then CF else CF ++ [(b, g)]
theorem getDc_app {F : List (Nat × Nat)} {f : Nat × Nat} {i : Nat} (h : i < F.length) : (F ++ [f]).getD i (0, 0) = F.getD i (0, 0) := by
  rw [List.getD_eq_getElem?_getD, List.getD_eq_getElem?_getD, List.getElem?_append_left h]
theorem getDc_end {F : List (Nat × Nat)} {f : Nat × Nat} : (F ++ [f]).getD F.length (0, 0) = f := by
  rw [List.getD_eq_getElem?_getD, List.getElem?_append_right (Nat.le_refl _), Nat.sub_self]; rfl
def pfI (k f : Nat) : Prop := k = 1070 ∧ f = 5
def pfF (k _f : Nat) : Prop := k = 1071 ∨ k = 1072
theorem c_addFile {s : uS} {CF : List (Nat × Nat)} {b g : Nat} (h : cFi s CF) (hb : b < 6) (hl : hasC CF b = false → CF.length < 6) : ∃ s1 : uS, fn_X7_addFile (nI b) (nI g) s = some s1 ∧ cFi s1 (addC CF b g) ∧ out pfI pfF s s1 := by
  obtain ⟨h1, h2, h3⟩ := h
  unfold fn_X7_addFile
  rw [any0 (F := fun n x => fn_X7_addFile_2 n (nI b) (nI g) x s) (p := fun k => decide ((CF.getD k (0, 0)).1 = b)) (fin := fun B => if B = true then some s else ((ulen s 1071).bind fun v2 => if v2 ≤ (s.I 1070 5) then (some s) else ((iput 20 s 1071 (s.I 1070 5) (nI b)).bind fun s5 => (iput 20 s5 1072 (s5.I 1070 5) (nI g)).bind fun s7 => some (wI s7 1070 5 ((s7.I 1070 5) + 1))))) (L := CF.length) (fun n k hk => ?_) (by show _ < 1000000; omega)]
  · unfold addC
    show ∃ s1 : uS, (if hasC CF b = true then _ else _) = _ ∧ _
    cases c : hasC CF b with
    | true => rw [if_pos rfl, if_pos rfl]; exact ⟨s, rfl, ⟨h1, h2, h3⟩, out_r⟩
    | false =>
      have hlt := hl c
      rw [if_neg (show ¬ (false = true) by decide), if_neg (show ¬ (false = true) by decide), ulen_c (t := 20) (N := 6) (by decide) (by decide) (by decide), Option.bind_some, h1, if_neg (nI_ge hlt (by decide)), p_1071 (by omega), Option.bind_some, wF_I, h1, p_1072 (by omega), Option.bind_some, wF_I, wF_I, h1, nI_1]
      refine ⟨_, rfl, ⟨by rw [wI_e, List.length_append]; rfl, by rw [List.length_append]; simp; omega, fun k hk => ?_⟩, out_I (out_F (out_F out_r (Or.inl rfl)) (Or.inr rfl)) ⟨rfl, rfl⟩⟩
      rw [List.length_append] at hk
      simp at hk
      rw [wI_F]
      by_cases e : k = CF.length
      · rw [e, getDc_end, wF_o (by omega), wF_e, wF_e]
        exact ⟨rfl, hb, rfl⟩
      · rw [getDc_app (by omega), wF_o (by omega), wF_o (by omega), wF_o (by omega), wF_o (by omega)]
        exact h3 k (by omega)
  · show fb_X7_addFile_2 (fn_X7_addFile_2 n) (nI b) (nI g) (nI k) s = _
    unfold fb_X7_addFile_2
    by_cases c : CF.length ≤ k
    · rw [if_pos (by rw [h1]; exact nI_le c (by omega)), if_pos c]; rfl
    · rw [if_neg (by rw [h1]; exact nI_ge (by omega) (by omega)), if_neg c, g_1071 (by omega), Option.bind_some, (h3 k (by omega)).1, nI_1]
      have e := nI_eq (a := (CF.getD k (0, 0)).1) (b := b) (by have := (h3 k (by omega)).2.1; omega) (by omega)
      by_cases w : (CF.getD k (0, 0)).1 = b
      · rw [if_pos (e.mpr w), if_pos (decide_eq_true w), if_pos rfl]
      · rw [if_neg (fun z => w (e.mp z)), if_neg (by rw [decide_eq_true_eq]; exact w)]
