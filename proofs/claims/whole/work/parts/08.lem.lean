/-- the array classes: ints, bytes, booleans, longs; Queue, ScriptSession, User, Entry, Node -/
def h_ty (A : Nat → ClassId) : List (ClassId × FieldType) := [(A 0, .int), (A 1, .byte), (A 2, .boolean), (A 3, .long), (A 4, .object RX5), (A 5, .object RX8), (A 6, .object RX10), (A 7, .object RX1), (A 8, .object RX3)]
theorem h_e {σ : hS} {a : Nat} {e : va_E} : (h_set σ a e).1 a = some e := if_pos rfl
theorem h_n {σ : hS} {a b : Nat} {e : va_E} {r : Option va_E} (h : b ≠ a) (hb : σ.1 b = r) : (h_set σ a e).1 b = r := (if_neg h).trans hb
theorem h_ne {σ : hS} {e : va_E} {k : Nat} : (h_new σ e k).1 σ.2.1 = some e := if_pos rfl
theorem h_nn {σ : hS} {b k : Nat} {e : va_E} {r : Option va_E} (h : b ≠ σ.2.1) (hb : σ.1 b = r) : (h_new σ e k).1 b = r := (if_neg h).trans hb
theorem h_nk {σ : hS} {a b : Nat} {x y : va_E} (ha : σ.1 a = some x) (hb : σ.1 b = some y) (h : x ≠ y) : a ≠ b := fun e => h (by subst e; exact Option.some.inj (ha.symm.trans hb))
theorem h_oa {x : Nat × List Value} {y : ClassId × vp_A} : (Sum.inr x : va_E) ≠ Sum.inl y := fun h => by cases h
theorem h_ao {x : Nat × List Value} {y : ClassId × vp_A} : (Sum.inl y : va_E) ≠ Sum.inr x := fun h => by cases h
theorem h_oo {i j : Nat} {x y : List Value} (h : i ≠ j) : (Sum.inr (i, x) : va_E) ≠ Sum.inr (j, y) := fun e => by cases e; exact h rfl
section HL
variable {l : Launch} {D : va_G} {ty : List (ClassId × FieldType)} {B : Nat} {Z : State → Heap → Prop} {M : hM} {d : Nat} {σ0 σ : hS} {P : hS → Option Value → Prop} {pc : Nat} {lv : List (Nat × Value)} {st : List Value}
theorem g_eqi {x : Int32} (y : Int32) (h : x = y) (k : G l D ty B Z M d σ0 P σ pc lv (.int y :: st)) : G l D ty B Z M d σ0 P σ pc lv (.int x :: st) := h ▸ k
theorem g_eql {x : Int64} (y : Int64) (h : x = y) (k : G l D ty B Z M d σ0 P σ pc lv (.long y :: st)) : G l D ty B Z M d σ0 P σ pc lv (.long x :: st) := h ▸ k
theorem g_eqv {x : Value} (y : Value) (h : x = y) (k : G l D ty B Z M d σ0 P σ pc lv (y :: st)) : G l D ty B Z M d σ0 P σ pc lv (x :: st) := h ▸ k
theorem g_eqs {σ1 : hS} (h : σ = σ1) (k : G l D ty B Z M d σ0 P σ1 pc lv st) : G l D ty B Z M d σ0 P σ pc lv st := h ▸ k
/-- the bounds that every state of a run keeps -/
theorem g_bd (k : B ≤ σ.2.1 → σ.2.1 ≤ B + h_CN → σ.2.2 ≤ h_CK → (∀ a e, σ.1 a = some e → a < σ.2.1) → G l D ty B Z M d σ0 P σ pc lv st) : G l D ty B Z M d σ0 P σ pc lv st := fun p e s m args below meth c C9 H locs ls hR hS h3 hl9 => k hR.2.2.2.2.1 hR.2.2.2.2.2.1 hR.2.2.2.2.2.2.1 (fun a e h => by have h1 := (hR.2.2.2.2.2.2.2 a e h).2.lt; rw [hR.2.2.1] at h1; exact h1) p e s m args below meth c C9 H locs ls hR hS h3 hl9
end HL
/-- nothing is made, and no cell is changed but those of F -/
def h_fr (F : Nat → Prop) (σ σ1 : hS) : Prop := (∀ q : Nat, ¬ F q → σ1.1 q = σ.1 q) ∧ σ1.2 = σ.2
theorem h_fr.rf {F : Nat → Prop} {σ : hS} : h_fr F σ σ := ⟨fun _ _ => rfl, rfl⟩
theorem h_fr.tr {F : Nat → Prop} {σ σ1 σ2 : hS} (h : h_fr F σ σ1) (h' : h_fr F σ1 σ2) : h_fr F σ σ2 := ⟨fun q hq => (h'.1 q hq).trans (h.1 q hq), h'.2.trans h.2⟩
/-- a queue of answers: its bytes that wait -/
def qAt (A : Nat → ClassId) (σ : hS) (a row : Nat) (xs : List Int32) : Prop := ∃ (fi : Nat) (f : Nat → Int32), fi < 10000 ∧ xs.length ≤ 10000 ∧ σ.1 a = some (.inr (5, [.ref row, .int (nI fi), .int (nI xs.length)])) ∧ σ.1 row = some (.inl (A 1, 10000, .inl f)) ∧ ∀ j : Nat, j < xs.length → f ((fi + j) % 10000) = xs.getD j 0
def q_add (xs : List Int32) (b : Int32) : List Int32 := if xs.length < 10000 then xs ++ [b.toInt8.toInt32] else xs
theorem q_add_ok {A : Nat → ClassId} {σ1 : hS} {a row fi : Nat} {xs : List Int32} {f : Nat → Int32} {b : Int32} (h1 : fi < 10000) (hc : xs.length < 10000) (hf : ∀ j : Nat, j < xs.length → f ((fi + j) % 10000) = xs.getD j 0) (e1 : σ1.1 a = some (.inr (5, [.ref row, .int (nI fi), .int (nI xs.length + 1)]))) (e2 : σ1.1 row = some (.inl (A 1, 10000, .inl (upd f (nI ((fi + xs.length) % 10000)).toNatClampNeg (vp_nar .byte b.toInt8.toInt32))))) : qAt A σ1 a row (q_add xs b) := by
  unfold q_add
  rw [if_pos hc]
  refine ⟨fi, _, h1, by simp; omega, ?_, e2, ?_⟩
  · rw [e1, nI_1, List.length_append]
    rfl
  · intro j hj
    rw [nI_clamp (Nat.lt_trans (Nat.mod_lt _ (by decide)) (by decide))]
    simp only [List.length_append, List.length_singleton] at hj
    by_cases hjl : j = xs.length
    · subst hjl
      rw [pk_us, pk_vb]
      simp
    · rw [pk_un (by omega), hf j (by omega)]
      rw [List.getD_eq_getElem?_getD, List.getD_eq_getElem?_getD, List.getElem?_append_left (by omega)]
theorem q_ne {A : Nat → ClassId} {σ : hS} {a row : Nat} {xs : List Int32} (h : qAt A σ a row xs) : a ≠ row := by
  obtain ⟨fi, f, -, -, ha, hr, -⟩ := h
  exact h_nk ha hr h_oa
theorem q_fr {A : Nat → ClassId} {F : Nat → Prop} {σ σ1 : hS} {a row : Nat} {xs : List Int32} (h : qAt A σ a row xs) (hf : h_fr F σ σ1) (ha : ¬ F a) (hr : ¬ F row) : qAt A σ1 a row xs := by
  obtain ⟨fi, f, h1, h2, h3, h4, h5⟩ := h
  exact ⟨fi, f, h1, h2, (hf.1 a ha).trans h3, (hf.1 row hr).trans h4, h5⟩
