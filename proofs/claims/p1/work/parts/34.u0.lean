section HU0
variable {l : Launch} {D : va_G} {ty : List (ClassId × FieldType)} {B : Nat} {Z : State → Heap → Prop} {M : hM} {d : Nat} {σ0 σ : hS} {P : hS → Option Value → Prop} {pc : Nat} {lv : List (Nat × Value)} {st : List Value}
/-- an int constant, the wide form -/
theorem g_ldcwI {ix : Nat} {v : Int32} (hc : Jvm.Cond.constant M.1.cls ix v ∈ lw_g) (hd : decode M.2.1 pc = .ok (.ldc_w ix, 3)) (k9 : G l D ty B Z M d σ0 P σ (pc + 3) lv (.int v :: st)) : G l D ty B Z M d σ0 P σ pc lv st := by
  intro p e s m args below meth c C9 H locs ls hR hS h3 hl9
  intro T hT X
  obtain ⟨t, a1, b1⟩ := k9 p e s m args below meth c C9 H locs ls hR hS h3 hl9 T hT X
  obtain ⟨k, cf, bytes, hk, hcf, hcp, hb⟩ := Cond.constant_spec C9.2.2.2.2.1 (C9.2.2.2.2.2.1 _ hc)
  obtain ⟨k', hk', he⟩ := X.warmed.alike.2.2 _ _ hk
  refine ⟨t, ?_, b1⟩
  have hx := C9.1
  have hdg : decode c.code pc = .ok (.ldc_w ix, 3) := by rw [C9.2.1]; exact hd
  have hw : ∀ (Q : Unit → Pre) (E : CtlPost) (d0 : Bool) (acts : List Action), wp (ldc_w.sem ix) Q E e d0 acts (T.setTop (F0 m pc ls st)) ↔ Q () true acts (T.setTop { F0 m pc ls st with stack := .int bytes.toInt32 :: (F0 m pc ls st).stack }) := fun Q E d0 acts => ldc.wp_int (e := e) (s := T) (f := F0 m pc ls st) X.here.top hk' (by rw [he]; exact hcf) hcp
  jvm_step X.here [hx, hdg, hw, hb]
  exact a1
theorem hLmc : Cond.code Lib.MathLoose.min_long.x Lib.MathLoose.min_long.code 4 (some .long) ∈ lw_g := h_t5 5 rfl rfl
theorem hLms : Cond.static Lib.MathLoose.min_long.x ∈ lw_g := h_t5 4 rfl rfl
theorem g_lmin {ix : Nat} {x y : Int64} (hl : Cond.methodLink M.1.cls ix Lib.MathLoose.min_long.x ∈ lw_g) (h1 : 1 ≤ d) (hcat : (st.map fun v => v.category).sum ≤ 8) (hd : decode M.2.1 pc = .ok (.invokestatic ix, 3)) (k9 : G l D ty B Z M d σ0 P σ (pc + 3) lv (.long (if y < x then y else x) :: st)) : G l D ty B Z M d σ0 P σ pc lv (.long y :: .long x :: st) := by
  intro p e s m args below meth c C9 H locs ls hR hS h3 hl9
  have hf := h_fit (d := d) C9 hR hS h3
  exact va_mmin_long C9.1 C9.2.1 (by rw [C9.2.2.1]; exact hl9.1.symm) C9.2.2.2.2.1 (C9.2.2.2.2.2.1 _ hl) (C9.2.2.2.2.2.1 _ hLms) (C9.2.2.2.2.2.1 _ hMi) (C9.2.2.2.2.2.1 _ hLmc) (by show 1 ≤ d; exact h1) (by show _ ≤ 64 * d; omega) (by omega) (by omega) hd (k9 p e s m args below meth c C9 H locs ls hR hS h3 hl9)
end HU0
/-! U: a typed state of all that the law's two objects hold. A cell's place is told from B on.
   kinds: 0 .. 12 the classes; 20 ints, 21 bytes, 22 booleans, 23 longs, 24 .. 28 rows of references -/
def uS : Type := (Nat → Nat × Nat) × (Nat → Nat → Int32) × (Nat → Nat → Option Nat) × (Nat → Nat → Int32) × (Nat → Nat → Int64) × (Nat → Nat → Option Nat) × Nat × Nat
/-- kind and length of what was made later -/
def uS.c (s : uS) : Nat → Nat × Nat := s.1
/-- numbers in fields -/
def uS.I (s : uS) : Nat → Nat → Int32 := s.2.1
/-- references in fields that change -/
def uS.R (s : uS) : Nat → Nat → Option Nat := s.2.2.1
/-- numbers in rows -/
def uS.F (s : uS) : Nat → Nat → Int32 := s.2.2.2.1
def uS.L (s : uS) : Nat → Nat → Int64 := s.2.2.2.2.1
/-- references in rows -/
def uS.P (s : uS) : Nat → Nat → Option Nat := s.2.2.2.2.2.1
def uS.n (s : uS) : Nat := s.2.2.2.2.2.2.1
def uS.m (s : uS) : Nat := s.2.2.2.2.2.2.2
def uw2 {α : Type} (f : Nat → Nat → α) (k i : Nat) (v : α) : Nat → Nat → α := fun a b => if a = k ∧ b = i then v else f a b
def wI (s : uS) (k f : Nat) (v : Int32) : uS := (s.c, uw2 s.I k f v, s.R, s.F, s.L, s.P, s.n, s.m)
def wR (s : uS) (k f : Nat) (v : Option Nat) : uS := (s.c, s.I, uw2 s.R k f v, s.F, s.L, s.P, s.n, s.m)
def wF (s : uS) (k i : Nat) (v : Int32) : uS := (s.c, s.I, s.R, uw2 s.F k i v, s.L, s.P, s.n, s.m)
def wL (s : uS) (k i : Nat) (v : Int64) : uS := (s.c, s.I, s.R, s.F, uw2 s.L k i v, s.P, s.n, s.m)
def wP (s : uS) (k i : Nat) (v : Option Nat) : uS := (s.c, s.I, s.R, s.F, s.L, uw2 s.P k i v, s.n, s.m)
/-- a cell more, of zeros -/
def nw (s : uS) (t N sl : Nat) : uS := (fun a => if a = s.n then (t, N) else s.c a, fun a b => if a = s.n then 0 else s.I a b, fun a b => if a = s.n then none else s.R a b, fun a b => if a = s.n then 0 else s.F a b, fun a b => if a = s.n then 0 else s.L a b, fun a b => if a = s.n then none else s.P a b, s.n + 1, s.m + sl)
/-- the cells that the constructors made: kind and length -/
def uT0 : List (Nat × Nat) := [(11, 0), (21, 6000), (24, 5), (25, 4), (26, 4), (27, 400), (4, 0), (2, 0), (9, 0), (21, 2000), (20, 301), (20, 301), (21, 0), (28, 320), (20, 120), (20, 120)]
def uT1 : List (Nat × Nat) := [(5, 0), (21, 10000), (8, 0), (9, 0), (21, 6000), (20, 3), (20, 3), (20, 3), (21, 13), (10, 0), (27, 4), (27, 40), (9, 0), (21, 120), (20, 6), (20, 6)]
def uT2 : List (Nat × Nat) := [(5, 0), (21, 10000), (0, 0), (9, 0), (21, 101), (20, 1), (20, 1), (9, 0), (21, 404), (20, 4), (20, 4), (21, 4000), (21, 501), (6, 0), (9, 0), (21, 4400), (20, 1001), (20, 1001), (9, 0), (21, 4400), (20, 1001), (20, 1001), (9, 0), (21, 4400), (20, 1001), (20, 1001), (9, 0), (21, 10), (20, 1), (20, 1), (7, 0), (20, 6), (20, 6), (20, 6), (20, 4), (9, 0), (21, 6000), (20, 1), (20, 1), (12, 0), (20, 6000), (21, 10000), (21, 10000), (21, 10000), (21, 10000), (21, 10000), (20, 5), (20, 4000), (20, 2100), (20, 2100), (20, 2100), (20, 2100), (20, 4100), (20, 4100), (20, 2100), (20, 4100), (20, 2000), (20, 4100), (20, 520), (20, 520), (20, 520), (20, 520), (20, 520), (20, 520), (20, 520), (20, 520), (20, 520), (20, 520), (22, 520), (20, 520), (20, 520), (20, 520), (20, 520), (20, 520), (20, 520), (20, 520), (20, 310), (20, 310), (23, 18800), (20, 401), (20, 401), (20, 401), (20, 401), (20, 401), (20, 10300), (20, 101), (20, 4), (20, 480), (20, 24), (20, 4), (20, 160), (20, 16400), (20, 160), (23, 10100), (23, 10100), (20, 160), (20, 101), (20, 101), (20, 102), (20, 102), (20, 102), (22, 1010), (22, 1010), (20, 6000), (20, 4), (20, 404), (20, 4), (20, 510), (20, 101), (20, 4), (20, 4), (20, 16), (20, 320), (20, 16), (23, 4000), (20, 16), (20, 4), (20, 4), (20, 80), (20, 4), (20, 4), (20, 4), (20, 4), (22, 4), (20, 8), (20, 4), (20, 4), (20, 4000), (20, 4000), (20, 4000), (20, 4000)]
def ucl (k : Nat) : Nat × Nat := if k < 16 then uT0.getD k (0, 0) else if k < 976 then (if (k - 16) % 3 = 0 then (3, 0) else (20, 12)) else if k < 1040 then uT1.getD ((k - 976) % 16) (0, 0) else uT2.getD (k - 1040) (0, 0)
def uCl (s : uS) (k : Nat) : Nat × Nat := if k < 1171 then ucl k else s.c k
/-- fields: (0, _) a number, (1, c) what lies c further, (2, c) what lies at c, (3, _) a reference that changes, (4, _) one that may be the empty label too (0; A 100 is where that lies) -/
def uFd : List (List (Nat × Nat)) := [[(2, 1043), (2, 1047), (2, 1051), (0, 0), (0, 0), (2, 1040), (2, 1052), (0, 0), (0, 0), (0, 0), (0, 0), (0, 0)], [(4, 0), (3, 0), (0, 0), (0, 0), (0, 0), (0, 0)], [(2, 8), (3, 0), (0, 0), (0, 0), (0, 0), (0, 0), (0, 0), (0, 0), (0, 0)], [(0, 0), (0, 0), (0, 0), (0, 0), (0, 0), (0, 0), (0, 0), (0, 0), (0, 0), (0, 0), (0, 0), (0, 0), (0, 0), (1, 1), (1, 2)], [(2, 7), (2, 13), (0, 0), (2, 14), (2, 15), (0, 0), (0, 0), (0, 0), (0, 0)], [(1, 1), (0, 0), (0, 0)], [(2, 1054), (2, 1058), (2, 1062), (2, 1066), (2, 8), (2, 1042)], [(2, 1071), (2, 1072), (2, 1073), (2, 1074), (2, 1075), (0, 0), (0, 0), (0, 0), (0, 0), (3, 0), (3, 0), (3, 0), (0, 0), (0, 0), (0, 0), (0, 0), (0, 0), (0, 0), (2, 6), (2, 1053)], [(1, 1), (0, 0), (1, 5), (1, 6), (0, 0), (0, 0), (0, 0), (0, 0)], [(1, 1), (1, 2), (1, 3), (0, 0), (0, 0), (0, 0)], [(1, 1), (1, 2), (1, 3), (0, 0), (0, 0), (3, 0)], [(2, 1), (2, 2), (2, 3), (2, 4), (2, 5), (2, 6), (2, 1042), (2, 1053), (2, 1070), (0, 0), (0, 0), (0, 0), (0, 0), (0, 0), (0, 0), (0, 0), (0, 0)], [(0, 0), (0, 0), (0, 0), (0, 0), (2, 1080), (0, 0), (2, 1081), (2, 1082), (2, 1083), (2, 1084), (2, 1085), (2, 1086), (2, 1087), (0, 0), (0, 0), (2, 1088), (2, 1089), (2, 1090), (2, 1091), (2, 1092), (2, 1093), (0, 0), (2, 1094), (0, 0), (0, 0), (0, 0), (2, 1095), (0, 0), (2, 1096), (0, 0), (0, 0), (0, 0), (0, 0), (0, 0), (0, 0), (0, 0), (2, 1097), (0, 0), (0, 0), (0, 0), (0, 0), (0, 0), (0, 0), (2, 1098), (2, 1099), (2, 1100), (2, 1101), (2, 1102), (2, 1103), (2, 1104), (2, 1105), (2, 1106), (2, 1107), (2, 1108), (2, 1109), (2, 1110), (2, 1111), (2, 1112), (2, 1113), (2, 1114), (2, 1115), (0, 0), (2, 1116), (2, 1117), (0, 0), (0, 0), (0, 0), (0, 0), (2, 1118), (0, 0), (0, 0), (0, 0), (2, 1119), (2, 1120), (2, 1121), (2, 1122), (2, 1123), (2, 1124), (2, 1125), (2, 1126), (2, 1127), (2, 1128), (2, 1129), (2, 1130), (2, 1131), (2, 1132), (2, 1133), (2, 1134), (2, 1135), (0, 0), (2, 1136), (0, 0), (2, 1137), (0, 0), (0, 0), (0, 0), (0, 0), (0, 0), (2, 1138), (2, 1139), (0, 0), (2, 1140), (0, 0), (0, 0), (0, 0), (0, 0), (0, 0), (2, 1141), (2, 1142), (0, 0), (0, 0), (2, 1143), (0, 0), (0, 0), (0, 0), (0, 0), (0, 0), (0, 0), (2, 1144), (2, 1145), (2, 1146), (2, 1147), (0, 0), (0, 0), (0, 0), (0, 0), (0, 0), (0, 0), (0, 0), (2, 1148), (0, 0), (2, 1149), (2, 1150), (2, 1151), (2, 1152), (2, 1153), (2, 1154), (2, 1155), (2, 1156), (2, 1157), (2, 1158), (2, 1159), (2, 1160), (2, 1161), (2, 1162), (2, 1163), (2, 1164), (2, 1165), (2, 1166), (2, 1167), (2, 1168), (2, 1169), (2, 1170)]]
def ufd (c f : Nat) : Nat × Nat := (uFd.getD c []).getD f (0, 0)
def uNf (c : Nat) : Nat := (uFd.getD c []).length
def uad (A : Nat → ClassId) (B x : Nat) : Nat := if x = 0 then A 100 else B + x
def uv (A : Nat → ClassId) (B : Nat) (s : uS) (k f : Nat) (q : Nat × Nat) : Value := if q.1 = 0 then .int (s.I k f) else if q.1 = 1 then .ref (B + (k + q.2)) else if q.1 = 2 then .ref (B + q.2) else if q.1 = 3 then va_rf ((s.R k f).map (fun x => B + x)) else va_rf ((s.R k f).map (uad A B))
def ufs (A : Nat → ClassId) (B : Nat) (s : uS) (k c : Nat) : List Value := (List.range (uNf c)).map (fun f => uv A B s k f (ufd c f))
/-- the rows of references that stay as they were made -/
def uPc (k i : Nat) : Option Nat := if k = 2 then (if i < 4 then some (976 + 16 * i) else if i = 4 then some 1040 else none) else if k = 3 then (if i < 4 then some (978 + 16 * i) else none) else if k = 4 then (if i < 4 then some (985 + 16 * i) else none) else if k = 13 then (if i < 320 then some (16 + 3 * i) else none) else none
def uP (s : uS) (k i : Nat) : Option Nat := if (uCl s k).1 = 27 then s.P k i else uPc k i
def ucell (A : Nat → ClassId) (B : Nat) (s : uS) (k : Nat) : va_E :=
  if (uCl s k).1 < 20 then .inr ((uCl s k).1, ufs A B s k (uCl s k).1)
  else if (uCl s k).1 < 23 then .inl (A ((uCl s k).1 - 20), (uCl s k).2, .inl (s.F k))
  else if (uCl s k).1 = 23 then .inl (A 3, (uCl s k).2, .inr (.inl (s.L k)))
  else .inl (A ((uCl s k).1 - 20), (uCl s k).2, .inr (.inr (.inr (.inr (fun i => (uP s k i).map (fun x => B + x))))))
/-- bytes are bytes -/
def uBy (s : uS) : Prop := ∀ k i : Nat, (uCl s k).1 = 21 → fits .byte (.int (s.F k i)) = true
def uSt (A : Nat → ClassId) (B : Nat) (σ : hS) (s : uS) : Prop := σ.2.1 = B + s.n ∧ σ.2.2 = s.m ∧ 1171 ≤ s.n ∧ (∀ k : Nat, k < s.n → σ.1 (B + k) = some (ucell A B s k)) ∧ uBy s
abbrev uOk (s : uS) (k : Nat) : Prop := k < 1171 ∨ k < s.n
abbrev uIs (s : uS) (k t : Nat) : Prop := uOk s k ∧ (uCl s k).1 = t
/-- an object that the constructors made -/
abbrev uSo (k t : Nat) : Prop := k < 1171 ∧ (ucl k).1 = t
abbrev uIn (s : uS) (k : Nat) (i : Int32) : Prop := ¬ (i < 0 ∨ (uCl s k).2 ≤ i.toNatClampNeg)
def iget (t : Nat) (s : uS) (k : Nat) (i : Int32) : Option Int32 := if uIs s k t ∧ uIn s k i then some (s.F k i.toNatClampNeg) else none
def unar (t : Nat) (v : Int32) : Int32 := if t = 21 then vp_nar .byte v else if t = 22 then vp_nar .boolean v else v
def iput (t : Nat) (s : uS) (k : Nat) (i v : Int32) : Option uS := if uIs s k t ∧ uIn s k i then some (wF s k i.toNatClampNeg (unar t v)) else none
def lget (s : uS) (k : Nat) (i : Int32) : Option Int64 := if uIs s k 23 ∧ uIn s k i then some (s.L k i.toNatClampNeg) else none
def lput (s : uS) (k : Nat) (i : Int32) (v : Int64) : Option uS := if uIs s k 23 ∧ uIn s k i then some (wL s k i.toNatClampNeg v) else none
def pgt (t : Nat) (s : uS) (k : Nat) (i : Int32) : Option Nat := if uIs s k t ∧ uIn s k i then uP s k i.toNatClampNeg else none
def pput (s : uS) (k : Nat) (i : Int32) (v : Nat) : Option uS := if uIs s k 27 ∧ uIn s k i ∧ uIs s v 1 then some (wP s k i.toNatClampNeg (some v)) else none
def ulen (s : uS) (k : Nat) : Option Int32 := if uOk s k ∧ 20 ≤ (uCl s k).1 ∧ (uCl s k).1 < 29 then some (nI (uCl s k).2) else none
/-- a text constant's byte; a row of numbers that is a constant -/
def stget (w : List Nat) (i : Int32) : Option Int32 := if i < 0 ∨ w.length ≤ i.toNatClampNeg then none else some (nI (w.getD i.toNatClampNeg 0))
def tget (w : List Int32) (i : Int32) : Option Int32 := if i < 0 ∨ w.length ≤ i.toNatClampNeg then none else some (w.getD i.toNatClampNeg 0)
def bI (b : Bool) : Int32 := if b = true then 1 else 0
/-- how many turns a loop may take -/
def uFu : Nat := 1000000
theorem uu_ob {α β : Type} {x : Option α} {f : α → Option β} {r : β} (h : x.bind f = some r) : ∃ a, x = some a ∧ f a = some r := Option.bind_eq_some_iff.mp h
theorem uu_pos {α : Type} {c : Prop} {i : Decidable c} {a b : Option α} {r : α} (hc : c) (h : (@ite _ c i a b) = some r) : a = some r := by rw [if_pos hc] at h; exact h
theorem uu_neg {α : Type} {c : Prop} {i : Decidable c} {a b : Option α} {r : α} (hc : ¬ c) (h : (@ite _ c i a b) = some r) : b = some r := by rw [if_neg hc] at h; exact h
theorem uu_grd {α : Type} {c : Prop} {i : Decidable c} {a : Option α} {r : α} (h : (@ite _ c i a none) = some r) : c ∧ a = some r := by
  by_cases hc : c
  · rw [if_pos hc] at h; exact ⟨hc, h⟩
  · rw [if_neg hc] at h; cases h
theorem bI_z (b : Bool) : narrow .boolean (.int (bI b)) = .int (bI b) := by cases b <;> rfl
theorem bI_01 {x : Int32} (h : x = 0 ∨ x = 1) : narrow .boolean (.int x) = .int x := by rcases h with rfl | rfl <;> rfl
theorem bI_f (b : Bool) : fits .boolean (.int (bI b)) = true := by cases b <;> rfl
theorem bI_f01 {x : Int32} (h : x = 0 ∨ x = 1) : fits .boolean (.int x) = true := by rcases h with rfl | rfl <;> rfl
theorem bI_d {x : Int32} (h : x = 0 ∨ x = 1) : bI (decide (x = 1)) = x := by rcases h with rfl | rfl <;> rfl
theorem uo_inj {B : Nat} {x y : Option Nat} (h : x.map (fun z => B + z) = y.map (fun z => B + z)) : x = y := by
  cases x with
  | none => cases y with
    | none => rfl
    | some y => cases h
  | some x => cases y with
    | none => cases h
    | some y => exact congrArg some (Nat.add_left_cancel (Option.some.inj h))
theorem uo_ninj {B : Nat} {x y : Option Nat} (h : ¬ x.map (fun z => B + z) = y.map (fun z => B + z)) : ¬ x = y := fun e => h (by rw [e])
theorem bI_0 {b : Bool} (h : bI b = 0) : ¬ b = true := fun e => by subst e; exact absurd h (by decide)
theorem bI_1 {b : Bool} (h : ¬ bI b = 0) : b = true := by cases b; exact absurd rfl h; rfl
theorem bI_n {b : Bool} (h : ¬ b = true) : bI b = 0 := by cases b; rfl; exact absurd rfl h
theorem sw_eq {x : Int32} {z : Int} {v : Int32} (h : x.toInt = z) (hv : Int32.ofInt z = v) : x = v := by rw [← hv, ← h, Int32.ofInt_toInt]
theorem ufs_len (A : Nat → ClassId) (B : Nat) (s : uS) (k c : Nat) : (ufs A B s k c).length = uNf c := by unfold ufs; rw [List.length_map, List.length_range]
theorem ufs_get {A : Nat → ClassId} {B : Nat} {s : uS} {k c f : Nat} (h : f < uNf c) : (ufs A B s k c)[f]? = some (uv A B s k f (ufd c f)) := by
  unfold ufs
  rw [List.getElem?_map, List.getElem?_range h, Option.map_some]
theorem ufs_set {A : Nat → ClassId} {B : Nat} {s s' : uS} {k c f : Nat} {v : Value} (h : f < uNf c) (hv : v = uv A B s' k f (ufd c f)) (ho : ∀ j : Nat, j ≠ f → uv A B s' k j (ufd c j) = uv A B s k j (ufd c j)) : (ufs A B s k c).set f v = ufs A B s' k c := by
  apply List.ext_getElem?
  intro j
  rw [List.getElem?_set]
  by_cases hj : f = j
  · subst hj
    rw [if_pos rfl, if_pos (by rw [ufs_len]; exact h), ufs_get h, hv]
  · rw [if_neg hj]
    by_cases hl : j < uNf c
    · rw [ufs_get hl, ufs_get hl, ho j (Ne.symm hj)]
    · rw [List.getElem?_eq_none (by rw [ufs_len]; omega), List.getElem?_eq_none (by rw [ufs_len]; omega)]
theorem uby_i8 (v : Int32) : fits .byte (.int v.toInt8.toInt32) = true := by
  have h1 := Int8.le_toInt v.toInt8
  have h2 := Int8.toInt_lt v.toInt8
  show (decide (-128 ≤ v.toInt8.toInt32) && decide (v.toInt8.toInt32 ≤ 127)) = true
  rw [Bool.and_eq_true, decide_eq_true_eq, decide_eq_true_eq, Int32.le_iff_toInt_le, Int32.le_iff_toInt_le, Int8.toInt_toInt32]
  refine ⟨?_, ?_⟩
  · show (-128 : Int) ≤ _; omega
  · show _ ≤ (127 : Int); omega
theorem uby_nar (v : Int32) : fits .byte (.int (vp_nar .byte v)) = true := by
  rw [vp_nar_byte]
  exact uby_i8 _
theorem uSt.at {A : Nat → ClassId} {B : Nat} {σ : hS} {s : uS} {k : Nat} (h : uSt A B σ s) (hk : uOk s k) : σ.1 (B + k) = some (ucell A B s k) := h.2.2.2.1 k (by rcases hk with hk | hk; exact Nat.lt_of_lt_of_le hk h.2.2.1; exact hk)
theorem uSt.obj {A : Nat → ClassId} {B : Nat} {σ : hS} {s : uS} {k c : Nat} (h : uSt A B σ s) (hk : uIs s k c) (hc : c < 20) : σ.1 (B + k) = some (.inr (c, ufs A B s k c)) := by
  rw [h.at hk.1]
  unfold ucell
  rw [hk.2, if_pos hc]
theorem uSt.arr {A : Nat → ClassId} {B : Nat} {σ : hS} {s : uS} {k t : Nat} (h : uSt A B σ s) (hk : uIs s k t) (h1 : 20 ≤ t) (h2 : t < 23) : σ.1 (B + k) = some (.inl (A (t - 20), (uCl s k).2, .inl (s.F k))) := by
  rw [h.at hk.1]
  unfold ucell
  rw [hk.2, if_neg (Nat.not_lt.mpr h1), if_pos h2]
theorem uSt.arl {A : Nat → ClassId} {B : Nat} {σ : hS} {s : uS} {k : Nat} (h : uSt A B σ s) (hk : uIs s k 23) : σ.1 (B + k) = some (.inl (A 3, (uCl s k).2, .inr (.inl (s.L k)))) := by
  rw [h.at hk.1]
  unfold ucell
  rw [hk.2, if_neg (by decide), if_neg (by decide), if_pos rfl]
theorem uSt.arq {A : Nat → ClassId} {B : Nat} {σ : hS} {s : uS} {k t : Nat} (h : uSt A B σ s) (hk : uIs s k t) (h1 : 24 ≤ t) : σ.1 (B + k) = some (.inl (A (t - 20), (uCl s k).2, .inr (.inr (.inr (.inr (fun i => (uP s k i).map (fun x => B + x))))))) := by
  rw [h.at hk.1]
  unfold ucell
  rw [hk.2, if_neg (by omega), if_neg (by omega), if_neg (by omega)]
theorem uSo.is {s : uS} {k t : Nat} (h : uSo k t) : uIs s k t := ⟨Or.inl h.1, by unfold uCl; rw [if_pos h.1]; exact h.2⟩
theorem uCl_c {s : uS} {k : Nat} (h : k < 1171) : uCl s k = ucl k := if_pos h
/-- one cell is another, and what the state says of the others is the same -/
theorem uSt.up {A : Nat → ClassId} {B : Nat} {σ : hS} {s s' : uS} {k : Nat} {e : va_E} (h : uSt A B σ s) (hk : uOk s k) (hn : s'.n = s.n) (hm : s'.m = s.m) (hb : uBy s') (he : e = ucell A B s' k) (ho : ∀ j : Nat, j ≠ k → ucell A B s' j = ucell A B s j) : uSt A B (h_set σ (B + k) e) s' := by
  refine ⟨by rw [hn]; exact h.1, by rw [hm]; exact h.2.1, by rw [hn]; exact h.2.2.1, fun j hj => ?_, hb⟩
  rw [hn] at hj
  by_cases hjk : j = k
  · subst hjk
    rw [h_e, he]
  · rw [h_n (fun e => hjk (Nat.add_left_cancel e)) (h.2.2.2.1 j hj), ho j hjk]
theorem uw2_ne {α : Type} {f : Nat → Nat → α} {k i : Nat} {v : α} {a : Nat} (h : a ≠ k) : uw2 f k i v a = f a := by
  funext b
  unfold uw2
  rw [if_neg (fun e => h e.1)]
theorem uw2_e {α : Type} {f : Nat → Nat → α} {k i : Nat} {v : α} : uw2 f k i v k i = v := if_pos ⟨rfl, rfl⟩
theorem uw2_n {α : Type} {f : Nat → Nat → α} {k i : Nat} {v : α} {b : Nat} (h : b ≠ i) : uw2 f k i v k b = f k b := if_neg (fun e => h e.2)
theorem uv_I {A : Nat → ClassId} {B : Nat} {s : uS} {k f a b : Nat} {v : Int32} {q : Nat × Nat} (h : ¬ (a = k ∧ b = f)) : uv A B (wI s k f v) a b q = uv A B s a b q := by
  unfold uv
  rw [show (wI s k f v).I a b = s.I a b from if_neg h]
  rfl
theorem uv_R {A : Nat → ClassId} {B : Nat} {s : uS} {k f a b : Nat} {v : Option Nat} {q : Nat × Nat} (h : ¬ (a = k ∧ b = f)) : uv A B (wR s k f v) a b q = uv A B s a b q := by
  unfold uv
  rw [show (wR s k f v).R a b = s.R a b from if_neg h]
  rfl
theorem ufs_I {A : Nat → ClassId} {B : Nat} {s : uS} {k f a c : Nat} {v : Int32} (h : a ≠ k) : ufs A B (wI s k f v) a c = ufs A B s a c := List.map_congr_left (fun _ _ => uv_I (fun e => h e.1))
theorem ufs_R {A : Nat → ClassId} {B : Nat} {s : uS} {k f a c : Nat} {v : Option Nat} (h : a ≠ k) : ufs A B (wR s k f v) a c = ufs A B s a c := List.map_congr_left (fun _ _ => uv_R (fun e => h e.1))
theorem uSt.pI {A : Nat → ClassId} {B : Nat} {σ : hS} {s : uS} {k f c : Nat} {v : Int32} (h : uSt A B σ s) (hk : uIs s k c) (hc : c < 20) (hf : f < uNf c) (hd : (ufd c f).1 = 0) : uSt A B (h_set σ (B + k) (.inr (c, (ufs A B s k c).set f (.int v)))) (wI s k f v) := by
  refine h.up hk.1 rfl rfl h.2.2.2.2 ?_ (fun j hj => ?_)
  · unfold ucell
    rw [show uCl (wI s k f v) k = uCl s k from rfl, hk.2, if_pos hc]
    rw [ufs_set (s' := wI s k f v) hf (by unfold uv; rw [if_pos hd, show (wI s k f v).I k f = v from uw2_e]) (fun j hj => uv_I (fun e => hj e.2))]
  · unfold ucell
    rw [show uCl (wI s k f v) j = uCl s j from rfl, ufs_I hj]
    rfl
theorem uSt.pR {A : Nat → ClassId} {B : Nat} {σ : hS} {s : uS} {k f c : Nat} {v : Option Nat} (h : uSt A B σ s) (hk : uIs s k c) (hc : c < 20) (hf : f < uNf c) (hd : (ufd c f).1 = 3) : uSt A B (h_set σ (B + k) (.inr (c, (ufs A B s k c).set f (va_rf (v.map (fun x => B + x)))))) (wR s k f v) := by
  refine h.up hk.1 rfl rfl h.2.2.2.2 ?_ (fun j hj => ?_)
  · unfold ucell
    rw [show uCl (wR s k f v) k = uCl s k from rfl, hk.2, if_pos hc]
    rw [ufs_set (s' := wR s k f v) hf (by unfold uv; rw [if_neg (by omega), if_neg (by omega), if_neg (by omega), if_pos hd, show (wR s k f v).R k f = v from uw2_e]) (fun j hj => uv_R (fun e => hj e.2))]
  · unfold ucell
    rw [show uCl (wR s k f v) j = uCl s j from rfl, ufs_R hj]
    rfl
theorem uSt.pF {A : Nat → ClassId} {B : Nat} {σ : hS} {s : uS} {k i t : Nat} {v : Int32} (h : uSt A B σ s) (hk : uIs s k t) (h1 : 20 ≤ t) (h2 : t < 23) (hv : t = 21 → fits .byte (.int v) = true) : uSt A B (h_set σ (B + k) (.inl (A (t - 20), (uCl s k).2, .inl (upd (s.F k) i v)))) (wF s k i v) := by
  refine h.up hk.1 rfl rfl (fun a b hab => ?_) ?_ (fun j hj => ?_)
  · have hab : (uCl s a).1 = 21 := hab
    show fits .byte (.int (uw2 s.F k i v a b)) = true
    by_cases e : a = k ∧ b = i
    · rw [e.1, e.2, uw2_e]
      exact hv (by rw [← hk.2, ← e.1]; exact hab)
    · rw [show uw2 s.F k i v a b = s.F a b from if_neg e]
      exact h.2.2.2.2 a b hab
  · unfold ucell
    rw [show uCl (wF s k i v) k = uCl s k from rfl, hk.2, if_neg (Nat.not_lt.mpr h1), if_pos h2]
    congr 4
    funext q
    show upd (s.F k) i v q = uw2 s.F k i v k q
    by_cases hq : q = i
    · subst hq; rw [uw2_e, pk_us]
    · rw [uw2_n hq, pk_un hq]
  · unfold ucell
    rw [show uCl (wF s k i v) j = uCl s j from rfl, show (wF s k i v).F j = s.F j from uw2_ne hj]
    rfl
theorem uSt.pL {A : Nat → ClassId} {B : Nat} {σ : hS} {s : uS} {k i : Nat} {v : Int64} (h : uSt A B σ s) (hk : uIs s k 23) : uSt A B (h_set σ (B + k) (.inl (A 3, (uCl s k).2, .inr (.inl (vp_updL (s.L k) i v))))) (wL s k i v) := by
  refine h.up hk.1 rfl rfl h.2.2.2.2 ?_ (fun j hj => ?_)
  · unfold ucell
    rw [show uCl (wL s k i v) k = uCl s k from rfl, hk.2, if_neg (by decide), if_neg (by decide), if_pos rfl]
    congr 5
    funext q
    show vp_updL (s.L k) i v q = uw2 s.L k i v k q
    unfold vp_updL
    by_cases hq : q = i
    · subst hq; rw [uw2_e, if_pos rfl]
    · rw [uw2_n hq, if_neg hq]
  · unfold ucell
    rw [show uCl (wL s k i v) j = uCl s j from rfl, show (wL s k i v).L j = s.L j from uw2_ne hj]
    rfl
theorem uSt.pP {A : Nat → ClassId} {B : Nat} {σ : hS} {s : uS} {k i v : Nat} (h : uSt A B σ s) (hk : uIs s k 27) : uSt A B (h_set σ (B + k) (.inl (A 7, (uCl s k).2, .inr (.inr (.inr (.inr (va_up (fun i => (uP s k i).map (fun x => B + x)) i (some (B + v))))))))) (wP s k i (some v)) := by
  have hp : ∀ j : Nat, j ≠ k → uP (wP s k i (some v)) j = uP s j := fun j hj => by
    funext q
    unfold uP
    rw [show uCl (wP s k i (some v)) j = uCl s j from rfl, show (wP s k i (some v)).P j = s.P j from uw2_ne hj]
  refine h.up hk.1 rfl rfl h.2.2.2.2 ?_ (fun j hj => ?_)
  · unfold ucell
    rw [show uCl (wP s k i (some v)) k = uCl s k from rfl, hk.2, if_neg (by decide), if_neg (by decide), if_neg (by decide)]
    congr 8
    funext q
    unfold uP va_up
    rw [show uCl (wP s k i (some v)) k = uCl s k from rfl, hk.2, if_pos rfl]
    show _ = (uw2 s.P k i (some v) k q).map _
    by_cases hq : q = i
    · subst hq; rw [uw2_e, if_pos rfl]; rfl
    · rw [uw2_n hq, if_neg hq]
      show Option.map _ (if 27 = 27 then s.P k q else uPc k q) = _
      rw [if_pos rfl]
  · unfold ucell
    rw [show uCl (wP s k i (some v)) j = uCl s j from rfl, hp j hj]
    rfl
/-- a text constant; what every method may take as given -/
def uStr (B : Nat) (Z : State → Heap → Prop) (q w : Nat) (bs : List Nat) : Prop := sC B Z q w bs ∧ bs.length < 2 ^ 31 ∧ ∀ b ∈ bs, b < 128
def kW_0 : List Nat := [115, 121, 110, 116, 97, 120]
def kW_1 : List Nat := [53, 53, 50, 32, 53, 46, 51, 46, 52, 32, 116, 111, 111, 32, 98, 105, 103]
def kW_2 : List Nat := [52, 53, 50, 32, 52, 46, 50, 46, 50, 32, 102, 117, 108, 108]
def kW_3 : List Nat := [79, 75]
def kW_4 : List Nat := [115, 112, 97, 99, 101]
def kW_5 : List Nat := [110, 111, 110, 101]
def kW_6 : List Nat := [32, 65, 67, 84, 73, 86, 69]
def kW_7 : List Nat := []
def kW_8 : List Nat := [97, 99, 116, 105, 118, 101]
def kW_9 : List Nat := [101, 120, 105, 115, 116, 115]
def kW_10 : List Nat := [50, 50, 48, 32, 104, 101, 114, 101, 32, 76, 77, 84, 80]
def kW_11 : List Nat := [97, 110, 110, 97, 64, 104, 101, 114, 101, 32, 98, 101, 110, 64, 104, 101, 114, 101, 32, 99, 108, 101, 111, 64, 104, 101, 114, 101, 32, 100, 97, 110, 64, 104, 101, 114, 101]
def kW_12 : List Nat := [50, 53, 48, 32, 50, 46, 48, 46, 48, 32, 60]
def kW_13 : List Nat := [62]
def kW_14 : List Nat := [53, 48, 48, 32, 53, 46, 53, 46, 50, 32, 116, 111, 111, 32, 108, 111, 110, 103]
def kW_15 : List Nat := [76, 72, 76, 79, 32, 77, 65, 73, 76, 32, 82, 67, 80, 84, 32, 68, 65, 84, 65, 32, 82, 83, 69, 84, 32, 78, 79, 79, 80, 32, 81, 85, 73, 84]
def kW_16 : List Nat := [53, 48, 48, 32, 53, 46, 53, 46, 50, 32, 117, 110, 107, 110, 111, 119, 110]
def kW_17 : List Nat := [53, 48, 51, 32, 53, 46, 53, 46, 49, 32, 111, 114, 100, 101, 114]
def kW_18 : List Nat := [53, 48, 49, 32, 53, 46, 53, 46, 52, 32, 115, 121, 110, 116, 97, 120]
def kW_19 : List Nat := [50, 53, 48, 45, 104, 101, 114, 101]
def kW_20 : List Nat := [50, 53, 48, 45, 83, 73, 90, 69, 32, 52, 48, 48, 48]
def kW_21 : List Nat := [50, 53, 48, 32, 56, 66, 73, 84, 77, 73, 77, 69]
def kW_22 : List Nat := [70, 82, 79, 77, 58]
def kW_23 : List Nat := [53, 53, 50, 32, 53, 46, 51, 46, 52, 32, 116, 111, 111, 32, 98, 105, 103]
def kW_24 : List Nat := [50, 53, 48, 32, 50, 46, 49, 46, 48, 32, 111, 107]
def kW_25 : List Nat := [84, 79, 58]
def kW_26 : List Nat := [53, 53, 48, 32, 53, 46, 49, 46, 49, 32, 110, 111, 32, 115, 117, 99, 104]
def kW_27 : List Nat := [52, 53, 50, 32, 52, 46, 53, 46, 51, 32, 116, 111, 111, 32, 109, 97, 110, 121]
def kW_28 : List Nat := [50, 53, 48, 32, 50, 46, 49, 46, 53, 32, 111, 107]
def kW_29 : List Nat := [50, 53, 48, 32, 50, 46, 48, 46, 48, 32, 111, 107]
def kW_30 : List Nat := [50, 50, 49, 32, 50, 46, 48, 46, 48, 32, 98, 121, 101]
def kW_31 : List Nat := [51, 53, 52, 32, 103, 111]
def kW_32 : List Nat := [66, 79, 68, 89, 61, 56, 66, 73, 84, 77, 73, 77, 69]
def kW_33 : List Nat := [83, 73, 90, 69, 61]
def kW_34 : List Nat := [59, 44, 40, 41, 91, 93, 123, 125]
def kW_35 : List Nat := [116, 101, 120, 116]
def kW_36 : List Nat := [114, 101, 113, 117, 105, 114, 101]
def kW_37 : List Nat := [105, 102, 32, 115, 116, 111, 112, 32, 100, 105, 115, 99, 97, 114, 100, 32, 107, 101, 101, 112, 32, 102, 105, 108, 101, 105, 110, 116, 111, 32, 114, 101, 100, 105, 114, 101, 99, 116, 32, 114, 101, 106, 101, 99, 116, 32, 115, 101, 116, 102, 108, 97, 103, 32, 97, 100, 100, 102, 108, 97, 103, 32, 114, 101, 109, 111, 118, 101, 102, 108, 97, 103, 32, 118, 97, 99, 97, 116, 105, 111, 110]
def kW_38 : List Nat := [101, 108, 115, 105, 102, 32, 101, 108, 115, 101]
def kW_39 : List Nat := [104, 101, 97, 100, 101, 114, 32, 97, 100, 100, 114, 101, 115, 115, 32, 101, 110, 118, 101, 108, 111, 112, 101, 32, 104, 97, 115, 102, 108, 97, 103, 32, 101, 120, 105, 115, 116, 115, 32, 115, 105, 122, 101, 32, 97, 108, 108, 111, 102, 32, 97, 110, 121, 111, 102, 32, 110, 111, 116, 32, 116, 114, 117, 101, 32, 102, 97, 108, 115, 101]
def kW_40 : List Nat := [105, 115, 32, 99, 111, 110, 116, 97, 105, 110, 115, 32, 109, 97, 116, 99, 104, 101, 115, 32, 99, 111, 117, 110, 116, 32, 118, 97, 108, 117, 101, 32, 99, 111, 109, 112, 97, 114, 97, 116, 111, 114, 32, 97, 108, 108, 32, 108, 111, 99, 97, 108, 112, 97, 114, 116, 32, 100, 111, 109, 97, 105, 110, 32, 102, 108, 97, 103, 115, 32, 99, 111, 112, 121, 32, 100, 97, 121, 115, 32, 115, 117, 98, 106, 101, 99, 116, 32, 97, 100, 100, 114, 101, 115, 115, 101, 115, 32, 104, 97, 110, 100, 108, 101, 32, 111, 118, 101, 114, 32, 117, 110, 100, 101, 114]
def kW_41 : List Nat := [102, 105, 108, 101, 105, 110, 116, 111, 32, 114, 101, 106, 101, 99, 116, 32, 101, 110, 118, 101, 108, 111, 112, 101, 32, 99, 111, 112, 121, 32, 105, 109, 97, 112, 52, 102, 108, 97, 103, 115, 32, 114, 101, 108, 97, 116, 105, 111, 110, 97, 108, 32, 118, 97, 99, 97, 116, 105, 111, 110, 32, 99, 111, 109, 112, 97, 114, 97, 116, 111, 114, 45, 105, 59, 97, 115, 99, 105, 105, 45, 110, 117, 109, 101, 114, 105, 99]
def kW_42 : List Nat := [103, 116, 32, 103, 101, 32, 108, 116, 32, 108, 101, 32, 101, 113, 32, 110, 101]
def kW_43 : List Nat := [105, 59, 97, 115, 99, 105, 105, 45, 99, 97, 115, 101, 109, 97, 112, 32, 105, 59, 111, 99, 116, 101, 116, 32, 105, 59, 97, 115, 99, 105, 105, 45, 110, 117, 109, 101, 114, 105, 99]
def kW_44 : List Nat := [92, 83, 101, 101, 110, 32, 92, 65, 110, 115, 119, 101, 114, 101, 100, 32, 92, 70, 108, 97, 103, 103, 101, 100, 32, 92, 68, 101, 108, 101, 116, 101, 100, 32, 92, 68, 114, 97, 102, 116]
def kW_45 : List Nat := [78, 79, 32, 34]
def kW_46 : List Nat := [34]
def kW_47 : List Nat := [78, 79, 32, 34, 108, 105, 110, 101, 32]
def kW_48 : List Nat := [125]
def kW_49 : List Nat := []
def kW_50 : List Nat := [102, 114, 111, 109, 32, 116, 111]
def kW_51 : List Nat := [92, 83, 101, 101, 110, 32, 92, 65, 110, 115, 119, 101, 114, 101, 100, 32, 92, 70, 108, 97, 103, 103, 101, 100, 32, 92, 68, 101, 108, 101, 116, 101, 100, 32, 92, 68, 114, 97, 102, 116]
def kW_52 : List Nat := [76, 105, 115, 116, 45, 73, 100, 32, 76, 105, 115, 116, 45, 80, 111, 115, 116, 32, 80, 114, 101, 99, 101, 100, 101, 110, 99, 101]
def kW_53 : List Nat := [65, 117, 116, 111, 45, 83, 117, 98, 109, 105, 116, 116, 101, 100]
def kW_54 : List Nat := [110, 111]
def kW_55 : List Nat := [109, 97, 105, 108, 101, 114, 45, 100, 97, 101, 109, 111, 110, 32, 108, 105, 115, 116, 115, 101, 114, 118, 32, 109, 97, 106, 111, 114, 100, 111, 109, 111]
def kW_56 : List Nat := [111, 119, 110, 101, 114, 45]
def kW_57 : List Nat := [45, 114, 101, 113, 117, 101, 115, 116]
def kW_58 : List Nat := [84, 111, 32, 67, 99, 32, 66, 99, 99]
def kW_59 : List Nat := [73, 78, 66, 79, 88]
def kW_60 : List Nat := [84, 111, 58, 32]
def kW_61 : List Nat := [13, 10, 83, 117, 98, 106, 101, 99, 116, 58, 32]
def kW_62 : List Nat := [82, 101, 102, 117, 115, 101, 100]
def kW_63 : List Nat := [65, 117, 116, 111, 58, 32]
def kW_64 : List Nat := [83, 117, 98, 106, 101, 99, 116]
def kW_65 : List Nat := [13, 10, 13, 10]
def kW_66 : List Nat := [13, 10]
def kW_67 : List Nat := [80, 85, 84, 83, 67, 82, 73, 80, 84, 32, 67, 72, 69, 67, 75, 83, 67, 82, 73, 80, 84, 32, 72, 65, 86, 69, 83, 80, 65, 67, 69, 32, 83, 69, 84, 65, 67, 84, 73, 86, 69, 32, 71, 69, 84, 83, 67, 82, 73, 80, 84, 32, 76, 73, 83, 84, 83, 67, 82, 73, 80, 84, 83, 32, 68, 69, 76, 69, 84, 69, 83, 67, 82, 73, 80, 84, 32, 82, 69, 78, 65, 77, 69, 83, 67, 82, 73, 80, 84, 32, 76, 79, 71, 79, 85, 84]
def kW_68 : List Nat := [33, 35, 36, 37, 38, 39, 42, 43, 45, 47, 61, 63, 94, 95, 96, 123, 124, 125, 126]
def kW_69 : List Nat := [45]
def kW_70 : List Nat := [73, 78, 66, 79, 88]
def kW_71 : List Nat := [97, 110, 110, 97, 64, 104, 101, 114, 101]
def kW_72 : List Nat := [98, 101, 110, 64, 104, 101, 114, 101]
def kW_73 : List Nat := [99, 108, 101, 111, 64, 104, 101, 114, 101]
def kW_74 : List Nat := [100, 97, 110, 64, 104, 101, 114, 101]
def kW_75 : List Nat := [116, 101, 120, 116]
def kW_76 : List Nat := [114, 101, 113, 117, 105, 114, 101]
def kW_77 : List Nat := [102, 105, 108, 101, 105, 110, 116, 111]
def kW_78 : List Nat := [114, 101, 106, 101, 99, 116]
def kW_79 : List Nat := [101, 110, 118, 101, 108, 111, 112, 101]
def kW_80 : List Nat := [99, 111, 112, 121]
def kW_81 : List Nat := [105, 109, 97, 112, 52, 102, 108, 97, 103, 115]
def kW_82 : List Nat := [114, 101, 108, 97, 116, 105, 111, 110, 97, 108]
def kW_83 : List Nat := [118, 97, 99, 97, 116, 105, 111, 110]
def kW_84 : List Nat := [99, 111, 109, 112, 97, 114, 97, 116, 111, 114, 45, 105, 59, 97, 115, 99, 105, 105, 45, 110, 117, 109, 101, 114, 105, 99]
def kW_85 : List Nat := [105, 102]
def kW_86 : List Nat := [115, 116, 111, 112]
def kW_87 : List Nat := [100, 105, 115, 99, 97, 114, 100]
def kW_88 : List Nat := [107, 101, 101, 112]
def kW_89 : List Nat := [114, 101, 100, 105, 114, 101, 99, 116]
def kW_90 : List Nat := [115, 101, 116, 102, 108, 97, 103]
def kW_91 : List Nat := [97, 100, 100, 102, 108, 97, 103]
def kW_92 : List Nat := [114, 101, 109, 111, 118, 101, 102, 108, 97, 103]
def kW_93 : List Nat := [101, 108, 115, 105, 102]
def kW_94 : List Nat := [101, 108, 115, 101]
def kW_95 : List Nat := [102, 108, 97, 103, 115]
def kW_96 : List Nat := [100, 97, 121, 115]
def kW_97 : List Nat := [115, 117, 98, 106, 101, 99, 116]
def kW_98 : List Nat := [97, 100, 100, 114, 101, 115, 115, 101, 115]
def kW_99 : List Nat := [104, 97, 110, 100, 108, 101]
def kW_100 : List Nat := [104, 101, 97, 100, 101, 114]
def kW_101 : List Nat := [97, 100, 100, 114, 101, 115, 115]
def kW_102 : List Nat := [104, 97, 115, 102, 108, 97, 103]
def kW_103 : List Nat := [101, 120, 105, 115, 116, 115]
def kW_104 : List Nat := [115, 105, 122, 101]
def kW_105 : List Nat := [97, 108, 108, 111, 102]
def kW_106 : List Nat := [97, 110, 121, 111, 102]
def kW_107 : List Nat := [110, 111, 116]
def kW_108 : List Nat := [116, 114, 117, 101]
def kW_109 : List Nat := [102, 97, 108, 115, 101]
def kW_110 : List Nat := [111, 118, 101, 114]
def kW_111 : List Nat := [117, 110, 100, 101, 114]
def kW_112 : List Nat := [105, 115]
def kW_113 : List Nat := [99, 111, 110, 116, 97, 105, 110, 115]
def kW_114 : List Nat := [109, 97, 116, 99, 104, 101, 115]
def kW_115 : List Nat := [99, 111, 117, 110, 116]
def kW_116 : List Nat := [118, 97, 108, 117, 101]
def kW_117 : List Nat := [97, 108, 108]
def kW_118 : List Nat := [108, 111, 99, 97, 108, 112, 97, 114, 116]
def kW_119 : List Nat := [100, 111, 109, 97, 105, 110]
def kW_120 : List Nat := [99, 111, 109, 112, 97, 114, 97, 116, 111, 114]
def kW_121 : List Nat := [103, 116]
def kW_122 : List Nat := [103, 101]
def kW_123 : List Nat := [108, 116]
def kW_124 : List Nat := [108, 101]
def kW_125 : List Nat := [101, 113]
def kW_126 : List Nat := [110, 101]
def kW_127 : List Nat := [105, 59, 111, 99, 116, 101, 116]
def kW_128 : List Nat := [105, 59, 97, 115, 99, 105, 105, 45, 99, 97, 115, 101, 109, 97, 112]
def kW_129 : List Nat := [105, 59, 97, 115, 99, 105, 105, 45, 110, 117, 109, 101, 114, 105, 99]
def kW_130 : List Nat := [92, 115, 101, 101, 110]
def kW_131 : List Nat := [92, 97, 110, 115, 119, 101, 114, 101, 100]
def kW_132 : List Nat := [92, 102, 108, 97, 103, 103, 101, 100]
def kW_133 : List Nat := [92, 100, 101, 108, 101, 116, 101, 100]
def kW_134 : List Nat := [92, 100, 114, 97, 102, 116]
def kW_135 : List Nat := [102, 114, 111, 109]
def kW_136 : List Nat := [116, 111]
def kW_137 : List Nat := [92, 83, 101, 101, 110]
def kW_138 : List Nat := [92, 65, 110, 115, 119, 101, 114, 101, 100]
def kW_139 : List Nat := [92, 70, 108, 97, 103, 103, 101, 100]
def kW_140 : List Nat := [92, 68, 101, 108, 101, 116, 101, 100]
def kW_141 : List Nat := [92, 68, 114, 97, 102, 116]
def kW_142 : List Nat := [105, 110, 98, 111, 120]
def kW_143 : List Nat := [97, 117, 116, 111, 45, 115, 117, 98, 109, 105, 116, 116, 101, 100]
def kW_144 : List Nat := [110, 111]
def kW_145 : List Nat := [109, 97, 105, 108, 101, 114, 45, 100, 97, 101, 109, 111, 110]
def kW_146 : List Nat := [108, 105, 115, 116, 115, 101, 114, 118]
def kW_147 : List Nat := [109, 97, 106, 111, 114, 100, 111, 109, 111]
def kW_148 : List Nat := [111, 119, 110, 101, 114, 45]
def kW_149 : List Nat := [45, 114, 101, 113, 117, 101, 115, 116]
def kW_150 : List Nat := [99, 99]
def kW_151 : List Nat := [98, 99, 99]
def kW_152 : List Nat := [108, 105, 115, 116, 45, 105, 100]
def kW_153 : List Nat := [108, 105, 115, 116, 45, 112, 111, 115, 116]
def kW_154 : List Nat := [112, 114, 101, 99, 101, 100, 101, 110, 99, 101]
def kW_155 : List Nat := [84, 111, 58, 32]
def kW_156 : List Nat := [83, 117, 98, 106, 101, 99, 116, 58, 32]
def kW_157 : List Nat := [82, 101, 102, 117, 115, 101, 100]
def kW_158 : List Nat := [65, 117, 116, 111, 58, 32]
def kW_159 : List Nat := [53, 53, 50, 32, 53, 46, 51, 46, 52, 32, 116, 111, 111, 32, 98, 105, 103]
def kW_160 : List Nat := [52, 53, 50, 32, 52, 46, 50, 46, 50, 32, 102, 117, 108, 108]
def kW_161 : List Nat := [50, 53, 48, 32, 50, 46, 48, 46, 48, 32, 60]
def kW_162 : List Nat := [62]
def kW_163 : List Nat := [50, 50, 48, 32, 104, 101, 114, 101, 32, 76, 77, 84, 80]
def kW_164 : List Nat := [53, 48, 48, 32, 53, 46, 53, 46, 50, 32, 116, 111, 111, 32, 108, 111, 110, 103]
def kW_165 : List Nat := [53, 48, 49, 32, 53, 46, 53, 46, 52, 32, 115, 121, 110, 116, 97, 120]
def kW_166 : List Nat := [108, 104, 108, 111]
def kW_167 : List Nat := [110, 111, 111, 112]
def kW_168 : List Nat := [50, 53, 48, 32, 50, 46, 48, 46, 48, 32, 111, 107]
def kW_169 : List Nat := [114, 115, 101, 116]
def kW_170 : List Nat := [113, 117, 105, 116]
def kW_171 : List Nat := [50, 50, 49, 32, 50, 46, 48, 46, 48, 32, 98, 121, 101]
def kW_172 : List Nat := [109, 97, 105, 108]
def kW_173 : List Nat := [114, 99, 112, 116]
def kW_174 : List Nat := [100, 97, 116, 97]
def kW_175 : List Nat := [53, 48, 51, 32, 53, 46, 53, 46, 49, 32, 111, 114, 100, 101, 114]
def kW_176 : List Nat := [53, 48, 48, 32, 53, 46, 53, 46, 50, 32, 117, 110, 107, 110, 111, 119, 110]
def kW_177 : List Nat := [32]
def kW_178 : List Nat := [50, 53, 48, 45, 104, 101, 114, 101]
def kW_179 : List Nat := [50, 53, 48, 45, 83, 73, 90, 69, 32, 52, 48, 48, 48]
def kW_180 : List Nat := [50, 53, 48, 32, 56, 66, 73, 84, 77, 73, 77, 69]
def kW_181 : List Nat := [60]
def kW_182 : List Nat := [98, 111, 100, 121, 61, 56, 98, 105, 116, 109, 105, 109, 101]
def kW_183 : List Nat := [115, 105, 122, 101, 61]
def kW_184 : List Nat := [32, 102, 114, 111, 109, 58]
def kW_185 : List Nat := [60, 62]
def kW_186 : List Nat := [50, 53, 48, 32, 50, 46, 49, 46, 48, 32, 111, 107]
def kW_187 : List Nat := [32, 116, 111, 58]
def kW_188 : List Nat := [53, 53, 48, 32, 53, 46, 49, 46, 49, 32, 110, 111, 32, 115, 117, 99, 104]
def kW_189 : List Nat := [52, 53, 50, 32, 52, 46, 53, 46, 51, 32, 116, 111, 111, 32, 109, 97, 110, 121]
def kW_190 : List Nat := [50, 53, 48, 32, 50, 46, 49, 46, 53, 32, 111, 107]
def kW_191 : List Nat := [51, 53, 52, 32, 103, 111]
def kW_192 : List Nat := [112, 117, 116, 115, 99, 114, 105, 112, 116]
def kW_193 : List Nat := [99, 104, 101, 99, 107, 115, 99, 114, 105, 112, 116]
def kW_194 : List Nat := [104, 97, 118, 101, 115, 112, 97, 99, 101]
def kW_195 : List Nat := [115, 101, 116, 97, 99, 116, 105, 118, 101]
def kW_196 : List Nat := [103, 101, 116, 115, 99, 114, 105, 112, 116]
def kW_197 : List Nat := [108, 105, 115, 116, 115, 99, 114, 105, 112, 116, 115]
def kW_198 : List Nat := [100, 101, 108, 101, 116, 101, 115, 99, 114, 105, 112, 116]
def kW_199 : List Nat := [114, 101, 110, 97, 109, 101, 115, 99, 114, 105, 112, 116]
def kW_200 : List Nat := [108, 111, 103, 111, 117, 116]
def kW_201 : List Nat := [115, 121, 110, 116, 97, 120]
def kW_202 : List Nat := [78, 79, 32, 34]
def kW_203 : List Nat := [34]
def kW_204 : List Nat := [79, 75]
def kW_205 : List Nat := [115, 112, 97, 99, 101]
def kW_206 : List Nat := [78, 79, 32, 34, 108, 105, 110, 101, 32]
def kW_207 : List Nat := [110, 111, 110, 101]
def kW_208 : List Nat := [125]
def kW_209 : List Nat := []
def kW_210 : List Nat := [34, 32, 65, 67, 84, 73, 86, 69]
def kW_211 : List Nat := [97, 99, 116, 105, 118, 101]
def kW_212 : List Nat := [73, 78, 66, 79, 88]
def kS_0 : List Int32 := [0, 0, 0, 0, 1, 0, 2, 16, 16, 16, 64, 0, 0, 4, 16, 0, 0, 0, 0, 0, 0, 0, 0, 0, 0, 0]
def kS_1 : List Int32 := [0, 0, 0, 32, 32, 0, 0, 0, 0, 16, 8, 0, 0, 0, 0, 0, 0]
def kS_2 : List Int32 := [0, 0, 0, 8, 24, 16, 0, 0, 0, 0, 480, 3, 7, 7, 3, 0, 512, 0, 0, 0, 0, 0, 0, 0, 0, 0]
def kS_3 : List Int32 := [1, 1, 1, 1, 1, 2, 4, 4, 4, 8, 16, 32, 64, 128, 256, 512, 512]
def kS_4 : List Int32 := [1, 2, 1, 4, 1, 0, 1, 1, 0]
def kS_5 : List Int32 := [2, 0, 3, 0, 0, 0, 0, 1, 0]
def kAll : List (String × Nat × String × List Nat) := [
  ("SortedMail", 124, "syntax", kW_0),
  ("SortedMail", 236, "552 5.3.4 too big", kW_1),
  ("SortedMail", 265, "452 4.2.2 full", kW_2),
  ("SortedMail", 375, "OK", kW_3),
  ("SortedMail", 387, "space", kW_4),
  ("SortedMail", 399, "none", kW_5),
  ("SortedMail", 411, " ACTIVE", kW_6),
  ("SortedMail", 413, "", kW_7),
  ("SortedMail", 415, "active", kW_8),
  ("SortedMail", 419, "exists", kW_9),
  ("SortedMail$Delivery", 39, "220 here LMTP", kW_10),
  ("SortedMail$Delivery", 65, "anna@here ben@here cleo@here dan@here", kW_11),
  ("SortedMail$Delivery", 77, "250 2.0.0 <", kW_12),
  ("SortedMail$Delivery", 95, ">", kW_13),
  ("SortedMail$Delivery", 111, "500 5.5.2 too long", kW_14),
  ("SortedMail$Delivery", 117, "LHLO MAIL RCPT DATA RSET NOOP QUIT", kW_15),
  ("SortedMail$Delivery", 123, "500 5.5.2 unknown", kW_16),
  ("SortedMail$Delivery", 125, "503 5.5.1 order", kW_17),
  ("SortedMail$Delivery", 136, "501 5.5.4 syntax", kW_18),
  ("SortedMail$Delivery", 148, "250-here", kW_19),
  ("SortedMail$Delivery", 150, "250-SIZE 4000", kW_20),
  ("SortedMail$Delivery", 152, "250 8BITMIME", kW_21),
  ("SortedMail$Delivery", 154, "FROM:", kW_22),
  ("SortedMail$Delivery", 173, "552 5.3.4 too big", kW_23),
  ("SortedMail$Delivery", 179, "250 2.1.0 ok", kW_24),
  ("SortedMail$Delivery", 181, "TO:", kW_25),
  ("SortedMail$Delivery", 183, "550 5.1.1 no such", kW_26),
  ("SortedMail$Delivery", 185, "452 4.5.3 too many", kW_27),
  ("SortedMail$Delivery", 187, "250 2.1.5 ok", kW_28),
  ("SortedMail$Delivery", 192, "250 2.0.0 ok", kW_29),
  ("SortedMail$Delivery", 194, "221 2.0.0 bye", kW_30),
  ("SortedMail$Delivery", 196, "354 go", kW_31),
  ("SortedMail$Delivery", 207, "BODY=8BITMIME", kW_32),
  ("SortedMail$Delivery", 212, "SIZE=", kW_33),
  ("SortedMail$Lexer", 76, ";,()[]{}", kW_34),
  ("SortedMail$Lexer", 129, "text", kW_35),
  ("SortedMail$Parser", 127, "require", kW_36),
  ("SortedMail$Parser", 138, "if stop discard keep fileinto redirect reject setflag addflag removeflag vacation", kW_37),
  ("SortedMail$Parser", 149, "elsif else", kW_38),
  ("SortedMail$Parser", 151, "header address envelope hasflag exists size allof anyof not true false", kW_39),
  ("SortedMail$Parser", 159, "is contains matches count value comparator all localpart domain flags copy days subject addresses handle over under", kW_40),
  ("SortedMail$Parser", 210, "fileinto reject envelope copy imap4flags relational vacation comparator-i;ascii-numeric", kW_41),
  ("SortedMail$Parser", 220, "gt ge lt le eq ne", kW_42),
  ("SortedMail$Parser", 225, "i;ascii-casemap i;octet i;ascii-numeric", kW_43),
  ("SortedMail$Parser", 232, "\\Seen \\Answered \\Flagged \\Deleted \\Draft", kW_44),
  ("SortedMail$Queue", 38, "NO \"", kW_45),
  ("SortedMail$Queue", 40, "\"", kW_46),
  ("SortedMail$Queue", 45, "NO \"line ", kW_47),
  ("SortedMail$Queue", 50, "}", kW_48),
  ("SortedMail$Queue", 56, "", kW_49),
  ("SortedMail$Reader", 147, "from to", kW_50),
  ("SortedMail$Reader", 159, "\\Seen \\Answered \\Flagged \\Deleted \\Draft", kW_51),
  ("SortedMail$Reader", 210, "List-Id List-Post Precedence", kW_52),
  ("SortedMail$Reader", 216, "Auto-Submitted", kW_53),
  ("SortedMail$Reader", 222, "no", kW_54),
  ("SortedMail$Reader", 224, "mailer-daemon listserv majordomo", kW_55),
  ("SortedMail$Reader", 226, "owner-", kW_56),
  ("SortedMail$Reader", 228, "-request", kW_57),
  ("SortedMail$Reader", 230, "To Cc Bcc", kW_58),
  ("SortedMail$Runner", 187, "INBOX", kW_59),
  ("SortedMail$Runner", 261, "To: ", kW_60),
  ("SortedMail$Runner", 271, "\r\nSubject: ", kW_61),
  ("SortedMail$Runner", 273, "Refused", kW_62),
  ("SortedMail$Runner", 275, "Auto: ", kW_63),
  ("SortedMail$Runner", 280, "Subject", kW_64),
  ("SortedMail$Runner", 286, "\r\n\r\n", kW_65),
  ("SortedMail$Runner", 288, "\r\n", kW_66),
  ("SortedMail$ScriptSession", 106, "PUTSCRIPT CHECKSCRIPT HAVESPACE SETACTIVE GETSCRIPT LISTSCRIPTS DELETESCRIPT RENAMESCRIPT LOGOUT", kW_67),
  ("SortedMail$Texts", 96, "!#$%&'*+-/=?^_`{|}~", kW_68),
  ("SortedMail$Texts", 102, "-", kW_69),
  ("SortedMail$User", 27, "INBOX", kW_70),
  ("SortedMailModel", 150, "anna@here", kW_71),
  ("SortedMailModel", 152, "ben@here", kW_72),
  ("SortedMailModel", 154, "cleo@here", kW_73),
  ("SortedMailModel", 156, "dan@here", kW_74),
  ("SortedMailModel", 233, "text", kW_75),
  ("SortedMailModel", 364, "require", kW_76),
  ("SortedMailModel", 380, "fileinto", kW_77),
  ("SortedMailModel", 386, "reject", kW_78),
  ("SortedMailModel", 388, "envelope", kW_79),
  ("SortedMailModel", 390, "copy", kW_80),
  ("SortedMailModel", 392, "imap4flags", kW_81),
  ("SortedMailModel", 394, "relational", kW_82),
  ("SortedMailModel", 396, "vacation", kW_83),
  ("SortedMailModel", 398, "comparator-i;ascii-numeric", kW_84),
  ("SortedMailModel", 406, "if", kW_85),
  ("SortedMailModel", 411, "stop", kW_86),
  ("SortedMailModel", 413, "discard", kW_87),
  ("SortedMailModel", 415, "keep", kW_88),
  ("SortedMailModel", 417, "redirect", kW_89),
  ("SortedMailModel", 419, "setflag", kW_90),
  ("SortedMailModel", 421, "addflag", kW_91),
  ("SortedMailModel", 423, "removeflag", kW_92),
  ("SortedMailModel", 457, "elsif", kW_93),
  ("SortedMailModel", 459, "else", kW_94),
  ("SortedMailModel", 461, "flags", kW_95),
  ("SortedMailModel", 472, "days", kW_96),
  ("SortedMailModel", 474, "subject", kW_97),
  ("SortedMailModel", 476, "addresses", kW_98),
  ("SortedMailModel", 478, "handle", kW_99),
  ("SortedMailModel", 480, "header", kW_100),
  ("SortedMailModel", 482, "address", kW_101),
  ("SortedMailModel", 484, "hasflag", kW_102),
  ("SortedMailModel", 486, "exists", kW_103),
  ("SortedMailModel", 488, "size", kW_104),
  ("SortedMailModel", 490, "allof", kW_105),
  ("SortedMailModel", 492, "anyof", kW_106),
  ("SortedMailModel", 494, "not", kW_107),
  ("SortedMailModel", 496, "true", kW_108),
  ("SortedMailModel", 498, "false", kW_109),
  ("SortedMailModel", 508, "over", kW_110),
  ("SortedMailModel", 510, "under", kW_111),
  ("SortedMailModel", 512, "is", kW_112),
  ("SortedMailModel", 513, "contains", kW_113),
  ("SortedMailModel", 515, "matches", kW_114),
  ("SortedMailModel", 516, "count", kW_115),
  ("SortedMailModel", 518, "value", kW_116),
  ("SortedMailModel", 520, "all", kW_117),
  ("SortedMailModel", 522, "localpart", kW_118),
  ("SortedMailModel", 524, "domain", kW_119),
  ("SortedMailModel", 526, "comparator", kW_120),
  ("SortedMailModel", 534, "gt", kW_121),
  ("SortedMailModel", 536, "ge", kW_122),
  ("SortedMailModel", 538, "lt", kW_123),
  ("SortedMailModel", 540, "le", kW_124),
  ("SortedMailModel", 542, "eq", kW_125),
  ("SortedMailModel", 544, "ne", kW_126),
  ("SortedMailModel", 546, "i;octet", kW_127),
  ("SortedMailModel", 548, "i;ascii-casemap", kW_128),
  ("SortedMailModel", 550, "i;ascii-numeric", kW_129),
  ("SortedMailModel", 590, "\\seen", kW_130),
  ("SortedMailModel", 592, "\\answered", kW_131),
  ("SortedMailModel", 594, "\\flagged", kW_132),
  ("SortedMailModel", 596, "\\deleted", kW_133),
  ("SortedMailModel", 598, "\\draft", kW_134),
  ("SortedMailModel", 690, "from", kW_135),
  ("SortedMailModel", 692, "to", kW_136),
  ("SortedMailModel", 702, "\\Seen", kW_137),
  ("SortedMailModel", 704, "\\Answered", kW_138),
  ("SortedMailModel", 706, "\\Flagged", kW_139),
  ("SortedMailModel", 708, "\\Deleted", kW_140),
  ("SortedMailModel", 710, "\\Draft", kW_141),
  ("SortedMailModel", 767, "inbox", kW_142),
  ("SortedMailModel", 814, "auto-submitted", kW_143),
  ("SortedMailModel", 816, "no", kW_144),
  ("SortedMailModel", 818, "mailer-daemon", kW_145),
  ("SortedMailModel", 824, "listserv", kW_146),
  ("SortedMailModel", 826, "majordomo", kW_147),
  ("SortedMailModel", 828, "owner-", kW_148),
  ("SortedMailModel", 830, "-request", kW_149),
  ("SortedMailModel", 835, "cc", kW_150),
  ("SortedMailModel", 837, "bcc", kW_151),
  ("SortedMailModel", 872, "list-id", kW_152),
  ("SortedMailModel", 877, "list-post", kW_153),
  ("SortedMailModel", 879, "precedence", kW_154),
  ("SortedMailModel", 906, "To: ", kW_155),
  ("SortedMailModel", 914, "Subject: ", kW_156),
  ("SortedMailModel", 916, "Refused", kW_157),
  ("SortedMailModel", 921, "Auto: ", kW_158),
  ("SortedMailModel", 972, "552 5.3.4 too big", kW_159),
  ("SortedMailModel", 991, "452 4.2.2 full", kW_160),
  ("SortedMailModel", 1008, "250 2.0.0 <", kW_161),
  ("SortedMailModel", 1010, ">", kW_162),
  ("SortedMailModel", 1027, "220 here LMTP", kW_163),
  ("SortedMailModel", 1063, "500 5.5.2 too long", kW_164),
  ("SortedMailModel", 1077, "501 5.5.4 syntax", kW_165),
  ("SortedMailModel", 1079, "lhlo", kW_166),
  ("SortedMailModel", 1087, "noop", kW_167),
  ("SortedMailModel", 1089, "250 2.0.0 ok", kW_168),
  ("SortedMailModel", 1094, "rset", kW_169),
  ("SortedMailModel", 1096, "quit", kW_170),
  ("SortedMailModel", 1098, "221 2.0.0 bye", kW_171),
  ("SortedMailModel", 1100, "mail", kW_172),
  ("SortedMailModel", 1101, "rcpt", kW_173),
  ("SortedMailModel", 1103, "data", kW_174),
  ("SortedMailModel", 1108, "503 5.5.1 order", kW_175),
  ("SortedMailModel", 1110, "500 5.5.2 unknown", kW_176),
  ("SortedMailModel", 1112, " ", kW_177),
  ("SortedMailModel", 1117, "250-here", kW_178),
  ("SortedMailModel", 1119, "250-SIZE 4000", kW_179),
  ("SortedMailModel", 1121, "250 8BITMIME", kW_180),
  ("SortedMailModel", 1123, "<", kW_181),
  ("SortedMailModel", 1136, "body=8bitmime", kW_182),
  ("SortedMailModel", 1138, "size=", kW_183),
  ("SortedMailModel", 1140, " from:", kW_184),
  ("SortedMailModel", 1145, "<>", kW_185),
  ("SortedMailModel", 1156, "250 2.1.0 ok", kW_186),
  ("SortedMailModel", 1158, " to:", kW_187),
  ("SortedMailModel", 1163, "550 5.1.1 no such", kW_188),
  ("SortedMailModel", 1165, "452 4.5.3 too many", kW_189),
  ("SortedMailModel", 1167, "250 2.1.5 ok", kW_190),
  ("SortedMailModel", 1169, "354 go", kW_191),
  ("SortedMailModel", 1222, "putscript", kW_192),
  ("SortedMailModel", 1227, "checkscript", kW_193),
  ("SortedMailModel", 1229, "havespace", kW_194),
  ("SortedMailModel", 1231, "setactive", kW_195),
  ("SortedMailModel", 1233, "getscript", kW_196),
  ("SortedMailModel", 1235, "listscripts", kW_197),
  ("SortedMailModel", 1237, "deletescript", kW_198),
  ("SortedMailModel", 1239, "renamescript", kW_199),
  ("SortedMailModel", 1241, "logout", kW_200),
  ("SortedMailModel", 1302, "syntax", kW_201),
  ("SortedMailModel", 1315, "NO \"", kW_202),
  ("SortedMailModel", 1317, "\"", kW_203),
  ("SortedMailModel", 1334, "OK", kW_204),
  ("SortedMailModel", 1339, "space", kW_205),
  ("SortedMailModel", 1356, "NO \"line ", kW_206),
  ("SortedMailModel", 1370, "none", kW_207),
  ("SortedMailModel", 1372, "}", kW_208),
  ("SortedMailModel", 1374, "", kW_209),
  ("SortedMailModel", 1376, "\" ACTIVE", kW_210),
  ("SortedMailModel", 1378, "active", kW_211),
  ("SortedMailModel", 1387, "INBOX", kW_212)]
def kSt : List (String × String × List Int32) := [
  ("SortedMail$Parser", "NEEDED_BY_KINDS", kS_0),
  ("SortedMail$Parser", "NEEDED_BY_TAGS", kS_1),
  ("SortedMail$Parser", "TAGS_OF_KINDS", kS_2),
  ("SortedMail$Parser", "TAG_GROUPS", kS_3),
  ("SortedMail$ScriptSession", "FIRST_PARTS", kS_4),
  ("SortedMail$ScriptSession", "SECOND_PARTS", kS_5)]
def uK (B : Nat) (Z : State → Heap → Prop) (vF : Value) : Prop := zs B Z vF ∧ (∀ (j : Nat) (e : String × Nat × String × List Nat), kAll[j]? = some e → ∃ q w : Nat, (∀ (U : State) (H : Heap), Z U H → vk_R e.1 e.2.1 e.2.2.1 q U) ∧ uStr B Z q w e.2.2.2) ∧ (∀ (j : Nat) (e : String × String × List Int32), kSt[j]? = some e → ∃ q : Nat, (∀ (U : State) (H : Heap), Z U H → va_Z e.1 e.2.1 "[I" (.ref q) (fun q : Nat => B ≤ q) U H) ∧ (∀ (U : State) (H : Heap), Z U H → va_T .int q e.2.2.length (fun j => .int (e.2.2.getD j 0)) (fun q : Nat => B ≤ q) U H))
/-- THE JUDGEMENT and THE CONTRACT over typed states; r: the state and the answer at the end -/
def GU (l : Launch) (D : va_G) (A : Nat → ClassId) (B : Nat) (Z : State → Heap → Prop) (M : hM) (d : Nat) (r : uS × Option Value) (s : uS) (pc : Nat) (lv : List (Nat × Value)) (st : List Value) : Prop := ∀ (σ0 σ : hS), uSt A B σ s → G l D (h_ty A) B Z M d σ0 (fun σ1 w => uSt A B σ1 r.1 ∧ w = r.2) σ pc lv st
def CU (l : Launch) (D : va_G) (A : Nat → ClassId) (B : Nat) (Z : State → Heap → Prop) (d : Nat) (M : hM) (s : uS) (as : List Value) (r : uS × Option Value) : Prop := ∀ σ : hS, uSt A B σ s → Ct l D (h_ty A) B Z d M σ as (fun σ1 w => uSt A B σ1 r.1 ∧ w = r.2)
section HU
variable {l : Launch} {D : va_G} {A : Nat → ClassId} {B : Nat} {Z : State → Heap → Prop} {M : hM} {d : Nat} {r : uS × Option Value} {s : uS} {pc : Nat} {lv : List (Nat × Value)} {st : List Value}
theorem cu_of {as : List Value} (hy : plainName M.1.cls = true) (hZ : h_st B Z) (hn : (lg_sl as).length ≤ M.2.2.1) (k : GU l D A B Z M d r s 0 (lv_args 0 as) []) : CU l D A B Z d M s as r := fun σ hs => ct_of hy hZ hn (k σ σ hs)
theorem uu_iconst {n : Int} {v : Int32} (hdg : decode M.2.1 pc = .ok (.iconst n, 1)) (hv : Int32.ofInt n = v) (k9 : GU l D A B Z M d r s (pc + 1) lv (.int v :: st)) : GU l D A B Z M d r s pc lv (st) := fun σ0 σ hs => g_iconst hdg hv (k9 σ0 σ hs)
theorem uu_bipush {n : Int} {v : Int32} (hdg : decode M.2.1 pc = .ok (.bipush n, 2)) (hv : (Int8.ofInt n).toInt32 = v) (k9 : GU l D A B Z M d r s (pc + 2) lv (.int v :: st)) : GU l D A B Z M d r s pc lv (st) := fun σ0 σ hs => g_bipush hdg hv (k9 σ0 σ hs)
theorem uu_sipush {n : Int} {v : Int32} (hdg : decode M.2.1 pc = .ok (.sipush n, 3)) (hv : (Int16.ofInt n).toInt32 = v) (k9 : GU l D A B Z M d r s (pc + 3) lv (.int v :: st)) : GU l D A B Z M d r s pc lv (st) := fun σ0 σ hs => g_sipush hdg hv (k9 σ0 σ hs)
theorem uu_lconst {n : Fin 2} {v : Int64} (hdg : decode M.2.1 pc = .ok (.lconst n, 1)) (hv : Int64.ofNat (n : Nat) = v) (k9 : GU l D A B Z M d r s (pc + 1) lv (.long v :: st)) : GU l D A B Z M d r s pc lv (st) := fun σ0 σ hs => g_lconst hdg hv (k9 σ0 σ hs)
theorem uu_ldc {index : Nat} {v : Int32} (hconst : Jvm.Cond.constant M.1.cls index v ∈ lw_g) (hdg : decode M.2.1 pc = .ok (.ldc index, 2)) (k9 : GU l D A B Z M d r s (pc + 2) lv (.int v :: st)) : GU l D A B Z M d r s pc lv st := fun σ0 σ hs => g_ldc hconst hdg (k9 σ0 σ hs)
theorem uu_ldc2 {index : Nat} {v : Int64} (hconst : Jvm.Cond.constantLong M.1.cls index v ∈ lw_g) (hdg : decode M.2.1 pc = .ok (.ldc2_w index, 3)) (k9 : GU l D A B Z M d r s (pc + 3) lv (.long v :: st)) : GU l D A B Z M d r s pc lv st := fun σ0 σ hs => g_ldc2 hconst hdg (k9 σ0 σ hs)
theorem uu_iload_n {k : Fin 4} {i : Nat} {x : Int32} (hdg : decode M.2.1 pc = .ok (.iload_n k, 1)) (hi : (k : Nat) = i) (hl : (i, ((.int x) : Value)) ∈ lv) (k9 : GU l D A B Z M d r s (pc + 1) lv (.int x :: st)) : GU l D A B Z M d r s pc lv (st) := fun σ0 σ hs => g_iload_n hdg hi hl (k9 σ0 σ hs)
theorem uu_iload {i : Nat} {x : Int32} (hdg : decode M.2.1 pc = .ok (.iload i, 2)) (hl : (i, ((.int x) : Value)) ∈ lv) (k9 : GU l D A B Z M d r s (pc + 2) lv (.int x :: st)) : GU l D A B Z M d r s pc lv (st) := fun σ0 σ hs => g_iload hdg hl (k9 σ0 σ hs)
theorem uu_lload_n {k : Fin 4} {i : Nat} {x : Int64} (hdg : decode M.2.1 pc = .ok (.lload_n k, 1)) (hi : (k : Nat) = i) (hl : (i, ((.long x) : Value)) ∈ lv) (k9 : GU l D A B Z M d r s (pc + 1) lv (.long x :: st)) : GU l D A B Z M d r s pc lv (st) := fun σ0 σ hs => g_lload_n hdg hi hl (k9 σ0 σ hs)
theorem uu_lload {i : Nat} {x : Int64} (hdg : decode M.2.1 pc = .ok (.lload i, 2)) (hl : (i, ((.long x) : Value)) ∈ lv) (k9 : GU l D A B Z M d r s (pc + 2) lv (.long x :: st)) : GU l D A B Z M d r s pc lv (st) := fun σ0 σ hs => g_lload hdg hl (k9 σ0 σ hs)
theorem uu_aload_n {k : Fin 4} {i : Nat} {x : Nat} (hdg : decode M.2.1 pc = .ok (.aload_n k, 1)) (hi : (k : Nat) = i) (hl : (i, ((.ref x) : Value)) ∈ lv) (k9 : GU l D A B Z M d r s (pc + 1) lv (.ref x :: st)) : GU l D A B Z M d r s pc lv (st) := fun σ0 σ hs => g_aload_n hdg hi hl (k9 σ0 σ hs)
theorem uu_aload {i : Nat} {x : Nat} (hdg : decode M.2.1 pc = .ok (.aload i, 2)) (hl : (i, ((.ref x) : Value)) ∈ lv) (k9 : GU l D A B Z M d r s (pc + 2) lv (.ref x :: st)) : GU l D A B Z M d r s pc lv (st) := fun σ0 σ hs => g_aload hdg hl (k9 σ0 σ hs)
theorem uu_aload_nN {k : Fin 4} {i : Nat} (hdg : decode M.2.1 pc = .ok (.aload_n k, 1)) (hi : (k : Nat) = i) (hl : (i, ((.null) : Value)) ∈ lv) (k9 : GU l D A B Z M d r s (pc + 1) lv (.null :: st)) : GU l D A B Z M d r s pc lv (st) := fun σ0 σ hs => g_aload_nN hdg hi hl (k9 σ0 σ hs)
theorem uu_aloadN {i : Nat} (hdg : decode M.2.1 pc = .ok (.aload i, 2)) (hl : (i, ((.null) : Value)) ∈ lv) (k9 : GU l D A B Z M d r s (pc + 2) lv (.null :: st)) : GU l D A B Z M d r s pc lv (st) := fun σ0 σ hs => g_aloadN hdg hl (k9 σ0 σ hs)
theorem uu_iadd {x y : Int32} (hdg : decode M.2.1 pc = .ok (.iadd, 1)) (k9 : GU l D A B Z M d r s (pc + 1) lv (.int (x + y) :: st)) : GU l D A B Z M d r s pc lv (.int y :: .int x :: st) := fun σ0 σ hs => g_iadd hdg (k9 σ0 σ hs)
theorem uu_isub {x y : Int32} (hdg : decode M.2.1 pc = .ok (.isub, 1)) (k9 : GU l D A B Z M d r s (pc + 1) lv (.int (x - y) :: st)) : GU l D A B Z M d r s pc lv (.int y :: .int x :: st) := fun σ0 σ hs => g_isub hdg (k9 σ0 σ hs)
theorem uu_imul {x y : Int32} (hdg : decode M.2.1 pc = .ok (.imul, 1)) (k9 : GU l D A B Z M d r s (pc + 1) lv (.int (x * y) :: st)) : GU l D A B Z M d r s pc lv (.int y :: .int x :: st) := fun σ0 σ hs => g_imul hdg (k9 σ0 σ hs)
theorem uu_iand {x y : Int32} (hdg : decode M.2.1 pc = .ok (.iand, 1)) (k9 : GU l D A B Z M d r s (pc + 1) lv (.int (x &&& y) :: st)) : GU l D A B Z M d r s pc lv (.int y :: .int x :: st) := fun σ0 σ hs => g_iand hdg (k9 σ0 σ hs)
theorem uu_ior {x y : Int32} (hdg : decode M.2.1 pc = .ok (.ior, 1)) (k9 : GU l D A B Z M d r s (pc + 1) lv (.int (x ||| y) :: st)) : GU l D A B Z M d r s pc lv (.int y :: .int x :: st) := fun σ0 σ hs => g_ior hdg (k9 σ0 σ hs)
theorem uu_ixor {x y : Int32} (hdg : decode M.2.1 pc = .ok (.ixor, 1)) (k9 : GU l D A B Z M d r s (pc + 1) lv (.int (x ^^^ y) :: st)) : GU l D A B Z M d r s pc lv (.int y :: .int x :: st) := fun σ0 σ hs => g_ixor hdg (k9 σ0 σ hs)
theorem uu_idiv {x y : Int32} (hdg : decode M.2.1 pc = .ok (.idiv, 1)) (hne : ¬ y = 0) (k9 : GU l D A B Z M d r s (pc + 1) lv (.int (x / y) :: st)) : GU l D A B Z M d r s pc lv (.int y :: .int x :: st) := fun σ0 σ hs => g_idiv hdg hne (k9 σ0 σ hs)
theorem uu_irem {x y : Int32} (hdg : decode M.2.1 pc = .ok (.irem, 1)) (hne : ¬ y = 0) (k9 : GU l D A B Z M d r s (pc + 1) lv (.int (x - x / y * y) :: st)) : GU l D A B Z M d r s pc lv (.int y :: .int x :: st) := fun σ0 σ hs => g_irem hdg hne (k9 σ0 σ hs)
theorem uu_ineg {x : Int32} (hdg : decode M.2.1 pc = .ok (.ineg, 1)) (k9 : GU l D A B Z M d r s (pc + 1) lv (.int (-x) :: st)) : GU l D A B Z M d r s pc lv (.int x :: st) := fun σ0 σ hs => g_ineg hdg (k9 σ0 σ hs)
theorem uu_ladd {x y : Int64} (hdg : decode M.2.1 pc = .ok (.ladd, 1)) (k9 : GU l D A B Z M d r s (pc + 1) lv (.long (x + y) :: st)) : GU l D A B Z M d r s pc lv (.long y :: .long x :: st) := fun σ0 σ hs => g_ladd hdg (k9 σ0 σ hs)
theorem uu_lsub {x y : Int64} (hdg : decode M.2.1 pc = .ok (.lsub, 1)) (k9 : GU l D A B Z M d r s (pc + 1) lv (.long (x - y) :: st)) : GU l D A B Z M d r s pc lv (.long y :: .long x :: st) := fun σ0 σ hs => g_lsub hdg (k9 σ0 σ hs)
theorem uu_lmul {x y : Int64} (hdg : decode M.2.1 pc = .ok (.lmul, 1)) (k9 : GU l D A B Z M d r s (pc + 1) lv (.long (x * y) :: st)) : GU l D A B Z M d r s pc lv (.long y :: .long x :: st) := fun σ0 σ hs => g_lmul hdg (k9 σ0 σ hs)
theorem uu_land {x y : Int64} (hdg : decode M.2.1 pc = .ok (.land, 1)) (k9 : GU l D A B Z M d r s (pc + 1) lv (.long (x &&& y) :: st)) : GU l D A B Z M d r s pc lv (.long y :: .long x :: st) := fun σ0 σ hs => g_land hdg (k9 σ0 σ hs)
theorem uu_lor {x y : Int64} (hdg : decode M.2.1 pc = .ok (.lor, 1)) (k9 : GU l D A B Z M d r s (pc + 1) lv (.long (x ||| y) :: st)) : GU l D A B Z M d r s pc lv (.long y :: .long x :: st) := fun σ0 σ hs => g_lor hdg (k9 σ0 σ hs)
theorem uu_lxor {x y : Int64} (hdg : decode M.2.1 pc = .ok (.lxor, 1)) (k9 : GU l D A B Z M d r s (pc + 1) lv (.long (x ^^^ y) :: st)) : GU l D A B Z M d r s pc lv (.long y :: .long x :: st) := fun σ0 σ hs => g_lxor hdg (k9 σ0 σ hs)
theorem uu_ldiv {x y : Int64} (hdg : decode M.2.1 pc = .ok (.ldiv, 1)) (hne : ¬ y = 0) (k9 : GU l D A B Z M d r s (pc + 1) lv (.long (x / y) :: st)) : GU l D A B Z M d r s pc lv (.long y :: .long x :: st) := fun σ0 σ hs => g_ldiv hdg hne (k9 σ0 σ hs)
theorem uu_lrem {x y : Int64} (hdg : decode M.2.1 pc = .ok (.lrem, 1)) (hne : ¬ y = 0) (k9 : GU l D A B Z M d r s (pc + 1) lv (.long (x - x / y * y) :: st)) : GU l D A B Z M d r s pc lv (.long y :: .long x :: st) := fun σ0 σ hs => g_lrem hdg hne (k9 σ0 σ hs)
theorem uu_ishl {x y : Int32} (hdg : decode M.2.1 pc = .ok (.ishl, 1)) (k9 : GU l D A B Z M d r s (pc + 1) lv (.int (x <<< (y &&& 31)) :: st)) : GU l D A B Z M d r s pc lv (.int y :: .int x :: st) := fun σ0 σ hs => g_ishl hdg (k9 σ0 σ hs)
theorem uu_ishr {x y : Int32} (hdg : decode M.2.1 pc = .ok (.ishr, 1)) (k9 : GU l D A B Z M d r s (pc + 1) lv (.int (x >>> (y &&& 31)) :: st)) : GU l D A B Z M d r s pc lv (.int y :: .int x :: st) := fun σ0 σ hs => g_ishr hdg (k9 σ0 σ hs)
theorem uu_iushr {x y v : Int32} (hdg : decode M.2.1 pc = .ok (.iushr, 1)) (hv : (x.toUInt32 >>> (y.toUInt32 &&& Int32.toUInt32 31)).toInt32 = v) (k9 : GU l D A B Z M d r s (pc + 1) lv (.int v :: st)) : GU l D A B Z M d r s pc lv (.int y :: .int x :: st) := fun σ0 σ hs => g_iushr hdg hv (k9 σ0 σ hs)
theorem uu_lshl {x v : Int64} {y : Int32} (hdg : decode M.2.1 pc = .ok (.lshl, 1)) (hv : x <<< (y.toInt64 &&& 63) = v) (k9 : GU l D A B Z M d r s (pc + 1) lv (.long v :: st)) : GU l D A B Z M d r s pc lv (.int y :: .long x :: st) := fun σ0 σ hs => g_lshl hdg hv (k9 σ0 σ hs)
theorem uu_lshr {x v : Int64} {y : Int32} (hdg : decode M.2.1 pc = .ok (.lshr, 1)) (hv : x >>> (y.toInt64 &&& 63) = v) (k9 : GU l D A B Z M d r s (pc + 1) lv (.long v :: st)) : GU l D A B Z M d r s pc lv (.int y :: .long x :: st) := fun σ0 σ hs => g_lshr hdg hv (k9 σ0 σ hs)
theorem uu_lushr {x v : Int64} {y : Int32} (hdg : decode M.2.1 pc = .ok (.lushr, 1)) (hv : (x.toUInt64 >>> (y.toInt64.toUInt64 &&& Int64.toUInt64 63)).toInt64 = v) (k9 : GU l D A B Z M d r s (pc + 1) lv (.long v :: st)) : GU l D A B Z M d r s pc lv (.int y :: .long x :: st) := fun σ0 σ hs => g_lushr hdg hv (k9 σ0 σ hs)
theorem uu_i2l {x : Int32} {v : Int64} (hdg : decode M.2.1 pc = .ok (.i2l, 1)) (hv : x.toInt64 = v) (k9 : GU l D A B Z M d r s (pc + 1) lv (.long v :: st)) : GU l D A B Z M d r s pc lv (.int x :: st) := fun σ0 σ hs => g_i2l hdg hv (k9 σ0 σ hs)
theorem uu_l2i {x : Int64} {v : Int32} (hdg : decode M.2.1 pc = .ok (.l2i, 1)) (hv : x.toInt32 = v) (k9 : GU l D A B Z M d r s (pc + 1) lv (.int v :: st)) : GU l D A B Z M d r s pc lv (.long x :: st) := fun σ0 σ hs => g_l2i hdg hv (k9 σ0 σ hs)
theorem uu_i2b {x : Int32} {v : Int32} (hdg : decode M.2.1 pc = .ok (.i2b, 1)) (hv : x.toInt8.toInt32 = v) (k9 : GU l D A B Z M d r s (pc + 1) lv (.int v :: st)) : GU l D A B Z M d r s pc lv (.int x :: st) := fun σ0 σ hs => g_i2b hdg hv (k9 σ0 σ hs)
theorem uu_i2c {x : Int32} {v : Int32} (hdg : decode M.2.1 pc = .ok (.i2c, 1)) (hv : (x.toUInt32 % 65536).toInt32 = v) (k9 : GU l D A B Z M d r s (pc + 1) lv (.int v :: st)) : GU l D A B Z M d r s pc lv (.int x :: st) := fun σ0 σ hs => g_i2c hdg hv (k9 σ0 σ hs)
theorem uu_dup {va : Value} (hdg : decode M.2.1 pc = .ok (.dup, 1)) (hva : va.category = 1) (k9 : GU l D A B Z M d r s (pc + 1) lv (va :: va :: st)) : GU l D A B Z M d r s pc lv (va :: st) := fun σ0 σ hs => g_dup hdg hva (k9 σ0 σ hs)
theorem uu_pop {va : Value} (hdg : decode M.2.1 pc = .ok (.pop, 1)) (hva : va.category = 1) (k9 : GU l D A B Z M d r s (pc + 1) lv (st)) : GU l D A B Z M d r s pc lv (va :: st) := fun σ0 σ hs => g_pop hdg hva (k9 σ0 σ hs)
theorem uu_dup_x1 {va vb : Value} (hdg : decode M.2.1 pc = .ok (.dup_x1, 1)) (hva : va.category = 1) (hvb : vb.category = 1) (k9 : GU l D A B Z M d r s (pc + 1) lv (va :: vb :: va :: st)) : GU l D A B Z M d r s pc lv (va :: vb :: st) := fun σ0 σ hs => g_dup_x1 hdg hva hvb (k9 σ0 σ hs)
theorem uu_dup_x2 {va vb vd : Value} (hdg : decode M.2.1 pc = .ok (.dup_x2, 1)) (hva : va.category = 1) (hvb : vb.category = 1) (hvd : vd.category = 1) (k9 : GU l D A B Z M d r s (pc + 1) lv (va :: vb :: vd :: va :: st)) : GU l D A B Z M d r s pc lv (va :: vb :: vd :: st) := fun σ0 σ hs => g_dup_x2 hdg hva hvb hvd (k9 σ0 σ hs)
theorem uu_dup2_11 {va vb : Value} (hdg : decode M.2.1 pc = .ok (.dup2, 1)) (hva : va.category = 1) (hvb : vb.category = 1) (k9 : GU l D A B Z M d r s (pc + 1) lv (va :: vb :: va :: vb :: st)) : GU l D A B Z M d r s pc lv (va :: vb :: st) := fun σ0 σ hs => g_dup2_11 hdg hva hvb (k9 σ0 σ hs)
theorem uu_dup2_2 {va : Value} (hdg : decode M.2.1 pc = .ok (.dup2, 1)) (hva : va.category = 2) (k9 : GU l D A B Z M d r s (pc + 1) lv (va :: va :: st)) : GU l D A B Z M d r s pc lv (va :: st) := fun σ0 σ hs => g_dup2_2 hdg hva (k9 σ0 σ hs)
theorem uu_pop2_2 {va : Value} (hdg : decode M.2.1 pc = .ok (.pop2, 1)) (hva : va.category = 2) (k9 : GU l D A B Z M d r s (pc + 1) lv (st)) : GU l D A B Z M d r s pc lv (va :: st) := fun σ0 σ hs => g_pop2_2 hdg hva (k9 σ0 σ hs)
theorem uu_pop2_11 {va vb : Value} (hdg : decode M.2.1 pc = .ok (.pop2, 1)) (hva : va.category = 1) (hvb : vb.category = 1) (k9 : GU l D A B Z M d r s (pc + 1) lv (st)) : GU l D A B Z M d r s pc lv (va :: vb :: st) := fun σ0 σ hs => g_pop2_11 hdg hva hvb (k9 σ0 σ hs)
theorem uu_if_eq {x : Int32} {off : Int} {tgt : Nat} (hdg : decode M.2.1 pc = .ok (.ifCond .eq off, 3)) (ht : (pc : Int) + off = (tgt : Int)) (kt : x = 0 → GU l D A B Z M d r s tgt lv st) (kf : ¬ x = 0 → GU l D A B Z M d r s (pc + 3) lv st) : GU l D A B Z M d r s pc lv (.int x :: st) := fun σ0 σ hs => g_if_eq hdg ht (fun q9 => kt q9 σ0 σ hs) (fun q9 => kf q9 σ0 σ hs)
theorem uu_if_ne {x : Int32} {off : Int} {tgt : Nat} (hdg : decode M.2.1 pc = .ok (.ifCond .ne off, 3)) (ht : (pc : Int) + off = (tgt : Int)) (kt : ¬ x = 0 → GU l D A B Z M d r s tgt lv st) (kf : x = 0 → GU l D A B Z M d r s (pc + 3) lv st) : GU l D A B Z M d r s pc lv (.int x :: st) := fun σ0 σ hs => g_if_ne hdg ht (fun q9 => kt q9 σ0 σ hs) (fun q9 => kf q9 σ0 σ hs)
theorem uu_if_lt {x : Int32} {off : Int} {tgt : Nat} (hdg : decode M.2.1 pc = .ok (.ifCond .lt off, 3)) (ht : (pc : Int) + off = (tgt : Int)) (kt : x < 0 → GU l D A B Z M d r s tgt lv st) (kf : ¬ x < 0 → GU l D A B Z M d r s (pc + 3) lv st) : GU l D A B Z M d r s pc lv (.int x :: st) := fun σ0 σ hs => g_if_lt hdg ht (fun q9 => kt q9 σ0 σ hs) (fun q9 => kf q9 σ0 σ hs)
theorem uu_if_ge {x : Int32} {off : Int} {tgt : Nat} (hdg : decode M.2.1 pc = .ok (.ifCond .ge off, 3)) (ht : (pc : Int) + off = (tgt : Int)) (kt : 0 ≤ x → GU l D A B Z M d r s tgt lv st) (kf : ¬ 0 ≤ x → GU l D A B Z M d r s (pc + 3) lv st) : GU l D A B Z M d r s pc lv (.int x :: st) := fun σ0 σ hs => g_if_ge hdg ht (fun q9 => kt q9 σ0 σ hs) (fun q9 => kf q9 σ0 σ hs)
theorem uu_if_gt {x : Int32} {off : Int} {tgt : Nat} (hdg : decode M.2.1 pc = .ok (.ifCond .gt off, 3)) (ht : (pc : Int) + off = (tgt : Int)) (kt : 0 < x → GU l D A B Z M d r s tgt lv st) (kf : ¬ 0 < x → GU l D A B Z M d r s (pc + 3) lv st) : GU l D A B Z M d r s pc lv (.int x :: st) := fun σ0 σ hs => g_if_gt hdg ht (fun q9 => kt q9 σ0 σ hs) (fun q9 => kf q9 σ0 σ hs)
theorem uu_if_le {x : Int32} {off : Int} {tgt : Nat} (hdg : decode M.2.1 pc = .ok (.ifCond .le off, 3)) (ht : (pc : Int) + off = (tgt : Int)) (kt : x ≤ 0 → GU l D A B Z M d r s tgt lv st) (kf : ¬ x ≤ 0 → GU l D A B Z M d r s (pc + 3) lv st) : GU l D A B Z M d r s pc lv (.int x :: st) := fun σ0 σ hs => g_if_le hdg ht (fun q9 => kt q9 σ0 σ hs) (fun q9 => kf q9 σ0 σ hs)
theorem uu_icmp_eq {x y : Int32} {off : Int} {tgt : Nat} (hdg : decode M.2.1 pc = .ok (.if_icmp .eq off, 3)) (ht : (pc : Int) + off = (tgt : Int)) (kt : x = y → GU l D A B Z M d r s tgt lv st) (kf : ¬ x = y → GU l D A B Z M d r s (pc + 3) lv st) : GU l D A B Z M d r s pc lv (.int y :: .int x :: st) := fun σ0 σ hs => g_icmp_eq hdg ht (fun q9 => kt q9 σ0 σ hs) (fun q9 => kf q9 σ0 σ hs)
theorem uu_icmp_ne {x y : Int32} {off : Int} {tgt : Nat} (hdg : decode M.2.1 pc = .ok (.if_icmp .ne off, 3)) (ht : (pc : Int) + off = (tgt : Int)) (kt : ¬ x = y → GU l D A B Z M d r s tgt lv st) (kf : x = y → GU l D A B Z M d r s (pc + 3) lv st) : GU l D A B Z M d r s pc lv (.int y :: .int x :: st) := fun σ0 σ hs => g_icmp_ne hdg ht (fun q9 => kt q9 σ0 σ hs) (fun q9 => kf q9 σ0 σ hs)
theorem uu_icmp_lt {x y : Int32} {off : Int} {tgt : Nat} (hdg : decode M.2.1 pc = .ok (.if_icmp .lt off, 3)) (ht : (pc : Int) + off = (tgt : Int)) (kt : x < y → GU l D A B Z M d r s tgt lv st) (kf : ¬ x < y → GU l D A B Z M d r s (pc + 3) lv st) : GU l D A B Z M d r s pc lv (.int y :: .int x :: st) := fun σ0 σ hs => g_icmp_lt hdg ht (fun q9 => kt q9 σ0 σ hs) (fun q9 => kf q9 σ0 σ hs)
theorem uu_icmp_ge {x y : Int32} {off : Int} {tgt : Nat} (hdg : decode M.2.1 pc = .ok (.if_icmp .ge off, 3)) (ht : (pc : Int) + off = (tgt : Int)) (kt : y ≤ x → GU l D A B Z M d r s tgt lv st) (kf : ¬ y ≤ x → GU l D A B Z M d r s (pc + 3) lv st) : GU l D A B Z M d r s pc lv (.int y :: .int x :: st) := fun σ0 σ hs => g_icmp_ge hdg ht (fun q9 => kt q9 σ0 σ hs) (fun q9 => kf q9 σ0 σ hs)
theorem uu_icmp_gt {x y : Int32} {off : Int} {tgt : Nat} (hdg : decode M.2.1 pc = .ok (.if_icmp .gt off, 3)) (ht : (pc : Int) + off = (tgt : Int)) (kt : y < x → GU l D A B Z M d r s tgt lv st) (kf : ¬ y < x → GU l D A B Z M d r s (pc + 3) lv st) : GU l D A B Z M d r s pc lv (.int y :: .int x :: st) := fun σ0 σ hs => g_icmp_gt hdg ht (fun q9 => kt q9 σ0 σ hs) (fun q9 => kf q9 σ0 σ hs)
theorem uu_icmp_le {x y : Int32} {off : Int} {tgt : Nat} (hdg : decode M.2.1 pc = .ok (.if_icmp .le off, 3)) (ht : (pc : Int) + off = (tgt : Int)) (kt : x ≤ y → GU l D A B Z M d r s tgt lv st) (kf : ¬ x ≤ y → GU l D A B Z M d r s (pc + 3) lv st) : GU l D A B Z M d r s pc lv (.int y :: .int x :: st) := fun σ0 σ hs => g_icmp_le hdg ht (fun q9 => kt q9 σ0 σ hs) (fun q9 => kf q9 σ0 σ hs)
theorem uu_goto {off : Int} {tgt : Nat} (hdg : decode M.2.1 pc = .ok (.goto off, 3)) (ht : (pc : Int) + off = (tgt : Int)) (k9 : GU l D A B Z M d r s tgt lv st) : GU l D A B Z M d r s pc lv st := fun σ0 σ hs => g_goto hdg ht (k9 σ0 σ hs)
theorem uu_ifnull {x : Nat} {off : Int} (hdg : decode M.2.1 pc = .ok (.ifnull off, 3)) (k9 : GU l D A B Z M d r s (pc + 3) lv st) : GU l D A B Z M d r s pc lv (.ref x :: st) := fun σ0 σ hs => g_ifnull hdg (k9 σ0 σ hs)
theorem uu_ifnonnull {x : Nat} {off : Int} {tgt : Nat} (hdg : decode M.2.1 pc = .ok (.ifnonnull off, 3)) (ht : (pc : Int) + off = (tgt : Int)) (k9 : GU l D A B Z M d r s tgt lv st) : GU l D A B Z M d r s pc lv (.ref x :: st) := fun σ0 σ hs => g_ifnonnull hdg ht (k9 σ0 σ hs)
theorem uu_ifnullN {off : Int} {tgt : Nat} (hdg : decode M.2.1 pc = .ok (.ifnull off, 3)) (ht : (pc : Int) + off = (tgt : Int)) (k9 : GU l D A B Z M d r s tgt lv st) : GU l D A B Z M d r s pc lv (.null :: st) := fun σ0 σ hs => g_ifnullN hdg ht (k9 σ0 σ hs)
theorem uu_ifnonnullN {off : Int} (hdg : decode M.2.1 pc = .ok (.ifnonnull off, 3)) (k9 : GU l D A B Z M d r s (pc + 3) lv st) : GU l D A B Z M d r s pc lv (.null :: st) := fun σ0 σ hs => g_ifnonnullN hdg (k9 σ0 σ hs)
theorem uu_null (hdg : decode M.2.1 pc = .ok (.aconst_null, 1)) (k9 : GU l D A B Z M d r s (pc + 1) lv (.null :: st)) : GU l D A B Z M d r s pc lv st := fun σ0 σ hs => g_null hdg (k9 σ0 σ hs)
theorem uu_acmp_eq {rx ry : Option Nat} {off : Int} {tgt : Nat} (hdg : decode M.2.1 pc = .ok (.if_acmp .eq off, 3)) (ht : (pc : Int) + off = (tgt : Int)) (kt : rx = ry → GU l D A B Z M d r s tgt lv st) (kf : ¬ rx = ry → GU l D A B Z M d r s (pc + 3) lv st) : GU l D A B Z M d r s pc lv (va_rf ry :: va_rf rx :: st) := fun σ0 σ hs => g_acmp_eq hdg ht (fun q9 => kt q9 σ0 σ hs) (fun q9 => kf q9 σ0 σ hs)
theorem uu_acmp_ne {rx ry : Option Nat} {off : Int} {tgt : Nat} (hdg : decode M.2.1 pc = .ok (.if_acmp .ne off, 3)) (ht : (pc : Int) + off = (tgt : Int)) (kt : ¬ rx = ry → GU l D A B Z M d r s tgt lv st) (kf : rx = ry → GU l D A B Z M d r s (pc + 3) lv st) : GU l D A B Z M d r s pc lv (va_rf ry :: va_rf rx :: st) := fun σ0 σ hs => g_acmp_ne hdg ht (fun q9 => kt q9 σ0 σ hs) (fun q9 => kf q9 σ0 σ hs)
theorem uu_tableIn {dflt lo hi : Int} {offs : Array Int} {len : Nat} {x : Int32} {off : Int} {tgt : Nat} (hdg : decode M.2.1 pc = .ok (.tableswitch dflt lo hi offs, len)) (h1 : ¬ x.toInt < lo) (h2 : ¬ hi < x.toInt) (ho : offs[(x.toInt - lo).toNat]? = some off) (ht : (pc : Int) + off = (tgt : Int)) (k9 : GU l D A B Z M d r s tgt lv st) : GU l D A B Z M d r s pc lv (.int x :: st) := fun σ0 σ hs => g_tableIn hdg h1 h2 ho ht (k9 σ0 σ hs)
theorem uu_tableOut {dflt lo hi : Int} {offs : Array Int} {len : Nat} {x : Int32} {tgt : Nat} (hdg : decode M.2.1 pc = .ok (.tableswitch dflt lo hi offs, len)) (h : x.toInt < lo ∨ hi < x.toInt) (ht : (pc : Int) + dflt = (tgt : Int)) (k9 : GU l D A B Z M d r s tgt lv st) : GU l D A B Z M d r s pc lv (.int x :: st) := fun σ0 σ hs => g_tableOut hdg h ht (k9 σ0 σ hs)
theorem uu_lcmp {x y : Int64} (hdg : decode M.2.1 pc = .ok (.lcmp, 1)) (k9 : GU l D A B Z M d r s (pc + 1) lv (.int (lg_cmp x y) :: st)) : GU l D A B Z M d r s pc lv (.long y :: .long x :: st) := fun σ0 σ hs => g_lcmp hdg (k9 σ0 σ hs)
theorem uu_istore_n {k : Fin 4} {i : Nat} {x : Int32} {lv' : List (Nat × Value)} (hdg : decode M.2.1 pc = .ok (.istore_n k, 1)) (hi : (k : Nat) = i) (hn : i < M.2.2.1) (hl : (i, Value.int x) :: lv.filter (fun q => !(q.1 == i) && !(q.1 + 1 == i && q.2.category == 2)) = lv') (k9 : GU l D A B Z M d r s (pc + 1) lv' st) : GU l D A B Z M d r s pc lv (.int x :: st) := fun σ0 σ hs => g_istore_n hdg hi hn hl (k9 σ0 σ hs)
theorem uu_istore {i : Nat} {x : Int32} {lv' : List (Nat × Value)} (hdg : decode M.2.1 pc = .ok (.istore i, 2)) (hn : i < M.2.2.1) (hl : (i, Value.int x) :: lv.filter (fun q => !(q.1 == i) && !(q.1 + 1 == i && q.2.category == 2)) = lv') (k9 : GU l D A B Z M d r s (pc + 2) lv' st) : GU l D A B Z M d r s pc lv (.int x :: st) := fun σ0 σ hs => g_istore hdg hn hl (k9 σ0 σ hs)
theorem uu_lstore_n {k : Fin 4} {i : Nat} {x : Int64} {lv' : List (Nat × Value)} (hdg : decode M.2.1 pc = .ok (.lstore_n k, 1)) (hi : (k : Nat) = i) (hn : i + 1 < M.2.2.1) (hl : (i, Value.long x) :: lv.filter (fun q => !(q.1 == i) && (!(q.1 == i + 1) && !(q.1 + 1 == i && q.2.category == 2))) = lv') (k9 : GU l D A B Z M d r s (pc + 1) lv' st) : GU l D A B Z M d r s pc lv (.long x :: st) := fun σ0 σ hs => g_lstore_n hdg hi hn hl (k9 σ0 σ hs)
theorem uu_lstore {i : Nat} {x : Int64} {lv' : List (Nat × Value)} (hdg : decode M.2.1 pc = .ok (.lstore i, 2)) (hn : i + 1 < M.2.2.1) (hl : (i, Value.long x) :: lv.filter (fun q => !(q.1 == i) && (!(q.1 == i + 1) && !(q.1 + 1 == i && q.2.category == 2))) = lv') (k9 : GU l D A B Z M d r s (pc + 2) lv' st) : GU l D A B Z M d r s pc lv (.long x :: st) := fun σ0 σ hs => g_lstore hdg hn hl (k9 σ0 σ hs)
theorem uu_astore_n {k : Fin 4} {i : Nat} {x : Nat} {lv' : List (Nat × Value)} (hdg : decode M.2.1 pc = .ok (.astore_n k, 1)) (hi : (k : Nat) = i) (hn : i < M.2.2.1) (hl : (i, Value.ref x) :: lv.filter (fun q => !(q.1 == i) && !(q.1 + 1 == i && q.2.category == 2)) = lv') (k9 : GU l D A B Z M d r s (pc + 1) lv' st) : GU l D A B Z M d r s pc lv (.ref x :: st) := fun σ0 σ hs => g_astore_n hdg hi hn hl (k9 σ0 σ hs)
theorem uu_astore {i : Nat} {x : Nat} {lv' : List (Nat × Value)} (hdg : decode M.2.1 pc = .ok (.astore i, 2)) (hn : i < M.2.2.1) (hl : (i, Value.ref x) :: lv.filter (fun q => !(q.1 == i) && !(q.1 + 1 == i && q.2.category == 2)) = lv') (k9 : GU l D A B Z M d r s (pc + 2) lv' st) : GU l D A B Z M d r s pc lv (.ref x :: st) := fun σ0 σ hs => g_astore hdg hn hl (k9 σ0 σ hs)
theorem uu_astore_nN {k : Fin 4} {i : Nat} {lv' : List (Nat × Value)} (hdg : decode M.2.1 pc = .ok (.astore_n k, 1)) (hi : (k : Nat) = i) (hn : i < M.2.2.1) (hl : (i, Value.null) :: lv.filter (fun q => !(q.1 == i) && !(q.1 + 1 == i && q.2.category == 2)) = lv') (k9 : GU l D A B Z M d r s (pc + 1) lv' st) : GU l D A B Z M d r s pc lv (.null :: st) := fun σ0 σ hs => g_astore_nN hdg hi hn hl (k9 σ0 σ hs)
theorem uu_astoreN {i : Nat} {lv' : List (Nat × Value)} (hdg : decode M.2.1 pc = .ok (.astore i, 2)) (hn : i < M.2.2.1) (hl : (i, Value.null) :: lv.filter (fun q => !(q.1 == i) && !(q.1 + 1 == i && q.2.category == 2)) = lv') (k9 : GU l D A B Z M d r s (pc + 2) lv' st) : GU l D A B Z M d r s pc lv (.null :: st) := fun σ0 σ hs => g_astoreN hdg hn hl (k9 σ0 σ hs)
theorem uu_iinc {i k : Nat} {n : Int} {x v : Int32} {lv' : List (Nat × Value)} (hdg : decode M.2.1 pc = .ok (.iinc i n, 3)) (hk : lv[k]? = some (i, .int x)) (hv : x + Int32.ofInt n = v) (hn : i < M.2.2.1) (hl : (i, Value.int v) :: lv.filter (fun q => !(q.1 == i) && !(q.1 + 1 == i && q.2.category == 2)) = lv') (k9 : GU l D A B Z M d r s (pc + 3) lv' st) : GU l D A B Z M d r s pc lv st := fun σ0 σ hs => g_iinc hdg hk hv hn hl (k9 σ0 σ hs)
theorem uu_lv {lv' : List (Nat × Value)} (ks : List Nat) (hl : lv_pick lv ks = lv') (k9 : GU l D A B Z M d r s pc lv' st) : GU l D A B Z M d r s pc lv st := fun σ0 σ hs => g_lv ks hl (k9 σ0 σ hs)
theorem uu_iret {x : Int32} (hr : M.2.2.2 = some .int) (hd : decode M.2.1 pc = .ok (.ireturn, 1)) : GU l D A B Z M d (s, some (.int x)) s pc lv [.int x] := fun _ _ hs => g_iret hr hd ⟨hs, rfl⟩
theorem uu_zret {x : Int32} {rt : FieldType} (hr : M.2.2.2 = some rt) (hn : narrow rt (.int x) = .int x) (hd : decode M.2.1 pc = .ok (.ireturn, 1)) : GU l D A B Z M d (s, some (.int x)) s pc lv [.int x] := fun _ _ hs => g_zret hr hn hd ⟨hs, rfl⟩
theorem uu_lret {x : Int64} (hr : M.2.2.2 = some .long) (hd : decode M.2.1 pc = .ok (.lreturn, 1)) : GU l D A B Z M d (s, some (.long x)) s pc lv [.long x] := fun _ _ hs => g_lret hr hd ⟨hs, rfl⟩
theorem uu_aret {v : Value} {rt : FieldType} (hr : M.2.2.2 = some rt) (hrt : (∃ n, rt = .object n) ∨ ∃ t, rt = .array t) (hv : v = .null ∨ ∃ a, v = .ref a) (hd : decode M.2.1 pc = .ok (.areturn, 1)) : GU l D A B Z M d (s, some v) s pc lv [v] := fun _ _ hs => g_aret hr hrt hv hd ⟨hs, rfl⟩
theorem uu_vret (hr : M.2.2.2 = none) (hd : decode M.2.1 pc = .ok (.return_, 1)) : GU l D A B Z M d (s, none) s pc lv [] := fun _ _ hs => g_vret hr hd ⟨hs, rfl⟩
/-- a flag's branch -/
theorem uu_ifb_eq {b : Bool} {off : Int} {tgt : Nat} (hdg : decode M.2.1 pc = .ok (.ifCond .eq off, 3)) (ht : (pc : Int) + off = (tgt : Int)) (kt : ¬ b = true → GU l D A B Z M d r s tgt lv st) (kf : b = true → GU l D A B Z M d r s (pc + 3) lv st) : GU l D A B Z M d r s pc lv (.int (bI b) :: st) := fun σ0 σ hs => g_if_eq hdg ht (fun c => kt (bI_0 c) σ0 σ hs) (fun c => kf (bI_1 c) σ0 σ hs)
theorem uu_ifb_ne {b : Bool} {off : Int} {tgt : Nat} (hdg : decode M.2.1 pc = .ok (.ifCond .ne off, 3)) (ht : (pc : Int) + off = (tgt : Int)) (kt : b = true → GU l D A B Z M d r s tgt lv st) (kf : ¬ b = true → GU l D A B Z M d r s (pc + 3) lv st) : GU l D A B Z M d r s pc lv (.int (bI b) :: st) := fun σ0 σ hs => g_if_ne hdg ht (fun c => kt (bI_1 c) σ0 σ hs) (fun c => kf (bI_0 c) σ0 σ hs)
theorem uu_geti {ix ci k f N : Nat} {C : String} {T : u_T} (hf : h_fl M.1.cls ix ci f C T N) (hN : uNf ci = N) (hk : uIs s k ci) (hc : ci < 20) (hfd : (ufd ci f).1 = 0) (hd : decode M.2.1 pc = .ok (.getfield ix, 3)) (k9 : GU l D A B Z M d r s (pc + 3) lv (.int (s.I k f) :: st)) : GU l D A B Z M d r s pc lv (.ref (B + k) :: st) := fun σ0 σ hs => g_get hf (hs.obj hk hc) ((ufs_get (by rw [hN]; exact hf.2.1)).trans (by unfold uv; rw [if_pos hfd])) hd (k9 σ0 σ hs)
theorem uu_getc {ix ci k f N c k2 : Nat} {C : String} {T : u_T} (hf : h_fl M.1.cls ix ci f C T N) (hN : uNf ci = N) (hk : uIs s k ci) (hc : ci < 20) (hfd : ufd ci f = (1, c)) (h2 : k + c = k2) (hd : decode M.2.1 pc = .ok (.getfield ix, 3)) (k9 : GU l D A B Z M d r s (pc + 3) lv (.ref (B + k2) :: st)) : GU l D A B Z M d r s pc lv (.ref (B + k) :: st) := fun σ0 σ hs => g_get hf (hs.obj hk hc) ((ufs_get (by rw [hN]; exact hf.2.1)).trans (by unfold uv; rw [hfd, if_neg (show ¬ (1 : Nat) = 0 by decide), if_pos rfl, h2])) hd (k9 σ0 σ hs)
theorem uu_geta {ix ci k f N c : Nat} {C : String} {T : u_T} (hf : h_fl M.1.cls ix ci f C T N) (hN : uNf ci = N) (hk : uIs s k ci) (hc : ci < 20) (hfd : ufd ci f = (2, c)) (hd : decode M.2.1 pc = .ok (.getfield ix, 3)) (k9 : GU l D A B Z M d r s (pc + 3) lv (.ref (B + c) :: st)) : GU l D A B Z M d r s pc lv (.ref (B + k) :: st) := fun σ0 σ hs => g_get hf (hs.obj hk hc) ((ufs_get (by rw [hN]; exact hf.2.1)).trans (by unfold uv; rw [hfd, if_neg (show ¬ (2 : Nat) = 0 by decide), if_neg (show ¬ (2 : Nat) = 1 by decide), if_pos rfl])) hd (k9 σ0 σ hs)
theorem uu_getv {ix ci k f N : Nat} {C : String} {T : u_T} (hf : h_fl M.1.cls ix ci f C T N) (hN : uNf ci = N) (hk : uIs s k ci) (hc : ci < 20) (hfd : (ufd ci f).1 = 3) (hd : decode M.2.1 pc = .ok (.getfield ix, 3)) (k9 : GU l D A B Z M d r s (pc + 3) lv (va_rf ((s.R k f).map (fun x => B + x)) :: st)) : GU l D A B Z M d r s pc lv (.ref (B + k) :: st) := fun σ0 σ hs => g_get hf (hs.obj hk hc) ((ufs_get (by rw [hN]; exact hf.2.1)).trans (by unfold uv; rw [if_neg (by omega), if_neg (by omega), if_neg (by omega), if_pos hfd])) hd (k9 σ0 σ hs)
theorem uu_getr {ix ci k f N v : Nat} {C : String} {T : u_T} (hf : h_fl M.1.cls ix ci f C T N) (hN : uNf ci = N) (hk : uIs s k ci) (hc : ci < 20) (hfd : (ufd ci f).1 = 3) (h : s.R k f = some v) (hd : decode M.2.1 pc = .ok (.getfield ix, 3)) (k9 : GU l D A B Z M d r s (pc + 3) lv (.ref (B + v) :: st)) : GU l D A B Z M d r s pc lv (.ref (B + k) :: st) := uu_getv hf hN hk hc hfd hd (by rw [h]; exact k9)
theorem uad_ne {x : Nat} (h : ¬ x = 0) : uad A B x = B + x := if_neg h
theorem uu_getl {ix ci k f N v : Nat} {C : String} {T : u_T} (hf : h_fl M.1.cls ix ci f C T N) (hN : uNf ci = N) (hk : uIs s k ci) (hc : ci < 20) (hfd : (ufd ci f).1 = 4) (h : s.R k f = some v) (h0 : ¬ v = 0) (hd : decode M.2.1 pc = .ok (.getfield ix, 3)) (k9 : GU l D A B Z M d r s (pc + 3) lv (.ref (B + v) :: st)) : GU l D A B Z M d r s pc lv (.ref (B + k) :: st) := fun σ0 σ hs => g_get hf (hs.obj hk hc) ((ufs_get (by rw [hN]; exact hf.2.1)).trans (by unfold uv; rw [if_neg (by omega), if_neg (by omega), if_neg (by omega), if_neg (by omega), h]; show some (Value.ref (uad A B v)) = _; rw [uad_ne h0])) hd (k9 σ0 σ hs)
theorem uu_puti {ix ci k f N : Nat} {C : String} {T : u_T} {x : Int32} {ft : FieldType} (hf : h_fl M.1.cls ix ci f C T N) (ht : (∃ t0 : Nat → FieldType, ∀ k, k < N → parseFieldDescriptor (T k).2.2.1 = some (t0 k)) ∧ (∀ a, a < N → ∀ b, b < N → a ≠ b → (T a).2.1 ≠ (T b).2.1)) (hfin : (T f).2.2.2 = false ∨ ((T f).2.2.2 = true ∧ M.1.name = "<init>" ∧ (T f).1 = M.1.cls)) (hN : uNf ci = N) (hk : uIs s k ci) (hc : ci < 20) (hfd : (ufd ci f).1 = 0) (hp : parseFieldDescriptor (T f).2.2.1 = some ft) (hn : narrow ft (.int x) = .int x) (hfit : fits ft (.int x) = true) (hd : decode M.2.1 pc = .ok (.putfield ix, 3)) (k9 : GU l D A B Z M d r (wI s k f x) (pc + 3) lv st) : GU l D A B Z M d r s pc lv (.int x :: .ref (B + k) :: st) := fun σ0 σ hs => g_put hf ht hfin (hs.obj hk hc) hp hn hfit (by rw [ufs_len, hN]; exact hf.2.1) hd (k9 σ0 _ (hs.pI hk hc (by rw [hN]; exact hf.2.1) hfd))
theorem uu_putr {ix ci k f N : Nat} {C : String} {T : u_T} {x : Option Nat} {ft : FieldType} (hf : h_fl M.1.cls ix ci f C T N) (ht : (∃ t0 : Nat → FieldType, ∀ k, k < N → parseFieldDescriptor (T k).2.2.1 = some (t0 k)) ∧ (∀ a, a < N → ∀ b, b < N → a ≠ b → (T a).2.1 ≠ (T b).2.1)) (hfin : (T f).2.2.2 = false ∨ ((T f).2.2.2 = true ∧ M.1.name = "<init>" ∧ (T f).1 = M.1.cls)) (hN : uNf ci = N) (hk : uIs s k ci) (hc : ci < 20) (hfd : (ufd ci f).1 = 3) (hp : parseFieldDescriptor (T f).2.2.1 = some ft) (hn : narrow ft (va_rf (x.map (fun x => B + x))) = va_rf (x.map (fun x => B + x))) (hfit : fits ft (va_rf (x.map (fun x => B + x))) = true) (hd : decode M.2.1 pc = .ok (.putfield ix, 3)) (k9 : GU l D A B Z M d r (wR s k f x) (pc + 3) lv st) : GU l D A B Z M d r s pc lv (va_rf (x.map (fun x => B + x)) :: .ref (B + k) :: st) := fun σ0 σ hs => g_put hf ht hfin (hs.obj hk hc) hp hn hfit (by rw [ufs_len, hN]; exact hf.2.1) hd (k9 σ0 _ (hs.pR hk hc (by rw [hN]; exact hf.2.1) hfd))
theorem uu_iald {k : Nat} {i v : Int32} (h : iget 20 s k i = some v) (hd : decode M.2.1 pc = .ok (.iaload, 1)) (k9 : GU l D A B Z M d r s (pc + 1) lv (.int v :: st)) : GU l D A B Z M d r s pc lv (.int i :: .ref (B + k) :: st) := fun σ0 σ hs => by
  obtain ⟨⟨h1, h2⟩, h3⟩ := uu_grd h
  cases h3
  exact g_iald (t0 := 0) rfl (hs.arr h1 (by decide) (by decide)) h2 hd (k9 σ0 σ hs)
theorem uu_bald {k : Nat} {i v : Int32} (h : iget 21 s k i = some v) (hd : decode M.2.1 pc = .ok (.baload, 1)) (k9 : GU l D A B Z M d r s (pc + 1) lv (.int v :: st)) : GU l D A B Z M d r s pc lv (.int i :: .ref (B + k) :: st) := fun σ0 σ hs => by
  obtain ⟨⟨h1, h2⟩, h3⟩ := uu_grd h
  cases h3
  exact g_bald (t0 := 1) rfl (hs.arr h1 (by decide) (by decide)) h2 hd (k9 σ0 σ hs)
theorem uu_zald {k : Nat} {i v : Int32} (h : iget 22 s k i = some v) (hd : decode M.2.1 pc = .ok (.baload, 1)) (k9 : GU l D A B Z M d r s (pc + 1) lv (.int v :: st)) : GU l D A B Z M d r s pc lv (.int i :: .ref (B + k) :: st) := fun σ0 σ hs => by
  obtain ⟨⟨h1, h2⟩, h3⟩ := uu_grd h
  cases h3
  exact g_zald (t0 := 2) rfl (hs.arr h1 (by decide) (by decide)) h2 hd (k9 σ0 σ hs)
theorem uu_lald {k : Nat} {i : Int32} {v : Int64} (h : lget s k i = some v) (hd : decode M.2.1 pc = .ok (.laload, 1)) (k9 : GU l D A B Z M d r s (pc + 1) lv (.long v :: st)) : GU l D A B Z M d r s pc lv (.int i :: .ref (B + k) :: st) := fun σ0 σ hs => by
  obtain ⟨⟨h1, h2⟩, h3⟩ := uu_grd h
  cases h3
  exact g_lald (t0 := 3) rfl (hs.arl h1) h2 hd (k9 σ0 σ hs)
theorem uu_aald {t k v : Nat} {C : String} {i : Int32} (ht : (h_ty A)[t - 20]? = some (A (t - 20), .object C)) (h24 : 24 ≤ t) (h : pgt t s k i = some v) (hd : decode M.2.1 pc = .ok (.aaload, 1)) (k9 : GU l D A B Z M d r s (pc + 1) lv (.ref (B + v) :: st)) : GU l D A B Z M d r s pc lv (.int i :: .ref (B + k) :: st) := fun σ0 σ hs => by
  obtain ⟨⟨h1, h2⟩, h3⟩ := uu_grd h
  refine g_aald ht (hs.arq h1 h24) h2 hd ?_
  rw [h3]
  exact k9 σ0 σ hs
theorem uu_iast {k : Nat} {i v : Int32} {s1 : uS} (h : iput 20 s k i v = some s1) (hd : decode M.2.1 pc = .ok (.iastore, 1)) (k9 : GU l D A B Z M d r s1 (pc + 1) lv st) : GU l D A B Z M d r s pc lv (.int v :: .int i :: .ref (B + k) :: st) := fun σ0 σ hs => by
  obtain ⟨⟨h1, h2⟩, h3⟩ := uu_grd h
  cases h3
  exact g_iast (t0 := 0) rfl (hs.arr h1 (by decide) (by decide)) h2 hd (k9 σ0 _ (hs.pF h1 (by decide) (by decide) (fun e => absurd e (by decide))))
theorem uu_bast {k : Nat} {i v : Int32} {s1 : uS} (h : iput 21 s k i v = some s1) (hd : decode M.2.1 pc = .ok (.bastore, 1)) (k9 : GU l D A B Z M d r s1 (pc + 1) lv st) : GU l D A B Z M d r s pc lv (.int v :: .int i :: .ref (B + k) :: st) := fun σ0 σ hs => by
  obtain ⟨⟨h1, h2⟩, h3⟩ := uu_grd h
  cases h3
  exact g_bast (t0 := 1) rfl (hs.arr h1 (by decide) (by decide)) h2 hd (k9 σ0 _ (hs.pF h1 (by decide) (by decide) (fun _ => uby_nar _)))
theorem uu_zast {k : Nat} {i v : Int32} {s1 : uS} (h : iput 22 s k i v = some s1) (hd : decode M.2.1 pc = .ok (.bastore, 1)) (k9 : GU l D A B Z M d r s1 (pc + 1) lv st) : GU l D A B Z M d r s pc lv (.int v :: .int i :: .ref (B + k) :: st) := fun σ0 σ hs => by
  obtain ⟨⟨h1, h2⟩, h3⟩ := uu_grd h
  cases h3
  exact g_zast (t0 := 2) rfl (hs.arr h1 (by decide) (by decide)) h2 hd (k9 σ0 _ (hs.pF h1 (by decide) (by decide) (fun e => absurd e (by decide))))
theorem uu_last {k : Nat} {i : Int32} {v : Int64} {s1 : uS} (h : lput s k i v = some s1) (hd : decode M.2.1 pc = .ok (.lastore, 1)) (k9 : GU l D A B Z M d r s1 (pc + 1) lv st) : GU l D A B Z M d r s pc lv (.long v :: .int i :: .ref (B + k) :: st) := fun σ0 σ hs => by
  obtain ⟨⟨h1, h2⟩, h3⟩ := uu_grd h
  cases h3
  exact g_last (t0 := 3) rfl (hs.arl h1) h2 hd (k9 σ0 _ (hs.pL h1))
theorem uu_aast {k v : Nat} {i : Int32} {s1 : uS} (h : pput s k i v = some s1) (hd : decode M.2.1 pc = .ok (.aastore, 1)) (k9 : GU l D A B Z M d r s1 (pc + 1) lv st) : GU l D A B Z M d r s pc lv (.ref (B + v) :: .int i :: .ref (B + k) :: st) := fun σ0 σ hs => by
  obtain ⟨⟨h1, h2, h4⟩, h3⟩ := uu_grd h
  cases h3
  exact g_aast (t0 := 7) rfl (hs.arq h1 (by decide)) (hs.obj h4 (by decide)) rfl h2 hd (k9 σ0 _ (hs.pP h1))
theorem hty_ok {A : Nat → ClassId} {t : Nat} (h : t < 9) : ∃ et, (h_ty A)[t]? = some (A t, et) := by
  match t, h with
  | 0, _ => exact ⟨_, rfl⟩
  | 1, _ => exact ⟨_, rfl⟩
  | 2, _ => exact ⟨_, rfl⟩
  | 3, _ => exact ⟨_, rfl⟩
  | 4, _ => exact ⟨_, rfl⟩
  | 5, _ => exact ⟨_, rfl⟩
  | 6, _ => exact ⟨_, rfl⟩
  | 7, _ => exact ⟨_, rfl⟩
  | 8, _ => exact ⟨_, rfl⟩
  | n + 9, h => exact absurd h (by omega)
theorem uu_alen {k : Nat} {v : Int32} (h : ulen s k = some v) (hd : decode M.2.1 pc = .ok (.arraylength, 1)) (k9 : GU l D A B Z M d r s (pc + 1) lv (.int v :: st)) : GU l D A B Z M d r s pc lv (.ref (B + k) :: st) := fun σ0 σ hs => by
  obtain ⟨⟨h1, h2, h4⟩, h3⟩ := uu_grd h
  cases h3
  obtain ⟨et, he⟩ := hty_ok (A := A) (t := (uCl s k).1 - 20) (by omega)
  by_cases c1 : (uCl s k).1 < 23
  · exact g_aleni he (hs.arr ⟨h1, rfl⟩ h2 c1) hd (k9 σ0 σ hs)
  · by_cases c2 : (uCl s k).1 = 23
    · rw [c2] at he
      exact g_alenl he (hs.arl ⟨h1, c2⟩) hd (k9 σ0 σ hs)
    · exact g_alenq he (hs.arq ⟨h1, rfl⟩ (by omega)) hd (k9 σ0 σ hs)
theorem uu_tabE {dflt lo hi : Int} {offs : Array Int} {len : Nat} {x v : Int32} {off : Int} {tgt : Nat} (hdg : decode M.2.1 pc = .ok (.tableswitch dflt lo hi offs, len)) (hc : x = v) (h1 : ¬ v.toInt < lo) (h2 : ¬ hi < v.toInt) (ho : offs[(v.toInt - lo).toNat]? = some off) (ht : (pc : Int) + off = (tgt : Int)) (k9 : GU l D A B Z M d r s tgt lv st) : GU l D A B Z M d r s pc lv (.int x :: st) := by
  subst hc
  exact uu_tableIn hdg h1 h2 ho ht k9
theorem uu_zret2 {x : Int32} (h01 : x = 0 ∨ x = 1) (hr : M.2.2.2 = some .boolean) (hd : decode M.2.1 pc = .ok (.ireturn, 1)) : GU l D A B Z M d (s, some (.int (bI (decide (x = 1))))) s pc lv [.int x] := by
  rw [bI_d h01]
  exact uu_zret hr (bI_01 h01) hd
theorem uu_ldcwI {ix : Nat} {v : Int32} (hc : Jvm.Cond.constant M.1.cls ix v ∈ lw_g) (hd : decode M.2.1 pc = .ok (.ldc_w ix, 3)) (k9 : GU l D A B Z M d r s (pc + 3) lv (.int v :: st)) : GU l D A B Z M d r s pc lv st := fun σ0 σ hs => g_ldcwI hc hd (k9 σ0 σ hs)
theorem uu_lmin {ix : Nat} {x y : Int64} (hl : Cond.methodLink M.1.cls ix Lib.MathLoose.min_long.x ∈ lw_g) (h1 : 1 ≤ d) (hcat : (st.map fun v => v.category).sum ≤ 8) (hd : decode M.2.1 pc = .ok (.invokestatic ix, 3)) (k9 : GU l D A B Z M d r s (pc + 3) lv (.long (if y < x then y else x) :: st)) : GU l D A B Z M d r s pc lv (.long y :: .long x :: st) := fun σ0 σ hs => g_lmin hl h1 hcat hd (k9 σ0 σ hs)
theorem uu_mmax {ix : Nat} {x y : Int32} (hl : Cond.methodLink M.1.cls ix Lib.Math.max.name ∈ lw_g) (h1 : 1 ≤ d) (hcat : (st.map fun v => v.category).sum ≤ 8) (hd : decode M.2.1 pc = .ok (.invokestatic ix, 3)) (k9 : GU l D A B Z M d r s (pc + 3) lv (.int (if x < y then y else x) :: st)) : GU l D A B Z M d r s pc lv (.int y :: .int x :: st) := fun σ0 σ hs => g_mmax hl h1 hcat hd (k9 σ0 σ hs)
theorem uu_mmin {ix : Nat} {x y : Int32} (hl : Cond.methodLink M.1.cls ix Lib.Math.min.name ∈ lw_g) (h1 : 1 ≤ d) (hcat : (st.map fun v => v.category).sum ≤ 8) (hd : decode M.2.1 pc = .ok (.invokestatic ix, 3)) (k9 : GU l D A B Z M d r s (pc + 3) lv (.int (if y < x then y else x) :: st)) : GU l D A B Z M d r s pc lv (.int y :: .int x :: st) := fun σ0 σ hs => g_mmin hl h1 hcat hd (k9 σ0 σ hs)
theorem uu_cs {ix d1 : Nat} {M1 : hM} {As : List Value} {s1 : uS} {v : Option Value} {st' : List Value} (hC : CU l D A B Z d1 M1 s As (s1, v)) (hm : h_ml M1 As.length) (hl : Cond.methodLink M.1.cls ix M1.1 ∈ lw_g) (hs : Cond.static M1.1 ∈ lw_g) (hd1 : d1 + 1 ≤ d) (hcat : (st.map fun v => v.category).sum ≤ 8) (hd : decode M.2.1 pc = .ok (.invokestatic ix, 3)) (he : v.toList ++ st = st') (k9 : GU l D A B Z M d r s1 (pc + 3) lv st') : GU l D A B Z M d r s pc lv (As.reverse ++ st) := fun σ0 σ h => g_cs (hC σ h) hm hl hs hd1 hcat hd (fun σ1 w hp _ => by
  obtain ⟨h1, rfl⟩ := hp
  rw [he]
  exact k9 σ0 σ1 h1)
theorem uu_cv {ix d1 k : Nat} {M1 : hM} {As : List Value} {s1 : uS} {v : Option Value} {st' : List Value} {ci N : Nat} {T : u_T} (hC : CU l D A B Z d1 M1 s (.ref (B + k) :: As) (s1, v)) (hk : uIs s k ci) (hc : ci < 20) (hv : vwCl[ci]? = some (M1.1.cls, T, N)) (hm : h_ml M1 As.length) (hl : Cond.methodLink M.1.cls ix M1.1 ∈ lw_g) (hs : Cond.instanceMethod M1.1 ∈ lw_g ∧ Cond.selects M1.1.cls M1.1 M1.1 ∈ lw_g) (hd1 : d1 + 1 ≤ d) (hcat : (st.map fun v => v.category).sum ≤ 8) (hd : decode M.2.1 pc = .ok (.invokevirtual ix, 3)) (he : v.toList ++ st = st') (k9 : GU l D A B Z M d r s1 (pc + 3) lv st') : GU l D A B Z M d r s pc lv (As.reverse ++ .ref (B + k) :: st) := fun σ0 σ h => g_cv (hC σ h) (h_rcO (r := (M1.1.cls, T, N)) (h.obj hk hc) hv) hm hl hs hd1 hcat hd (fun σ1 w hp _ => by
  obtain ⟨h1, rfl⟩ := hp
  rw [he]
  exact k9 σ0 σ1 h1)
theorem uu_ldcS {ix q : Nat} {tx : String} (hk : ∀ (U : State) (H : Heap), Z U H → vk_R M.1.cls ix tx q U) (hd : decode M.2.1 pc = .ok (.ldc ix, 2)) (k9 : GU l D A B Z M d r s (pc + 2) lv (.ref q :: st)) : GU l D A B Z M d r s pc lv st := fun σ0 σ hs => g_ldcS hk hd (k9 σ0 σ hs)
theorem uu_ldcwS {ix q : Nat} {tx : String} (hk : ∀ (U : State) (H : Heap), Z U H → vk_R M.1.cls ix tx q U) (hd : decode M.2.1 pc = .ok (.ldc_w ix, 3)) (k9 : GU l D A B Z M d r s (pc + 3) lv (.ref q :: st)) : GU l D A B Z M d r s pc lv st := fun σ0 σ hs => g_ldcwS hk hd (k9 σ0 σ hs)
theorem uu_gets {ix : Nat} {C n de : String} {v : Value} (hz : ∀ (U : State) (H : Heap), Z U H → va_Z C n de v (fun q : Nat => B ≤ q) U H) (hl : Cond.fieldLink M.1.cls ix C n de ∈ lw_g) (hd : decode M.2.1 pc = .ok (.getstatic ix, 3)) (k9 : GU l D A B Z M d r s (pc + 3) lv (v :: st)) : GU l D A B Z M d r s pc lv st := fun σ0 σ hs => g_gets hz hl hd (k9 σ0 σ hs)
theorem uu_tlen {q : Nat} {xs : List Int32} (hz : ∀ (U : State) (H : Heap), Z U H → va_T .int q xs.length (fun j => .int (xs.getD j 0)) (fun q : Nat => B ≤ q) U H) (hd : decode M.2.1 pc = .ok (.arraylength, 1)) (k9 : GU l D A B Z M d r s (pc + 1) lv (.int (nI xs.length) :: st)) : GU l D A B Z M d r s pc lv (.ref q :: st) := fun σ0 σ hs => g_tlen hz hd (k9 σ0 σ hs)
theorem uu_ti {q : Nat} {xs : List Int32} {i v : Int32} (hz : ∀ (U : State) (H : Heap), Z U H → va_T .int q xs.length (fun j => .int (xs.getD j 0)) (fun q : Nat => B ≤ q) U H) (h : tget xs i = some v) (hd : decode M.2.1 pc = .ok (.iaload, 1)) (k9 : GU l D A B Z M d r s (pc + 1) lv (.int v :: st)) : GU l D A B Z M d r s pc lv (.int i :: .ref q :: st) := fun σ0 σ hs => by
  unfold tget at h
  by_cases hc : i < 0 ∨ xs.length ≤ i.toNatClampNeg
  · rw [if_pos hc] at h; cases h
  · rw [if_neg hc] at h
    cases h
    exact g_ti hz hc rfl hd (k9 σ0 σ hs)
theorem uu_slen {ix q w : Nat} {bs : List Nat} {vF : Value} (uk : uK B Z vF) (hq : uStr B Z q w bs) (hl : Cond.methodLink M.1.cls ix mJ0_length_8abf5.1 ∈ lw_g) (h2 : 2 ≤ d) (hcat : (st.map fun v => v.category).sum ≤ 8) (hd : decode M.2.1 pc = .ok (.invokevirtual ix, 3)) (k9 : GU l D A B Z M d r s (pc + 3) lv (.int (nI bs.length) :: st)) : GU l D A B Z M d r s pc lv (.ref q :: st) := fun σ0 σ hs => g_cv (d1 := 1) (As := []) (ct_len uk.1 hq.1 (Nat.le_refl _)) hq.1.rc kJ0_length_8abf5 hl sJ0_length_8abf5 h2 hcat hd (fun σ1 v h1 _ => by
  obtain ⟨rfl, rfl⟩ := h1
  exact k9 σ0 σ1 hs)
theorem uu_sch {ix q w : Nat} {bs : List Nat} {vF : Value} {i v : Int32} (uk : uK B Z vF) (hq : uStr B Z q w bs) (h : stget bs i = some v) (hl : Cond.methodLink M.1.cls ix mJ0_charAt_5068e.1 ∈ lw_g) (h2 : 4 ≤ d) (hcat : (st.map fun v => v.category).sum ≤ 8) (hd : decode M.2.1 pc = .ok (.invokevirtual ix, 3)) (k9 : GU l D A B Z M d r s (pc + 3) lv (.int v :: st)) : GU l D A B Z M d r s pc lv (.int i :: .ref q :: st) := fun σ0 σ hs => by
  unfold stget at h
  by_cases hc : i < 0 ∨ bs.length ≤ i.toNatClampNeg
  · rw [if_pos hc] at h; cases h
  · rw [if_neg hc] at h
    cases h
    have h0 : ¬ i < 0 := fun e => hc (Or.inl e)
    have h3 : i.toNatClampNeg < bs.length := Nat.not_le.mp fun e => hc (Or.inr e)
    have e : i = nI i.toNatClampNeg := (nI_self h0).symm
    generalize i.toNatClampNeg = j at *
    subst e
    exact g_cv (d1 := 3) (As := [.int (nI j)]) (ct_charAt uk.1 hq.1 h3 hq.2.1 hq.2.2 (Nat.le_refl _)) hq.1.rc kJ0_charAt_5068e hl sJ0_charAt_5068e h2 hcat hd (fun σ1 v h1 _ => by
      obtain ⟨rfl, rfl⟩ := h1
      exact k9 σ0 σ1 hs)
end HU
theorem so_0 : uSo 0 11 := by decide
theorem so_6 : uSo 6 4 := by decide
theorem so_7 : uSo 7 2 := by decide
theorem so_8 : uSo 8 9 := by decide
theorem so_1040 : uSo 1040 5 := by decide
theorem so_1042 : uSo 1042 0 := by decide
theorem so_1043 : uSo 1043 9 := by decide
theorem so_1047 : uSo 1047 9 := by decide
theorem so_1053 : uSo 1053 6 := by decide
theorem so_1054 : uSo 1054 9 := by decide
theorem so_1058 : uSo 1058 9 := by decide
theorem so_1062 : uSo 1062 9 := by decide
theorem so_1066 : uSo 1066 9 := by decide
theorem so_1070 : uSo 1070 7 := by decide
theorem so_1075 : uSo 1075 9 := by decide
theorem so_1079 : uSo 1079 12 := by decide
theorem so_parts {k : Nat} (h : uSo k 8) : uSo (k + 1) 9 := by
  have : ∀ k, k < 1171 → (ucl k).1 = 8 → uSo (k + 1) 9 := by decide +kernel
  exact this k h.1 h.2
theorem so_boxes {k : Nat} (h : uSo k 10) : uSo (k + 3) 9 := by
  have : ∀ k, k < 1171 → (ucl k).1 = 10 → uSo (k + 3) 9 := by decide +kernel
  exact this k h.1 h.2
