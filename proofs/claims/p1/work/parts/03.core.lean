/-! a light judgement over an abstract heap: cells by address; the heap's size; the slots in cells from B on -/
/-- the words that stay good through calls -/
def lw_g : List Cond := lw_tbl.filter goodWord
abbrev hS : Type := (Nat → Option va_E) × Nat × Nat
def h_CN : Nat := 600000
def h_CK : Nat := 7302250
def h_set (σ : hS) (a : Nat) (e : va_E) : hS := (fun b => if b = a then some e else σ.1 b, σ.2.1, σ.2.2)
def h_new (σ : hS) (e : va_E) (k : Nat) : hS := (fun b => if b = σ.2.1 then some e else σ.1 b, σ.2.1 + 1, σ.2.2 + k)
def h_sl (b : Nat) (H : Heap) : Nat := ((H.toList.drop b).map (fun c => c.slots.size)).sum
/-- a predicate on the constants, which lie below B, that no method changes -/
def h_st (B : Nat) (Z : State → Heap → Prop) : Prop := ∀ (U V : State) (H H1 : Heap), (U.WarmedH V.vm ∨ V.vm = U.vm) → (∀ q : Nat, q < B → H1[q]? = H[q]?) → Z U H → Z V H1
def h_cl (D : va_G) (B : Nat) (σ : hS) (H : Heap) : Prop := ∀ (a : Nat) (e : va_E), σ.1 a = some e → B ≤ a ∧ va_at D vwCl (a, e) H
def Rp (D : va_G) (ty : List (ClassId × FieldType)) (B : Nat) (Z : State → Heap → Prop) (σ : hS) (U : State) (H : Heap) : Prop :=
  va_K D vwCl ty U ∧ Z U H ∧ H.size = σ.2.1 ∧ h_sl B H = σ.2.2 ∧ B ≤ σ.2.1 ∧ σ.2.1 ≤ B + h_CN ∧ σ.2.2 ≤ h_CK ∧ h_cl D B σ H
/-- a method: its name, code, locals, what it returns -/
abbrev hM : Type := MethodName × ByteArray × Nat × Option FieldType
def h_rm (B d : Nat) (σ : hS) : Room := { frames := d, cells := B + h_CN - σ.2.1, slots := h_CK - σ.2.2, locals := 64 * d }
def h_Q (D : va_G) (ty : List (ClassId × FieldType)) (B : Nat) (Z : State → Heap → Prop) (P : hS → Option Value → Prop) : Array Value → State → Outcome → State → Prop :=
  fun _ st oc t => (∃ (v : Option Value) (σ1 : hS), oc = .returned v ∧ P σ1 v ∧ Rp D ty B Z σ1 t t.heap) ∧ va_F (fun q : Nat => B ≤ q) st t
/-- THE CONTRACT: from σ, with these arguments, the method returns, and P holds of the state then and the answer -/
def Ct (l : Launch) (D : va_G) (ty : List (ClassId × FieldType)) (B : Nat) (Z : State → Heap → Prop) (d : Nat) (M : hM) (σ : hS) (as : List Value) (P : hS → Option Value → Prop) : Prop :=
  Met l M.1 (Cond.code M.1 M.2.1 M.2.2.1 M.2.2.2 :: lw_g) (h_rm B d σ) (va_Pc as (fun U => Rp D ty B Z σ U U.heap)) (h_Q D ty B Z P) (B + h_CN - σ.2.1) (h_CK - σ.2.2) (fun q : Nat => B ≤ q)
def h_C (D : va_G) (ty : List (ClassId × FieldType)) (B : Nat) (Z : State → Heap → Prop) (M : hM) (σ0 : hS) (p : Program) (s : State) (m : MethodId) (args : Array Value) (meth : Method) (c : Code) : Prop :=
  p.tables.exec = Jvm.exec ∧ c.code = M.2.1 ∧ c.maxLocals = M.2.2.1 ∧ meth.sig.returnType = M.2.2.2 ∧ s.vm.findClass M.1.cls = some m.cls ∧ (∀ w ∈ lw_g, w.before args s = true) ∧ meth.locks = false ∧ meth.name = M.1.name ∧ h_st B Z ∧ Rp D ty B Z σ0 s s.heap
/-- THE JUDGEMENT: in a run of M that began in σ0, now at pc with the heap σ, the locals lv, the stack st, the end comes, with P -/
def G (l : Launch) (D : va_G) (ty : List (ClassId × FieldType)) (B : Nat) (Z : State → Heap → Prop) (M : hM) (d : Nat) (σ0 : hS) (P : hS → Option Value → Prop) (σ : hS) (pc : Nat) (lv : List (Nat × Value)) (st : List Value) : Prop :=
  ∀ (p : Program) (e : Env) (s : State) (m : MethodId) (args : Array Value) (below : List Frame) (meth : Method) (c : Code), h_C D ty B Z M σ0 p s m args meth c →
    ∀ (H : Heap) (locs : List Loc) (ls : Array Slot), Rp D ty B Z σ s H → va_S (fun q : Nat => B ≤ q) s.heap H locs → σ0.2.2 ≤ σ.2.2 → lv_has ls M.2.2.1 lv →
      W p l e (h_rm B d σ0) s m args below meth c H locs (σ.2.1 - σ0.2.1) (σ.2.2 - σ0.2.2) (MQ below (h_Q D ty B Z P) args s (B + h_CN - σ0.2.1) (h_CK - σ0.2.2) (fun q : Nat => B ≤ q)) (F0 m pc ls st)
section HG
variable {l : Launch} {D : va_G} {ty : List (ClassId × FieldType)} {B : Nat} {Z : State → Heap → Prop} {M : hM} {d : Nat} {σ0 σ : hS} {P : hS → Option Value → Prop} {pc : Nat} {lv : List (Nat × Value)} {st : List Value}
theorem g_iconst {n : Int} {v : Int32} (hdg : decode M.2.1 pc = .ok (.iconst n, 1)) (hv : Int32.ofInt n = v) (k9 : G l D ty B Z M d σ0 P σ (pc + 1) lv (.int v :: st)) : G l D ty B Z M d σ0 P σ pc lv (st) :=
  fun p e s m args below meth c C H locs ls hR hS h3 hl9 => lv_iconst C.1 C.2.1 hdg hv (k9 p e s m args below meth c C H locs ls hR hS h3 hl9)
theorem g_bipush {n : Int} {v : Int32} (hdg : decode M.2.1 pc = .ok (.bipush n, 2)) (hv : (Int8.ofInt n).toInt32 = v) (k9 : G l D ty B Z M d σ0 P σ (pc + 2) lv (.int v :: st)) : G l D ty B Z M d σ0 P σ pc lv (st) :=
  fun p e s m args below meth c C H locs ls hR hS h3 hl9 => lv_bipush C.1 C.2.1 hdg hv (k9 p e s m args below meth c C H locs ls hR hS h3 hl9)
theorem g_sipush {n : Int} {v : Int32} (hdg : decode M.2.1 pc = .ok (.sipush n, 3)) (hv : (Int16.ofInt n).toInt32 = v) (k9 : G l D ty B Z M d σ0 P σ (pc + 3) lv (.int v :: st)) : G l D ty B Z M d σ0 P σ pc lv (st) :=
  fun p e s m args below meth c C H locs ls hR hS h3 hl9 => lv_sipush C.1 C.2.1 hdg hv (k9 p e s m args below meth c C H locs ls hR hS h3 hl9)
theorem g_lconst {n : Fin 2} {v : Int64} (hdg : decode M.2.1 pc = .ok (.lconst n, 1)) (hv : Int64.ofNat (n : Nat) = v) (k9 : G l D ty B Z M d σ0 P σ (pc + 1) lv (.long v :: st)) : G l D ty B Z M d σ0 P σ pc lv (st) :=
  fun p e s m args below meth c C H locs ls hR hS h3 hl9 => lv_lconst C.1 C.2.1 hdg hv (k9 p e s m args below meth c C H locs ls hR hS h3 hl9)
theorem g_ldc {index : Nat} {v : Int32} (hconst : Jvm.Cond.constant M.1.cls index v ∈ lw_g) (hdg : decode M.2.1 pc = .ok (.ldc index, 2)) (k9 : G l D ty B Z M d σ0 P σ (pc + 2) lv (.int v :: st)) : G l D ty B Z M d σ0 P σ pc lv st :=
  fun p e s m args below meth c C H locs ls hR hS h3 hl9 => lv_ldc C.1 C.2.1 C.2.2.2.2.1 (C.2.2.2.2.2.1 _ hconst) hdg (k9 p e s m args below meth c C H locs ls hR hS h3 hl9)
theorem g_ldc2 {index : Nat} {v : Int64} (hconst : Jvm.Cond.constantLong M.1.cls index v ∈ lw_g) (hdg : decode M.2.1 pc = .ok (.ldc2_w index, 3)) (k9 : G l D ty B Z M d σ0 P σ (pc + 3) lv (.long v :: st)) : G l D ty B Z M d σ0 P σ pc lv st :=
  fun p e s m args below meth c C H locs ls hR hS h3 hl9 => lv_ldc2 C.1 C.2.1 C.2.2.2.2.1 (C.2.2.2.2.2.1 _ hconst) hdg (k9 p e s m args below meth c C H locs ls hR hS h3 hl9)
theorem g_iload_n {k : Fin 4} {i : Nat} {x : Int32} (hdg : decode M.2.1 pc = .ok (.iload_n k, 1)) (hi : (k : Nat) = i) (hl : (i, ((.int x) : Value)) ∈ lv) (k9 : G l D ty B Z M d σ0 P σ (pc + 1) lv (.int x :: st)) : G l D ty B Z M d σ0 P σ pc lv (st) :=
  fun p e s m args below meth c C H locs ls hR hS h3 hl9 => lv_iload_n C.1 C.2.1 hdg hi (hl9.2.2 _ hl) (k9 p e s m args below meth c C H locs ls hR hS h3 hl9)
theorem g_iload {i : Nat} {x : Int32} (hdg : decode M.2.1 pc = .ok (.iload i, 2)) (hl : (i, ((.int x) : Value)) ∈ lv) (k9 : G l D ty B Z M d σ0 P σ (pc + 2) lv (.int x :: st)) : G l D ty B Z M d σ0 P σ pc lv (st) :=
  fun p e s m args below meth c C H locs ls hR hS h3 hl9 => lv_iload C.1 C.2.1 hdg (hl9.2.2 _ hl) (k9 p e s m args below meth c C H locs ls hR hS h3 hl9)
theorem g_lload_n {k : Fin 4} {i : Nat} {x : Int64} (hdg : decode M.2.1 pc = .ok (.lload_n k, 1)) (hi : (k : Nat) = i) (hl : (i, ((.long x) : Value)) ∈ lv) (k9 : G l D ty B Z M d σ0 P σ (pc + 1) lv (.long x :: st)) : G l D ty B Z M d σ0 P σ pc lv (st) :=
  fun p e s m args below meth c C H locs ls hR hS h3 hl9 => lv_lload_n C.1 C.2.1 hdg hi (hl9.2.2 _ hl) (k9 p e s m args below meth c C H locs ls hR hS h3 hl9)
theorem g_lload {i : Nat} {x : Int64} (hdg : decode M.2.1 pc = .ok (.lload i, 2)) (hl : (i, ((.long x) : Value)) ∈ lv) (k9 : G l D ty B Z M d σ0 P σ (pc + 2) lv (.long x :: st)) : G l D ty B Z M d σ0 P σ pc lv (st) :=
  fun p e s m args below meth c C H locs ls hR hS h3 hl9 => lv_lload C.1 C.2.1 hdg (hl9.2.2 _ hl) (k9 p e s m args below meth c C H locs ls hR hS h3 hl9)
theorem g_aload_n {k : Fin 4} {i : Nat} {x : Nat} (hdg : decode M.2.1 pc = .ok (.aload_n k, 1)) (hi : (k : Nat) = i) (hl : (i, ((.ref x) : Value)) ∈ lv) (k9 : G l D ty B Z M d σ0 P σ (pc + 1) lv (.ref x :: st)) : G l D ty B Z M d σ0 P σ pc lv (st) :=
  fun p e s m args below meth c C H locs ls hR hS h3 hl9 => lv_aload_n C.1 C.2.1 hdg hi (hl9.2.2 _ hl) (k9 p e s m args below meth c C H locs ls hR hS h3 hl9)
theorem g_aload {i : Nat} {x : Nat} (hdg : decode M.2.1 pc = .ok (.aload i, 2)) (hl : (i, ((.ref x) : Value)) ∈ lv) (k9 : G l D ty B Z M d σ0 P σ (pc + 2) lv (.ref x :: st)) : G l D ty B Z M d σ0 P σ pc lv (st) :=
  fun p e s m args below meth c C H locs ls hR hS h3 hl9 => lv_aload C.1 C.2.1 hdg (hl9.2.2 _ hl) (k9 p e s m args below meth c C H locs ls hR hS h3 hl9)
theorem g_aload_nN {k : Fin 4} {i : Nat} (hdg : decode M.2.1 pc = .ok (.aload_n k, 1)) (hi : (k : Nat) = i) (hl : (i, ((.null) : Value)) ∈ lv) (k9 : G l D ty B Z M d σ0 P σ (pc + 1) lv (.null :: st)) : G l D ty B Z M d σ0 P σ pc lv (st) :=
  fun p e s m args below meth c C H locs ls hR hS h3 hl9 => lv_aload_nN C.1 C.2.1 hdg hi (hl9.2.2 _ hl) (k9 p e s m args below meth c C H locs ls hR hS h3 hl9)
theorem g_aloadN {i : Nat} (hdg : decode M.2.1 pc = .ok (.aload i, 2)) (hl : (i, ((.null) : Value)) ∈ lv) (k9 : G l D ty B Z M d σ0 P σ (pc + 2) lv (.null :: st)) : G l D ty B Z M d σ0 P σ pc lv (st) :=
  fun p e s m args below meth c C H locs ls hR hS h3 hl9 => lv_aloadN C.1 C.2.1 hdg (hl9.2.2 _ hl) (k9 p e s m args below meth c C H locs ls hR hS h3 hl9)
theorem g_iadd {x y : Int32} (hdg : decode M.2.1 pc = .ok (.iadd, 1)) (k9 : G l D ty B Z M d σ0 P σ (pc + 1) lv (.int (x + y) :: st)) : G l D ty B Z M d σ0 P σ pc lv (.int y :: .int x :: st) :=
  fun p e s m args below meth c C H locs ls hR hS h3 hl9 => lv_iadd C.1 C.2.1 hdg (k9 p e s m args below meth c C H locs ls hR hS h3 hl9)
theorem g_isub {x y : Int32} (hdg : decode M.2.1 pc = .ok (.isub, 1)) (k9 : G l D ty B Z M d σ0 P σ (pc + 1) lv (.int (x - y) :: st)) : G l D ty B Z M d σ0 P σ pc lv (.int y :: .int x :: st) :=
  fun p e s m args below meth c C H locs ls hR hS h3 hl9 => lv_isub C.1 C.2.1 hdg (k9 p e s m args below meth c C H locs ls hR hS h3 hl9)
theorem g_imul {x y : Int32} (hdg : decode M.2.1 pc = .ok (.imul, 1)) (k9 : G l D ty B Z M d σ0 P σ (pc + 1) lv (.int (x * y) :: st)) : G l D ty B Z M d σ0 P σ pc lv (.int y :: .int x :: st) :=
  fun p e s m args below meth c C H locs ls hR hS h3 hl9 => lv_imul C.1 C.2.1 hdg (k9 p e s m args below meth c C H locs ls hR hS h3 hl9)
theorem g_iand {x y : Int32} (hdg : decode M.2.1 pc = .ok (.iand, 1)) (k9 : G l D ty B Z M d σ0 P σ (pc + 1) lv (.int (x &&& y) :: st)) : G l D ty B Z M d σ0 P σ pc lv (.int y :: .int x :: st) :=
  fun p e s m args below meth c C H locs ls hR hS h3 hl9 => lv_iand C.1 C.2.1 hdg (k9 p e s m args below meth c C H locs ls hR hS h3 hl9)
theorem g_ior {x y : Int32} (hdg : decode M.2.1 pc = .ok (.ior, 1)) (k9 : G l D ty B Z M d σ0 P σ (pc + 1) lv (.int (x ||| y) :: st)) : G l D ty B Z M d σ0 P σ pc lv (.int y :: .int x :: st) :=
  fun p e s m args below meth c C H locs ls hR hS h3 hl9 => lv_ior C.1 C.2.1 hdg (k9 p e s m args below meth c C H locs ls hR hS h3 hl9)
theorem g_ixor {x y : Int32} (hdg : decode M.2.1 pc = .ok (.ixor, 1)) (k9 : G l D ty B Z M d σ0 P σ (pc + 1) lv (.int (x ^^^ y) :: st)) : G l D ty B Z M d σ0 P σ pc lv (.int y :: .int x :: st) :=
  fun p e s m args below meth c C H locs ls hR hS h3 hl9 => lv_ixor C.1 C.2.1 hdg (k9 p e s m args below meth c C H locs ls hR hS h3 hl9)
theorem g_idiv {x y : Int32} (hdg : decode M.2.1 pc = .ok (.idiv, 1)) (hne : ¬ y = 0) (k9 : G l D ty B Z M d σ0 P σ (pc + 1) lv (.int (x / y) :: st)) : G l D ty B Z M d σ0 P σ pc lv (.int y :: .int x :: st) :=
  fun p e s m args below meth c C H locs ls hR hS h3 hl9 => lv_idiv C.1 C.2.1 hdg hne (k9 p e s m args below meth c C H locs ls hR hS h3 hl9)
theorem g_irem {x y : Int32} (hdg : decode M.2.1 pc = .ok (.irem, 1)) (hne : ¬ y = 0) (k9 : G l D ty B Z M d σ0 P σ (pc + 1) lv (.int (x - x / y * y) :: st)) : G l D ty B Z M d σ0 P σ pc lv (.int y :: .int x :: st) :=
  fun p e s m args below meth c C H locs ls hR hS h3 hl9 => lv_irem C.1 C.2.1 hdg hne (k9 p e s m args below meth c C H locs ls hR hS h3 hl9)
theorem g_ineg {x : Int32} (hdg : decode M.2.1 pc = .ok (.ineg, 1)) (k9 : G l D ty B Z M d σ0 P σ (pc + 1) lv (.int (-x) :: st)) : G l D ty B Z M d σ0 P σ pc lv (.int x :: st) :=
  fun p e s m args below meth c C H locs ls hR hS h3 hl9 => lv_ineg C.1 C.2.1 hdg (k9 p e s m args below meth c C H locs ls hR hS h3 hl9)
theorem g_ladd {x y : Int64} (hdg : decode M.2.1 pc = .ok (.ladd, 1)) (k9 : G l D ty B Z M d σ0 P σ (pc + 1) lv (.long (x + y) :: st)) : G l D ty B Z M d σ0 P σ pc lv (.long y :: .long x :: st) :=
  fun p e s m args below meth c C H locs ls hR hS h3 hl9 => lv_ladd C.1 C.2.1 hdg (k9 p e s m args below meth c C H locs ls hR hS h3 hl9)
theorem g_lsub {x y : Int64} (hdg : decode M.2.1 pc = .ok (.lsub, 1)) (k9 : G l D ty B Z M d σ0 P σ (pc + 1) lv (.long (x - y) :: st)) : G l D ty B Z M d σ0 P σ pc lv (.long y :: .long x :: st) :=
  fun p e s m args below meth c C H locs ls hR hS h3 hl9 => lv_lsub C.1 C.2.1 hdg (k9 p e s m args below meth c C H locs ls hR hS h3 hl9)
theorem g_lmul {x y : Int64} (hdg : decode M.2.1 pc = .ok (.lmul, 1)) (k9 : G l D ty B Z M d σ0 P σ (pc + 1) lv (.long (x * y) :: st)) : G l D ty B Z M d σ0 P σ pc lv (.long y :: .long x :: st) :=
  fun p e s m args below meth c C H locs ls hR hS h3 hl9 => lv_lmul C.1 C.2.1 hdg (k9 p e s m args below meth c C H locs ls hR hS h3 hl9)
theorem g_land {x y : Int64} (hdg : decode M.2.1 pc = .ok (.land, 1)) (k9 : G l D ty B Z M d σ0 P σ (pc + 1) lv (.long (x &&& y) :: st)) : G l D ty B Z M d σ0 P σ pc lv (.long y :: .long x :: st) :=
  fun p e s m args below meth c C H locs ls hR hS h3 hl9 => lv_land C.1 C.2.1 hdg (k9 p e s m args below meth c C H locs ls hR hS h3 hl9)
theorem g_lor {x y : Int64} (hdg : decode M.2.1 pc = .ok (.lor, 1)) (k9 : G l D ty B Z M d σ0 P σ (pc + 1) lv (.long (x ||| y) :: st)) : G l D ty B Z M d σ0 P σ pc lv (.long y :: .long x :: st) :=
  fun p e s m args below meth c C H locs ls hR hS h3 hl9 => lv_lor C.1 C.2.1 hdg (k9 p e s m args below meth c C H locs ls hR hS h3 hl9)
theorem g_lxor {x y : Int64} (hdg : decode M.2.1 pc = .ok (.lxor, 1)) (k9 : G l D ty B Z M d σ0 P σ (pc + 1) lv (.long (x ^^^ y) :: st)) : G l D ty B Z M d σ0 P σ pc lv (.long y :: .long x :: st) :=
  fun p e s m args below meth c C H locs ls hR hS h3 hl9 => lv_lxor C.1 C.2.1 hdg (k9 p e s m args below meth c C H locs ls hR hS h3 hl9)
theorem g_ldiv {x y : Int64} (hdg : decode M.2.1 pc = .ok (.ldiv, 1)) (hne : ¬ y = 0) (k9 : G l D ty B Z M d σ0 P σ (pc + 1) lv (.long (x / y) :: st)) : G l D ty B Z M d σ0 P σ pc lv (.long y :: .long x :: st) :=
  fun p e s m args below meth c C H locs ls hR hS h3 hl9 => lv_ldiv C.1 C.2.1 hdg hne (k9 p e s m args below meth c C H locs ls hR hS h3 hl9)
theorem g_lrem {x y : Int64} (hdg : decode M.2.1 pc = .ok (.lrem, 1)) (hne : ¬ y = 0) (k9 : G l D ty B Z M d σ0 P σ (pc + 1) lv (.long (x - x / y * y) :: st)) : G l D ty B Z M d σ0 P σ pc lv (.long y :: .long x :: st) :=
  fun p e s m args below meth c C H locs ls hR hS h3 hl9 => lv_lrem C.1 C.2.1 hdg hne (k9 p e s m args below meth c C H locs ls hR hS h3 hl9)
theorem g_ishl {x y : Int32} (hdg : decode M.2.1 pc = .ok (.ishl, 1)) (k9 : G l D ty B Z M d σ0 P σ (pc + 1) lv (.int (x <<< (y &&& 31)) :: st)) : G l D ty B Z M d σ0 P σ pc lv (.int y :: .int x :: st) :=
  fun p e s m args below meth c C H locs ls hR hS h3 hl9 => lv_ishl C.1 C.2.1 hdg (k9 p e s m args below meth c C H locs ls hR hS h3 hl9)
theorem g_ishr {x y : Int32} (hdg : decode M.2.1 pc = .ok (.ishr, 1)) (k9 : G l D ty B Z M d σ0 P σ (pc + 1) lv (.int (x >>> (y &&& 31)) :: st)) : G l D ty B Z M d σ0 P σ pc lv (.int y :: .int x :: st) :=
  fun p e s m args below meth c C H locs ls hR hS h3 hl9 => lv_ishr C.1 C.2.1 hdg (k9 p e s m args below meth c C H locs ls hR hS h3 hl9)
theorem g_iushr {x y v : Int32} (hdg : decode M.2.1 pc = .ok (.iushr, 1)) (hv : (x.toUInt32 >>> (y.toUInt32 &&& Int32.toUInt32 31)).toInt32 = v) (k9 : G l D ty B Z M d σ0 P σ (pc + 1) lv (.int v :: st)) : G l D ty B Z M d σ0 P σ pc lv (.int y :: .int x :: st) :=
  fun p e s m args below meth c C H locs ls hR hS h3 hl9 => lv_iushr C.1 C.2.1 hdg hv (k9 p e s m args below meth c C H locs ls hR hS h3 hl9)
theorem g_lshl {x v : Int64} {y : Int32} (hdg : decode M.2.1 pc = .ok (.lshl, 1)) (hv : x <<< (y.toInt64 &&& 63) = v) (k9 : G l D ty B Z M d σ0 P σ (pc + 1) lv (.long v :: st)) : G l D ty B Z M d σ0 P σ pc lv (.int y :: .long x :: st) :=
  fun p e s m args below meth c C H locs ls hR hS h3 hl9 => lv_lshl C.1 C.2.1 hdg hv (k9 p e s m args below meth c C H locs ls hR hS h3 hl9)
theorem g_lshr {x v : Int64} {y : Int32} (hdg : decode M.2.1 pc = .ok (.lshr, 1)) (hv : x >>> (y.toInt64 &&& 63) = v) (k9 : G l D ty B Z M d σ0 P σ (pc + 1) lv (.long v :: st)) : G l D ty B Z M d σ0 P σ pc lv (.int y :: .long x :: st) :=
  fun p e s m args below meth c C H locs ls hR hS h3 hl9 => lv_lshr C.1 C.2.1 hdg hv (k9 p e s m args below meth c C H locs ls hR hS h3 hl9)
theorem g_lushr {x v : Int64} {y : Int32} (hdg : decode M.2.1 pc = .ok (.lushr, 1)) (hv : (x.toUInt64 >>> (y.toInt64.toUInt64 &&& Int64.toUInt64 63)).toInt64 = v) (k9 : G l D ty B Z M d σ0 P σ (pc + 1) lv (.long v :: st)) : G l D ty B Z M d σ0 P σ pc lv (.int y :: .long x :: st) :=
  fun p e s m args below meth c C H locs ls hR hS h3 hl9 => lv_lushr C.1 C.2.1 hdg hv (k9 p e s m args below meth c C H locs ls hR hS h3 hl9)
theorem g_i2l {x : Int32} {v : Int64} (hdg : decode M.2.1 pc = .ok (.i2l, 1)) (hv : x.toInt64 = v) (k9 : G l D ty B Z M d σ0 P σ (pc + 1) lv (.long v :: st)) : G l D ty B Z M d σ0 P σ pc lv (.int x :: st) :=
  fun p e s m args below meth c C H locs ls hR hS h3 hl9 => lv_i2l C.1 C.2.1 hdg hv (k9 p e s m args below meth c C H locs ls hR hS h3 hl9)
theorem g_l2i {x : Int64} {v : Int32} (hdg : decode M.2.1 pc = .ok (.l2i, 1)) (hv : x.toInt32 = v) (k9 : G l D ty B Z M d σ0 P σ (pc + 1) lv (.int v :: st)) : G l D ty B Z M d σ0 P σ pc lv (.long x :: st) :=
  fun p e s m args below meth c C H locs ls hR hS h3 hl9 => lv_l2i C.1 C.2.1 hdg hv (k9 p e s m args below meth c C H locs ls hR hS h3 hl9)
theorem g_i2b {x : Int32} {v : Int32} (hdg : decode M.2.1 pc = .ok (.i2b, 1)) (hv : x.toInt8.toInt32 = v) (k9 : G l D ty B Z M d σ0 P σ (pc + 1) lv (.int v :: st)) : G l D ty B Z M d σ0 P σ pc lv (.int x :: st) :=
  fun p e s m args below meth c C H locs ls hR hS h3 hl9 => lv_i2b C.1 C.2.1 hdg hv (k9 p e s m args below meth c C H locs ls hR hS h3 hl9)
theorem g_i2c {x : Int32} {v : Int32} (hdg : decode M.2.1 pc = .ok (.i2c, 1)) (hv : (x.toUInt32 % 65536).toInt32 = v) (k9 : G l D ty B Z M d σ0 P σ (pc + 1) lv (.int v :: st)) : G l D ty B Z M d σ0 P σ pc lv (.int x :: st) :=
  fun p e s m args below meth c C H locs ls hR hS h3 hl9 => lv_i2c C.1 C.2.1 hdg hv (k9 p e s m args below meth c C H locs ls hR hS h3 hl9)
theorem g_dup {va : Value} (hdg : decode M.2.1 pc = .ok (.dup, 1)) (hva : va.category = 1) (k9 : G l D ty B Z M d σ0 P σ (pc + 1) lv (va :: va :: st)) : G l D ty B Z M d σ0 P σ pc lv (va :: st) :=
  fun p e s m args below meth c C H locs ls hR hS h3 hl9 => lv_dup C.1 C.2.1 hdg hva (k9 p e s m args below meth c C H locs ls hR hS h3 hl9)
theorem g_pop {va : Value} (hdg : decode M.2.1 pc = .ok (.pop, 1)) (hva : va.category = 1) (k9 : G l D ty B Z M d σ0 P σ (pc + 1) lv (st)) : G l D ty B Z M d σ0 P σ pc lv (va :: st) :=
  fun p e s m args below meth c C H locs ls hR hS h3 hl9 => lv_pop C.1 C.2.1 hdg hva (k9 p e s m args below meth c C H locs ls hR hS h3 hl9)
theorem g_dup_x1 {va vb : Value} (hdg : decode M.2.1 pc = .ok (.dup_x1, 1)) (hva : va.category = 1) (hvb : vb.category = 1) (k9 : G l D ty B Z M d σ0 P σ (pc + 1) lv (va :: vb :: va :: st)) : G l D ty B Z M d σ0 P σ pc lv (va :: vb :: st) :=
  fun p e s m args below meth c C H locs ls hR hS h3 hl9 => lv_dup_x1 C.1 C.2.1 hdg hva hvb (k9 p e s m args below meth c C H locs ls hR hS h3 hl9)
theorem g_dup_x2 {va vb vd : Value} (hdg : decode M.2.1 pc = .ok (.dup_x2, 1)) (hva : va.category = 1) (hvb : vb.category = 1) (hvd : vd.category = 1) (k9 : G l D ty B Z M d σ0 P σ (pc + 1) lv (va :: vb :: vd :: va :: st)) : G l D ty B Z M d σ0 P σ pc lv (va :: vb :: vd :: st) :=
  fun p e s m args below meth c C H locs ls hR hS h3 hl9 => lv_dup_x2 C.1 C.2.1 hdg hva hvb hvd (k9 p e s m args below meth c C H locs ls hR hS h3 hl9)
theorem g_dup2_11 {va vb : Value} (hdg : decode M.2.1 pc = .ok (.dup2, 1)) (hva : va.category = 1) (hvb : vb.category = 1) (k9 : G l D ty B Z M d σ0 P σ (pc + 1) lv (va :: vb :: va :: vb :: st)) : G l D ty B Z M d σ0 P σ pc lv (va :: vb :: st) :=
  fun p e s m args below meth c C H locs ls hR hS h3 hl9 => lv_dup2_11 C.1 C.2.1 hdg hva hvb (k9 p e s m args below meth c C H locs ls hR hS h3 hl9)
theorem g_dup2_2 {va : Value} (hdg : decode M.2.1 pc = .ok (.dup2, 1)) (hva : va.category = 2) (k9 : G l D ty B Z M d σ0 P σ (pc + 1) lv (va :: va :: st)) : G l D ty B Z M d σ0 P σ pc lv (va :: st) :=
  fun p e s m args below meth c C H locs ls hR hS h3 hl9 => lv_dup2_2 C.1 C.2.1 hdg hva (k9 p e s m args below meth c C H locs ls hR hS h3 hl9)
theorem g_pop2_2 {va : Value} (hdg : decode M.2.1 pc = .ok (.pop2, 1)) (hva : va.category = 2) (k9 : G l D ty B Z M d σ0 P σ (pc + 1) lv (st)) : G l D ty B Z M d σ0 P σ pc lv (va :: st) :=
  fun p e s m args below meth c C H locs ls hR hS h3 hl9 => lv_pop2_2 C.1 C.2.1 hdg hva (k9 p e s m args below meth c C H locs ls hR hS h3 hl9)
theorem g_pop2_11 {va vb : Value} (hdg : decode M.2.1 pc = .ok (.pop2, 1)) (hva : va.category = 1) (hvb : vb.category = 1) (k9 : G l D ty B Z M d σ0 P σ (pc + 1) lv (st)) : G l D ty B Z M d σ0 P σ pc lv (va :: vb :: st) :=
  fun p e s m args below meth c C H locs ls hR hS h3 hl9 => lv_pop2_11 C.1 C.2.1 hdg hva hvb (k9 p e s m args below meth c C H locs ls hR hS h3 hl9)
theorem g_if_eq {x : Int32} {off : Int} {tgt : Nat} (hdg : decode M.2.1 pc = .ok (.ifCond .eq off, 3)) (ht : (pc : Int) + off = (tgt : Int)) (kt : x = 0 → G l D ty B Z M d σ0 P σ tgt lv st) (kf : ¬ x = 0 → G l D ty B Z M d σ0 P σ (pc + 3) lv st) : G l D ty B Z M d σ0 P σ pc lv (.int x :: st) :=
  fun p e s m args below meth c C H locs ls hR hS h3 hl9 => lv_if_eq C.1 C.2.1 hdg ht (fun q9 => kt q9 p e s m args below meth c C H locs ls hR hS h3 hl9) (fun q9 => kf q9 p e s m args below meth c C H locs ls hR hS h3 hl9)
theorem g_if_ne {x : Int32} {off : Int} {tgt : Nat} (hdg : decode M.2.1 pc = .ok (.ifCond .ne off, 3)) (ht : (pc : Int) + off = (tgt : Int)) (kt : ¬ x = 0 → G l D ty B Z M d σ0 P σ tgt lv st) (kf : x = 0 → G l D ty B Z M d σ0 P σ (pc + 3) lv st) : G l D ty B Z M d σ0 P σ pc lv (.int x :: st) :=
  fun p e s m args below meth c C H locs ls hR hS h3 hl9 => lv_if_ne C.1 C.2.1 hdg ht (fun q9 => kt q9 p e s m args below meth c C H locs ls hR hS h3 hl9) (fun q9 => kf q9 p e s m args below meth c C H locs ls hR hS h3 hl9)
theorem g_if_lt {x : Int32} {off : Int} {tgt : Nat} (hdg : decode M.2.1 pc = .ok (.ifCond .lt off, 3)) (ht : (pc : Int) + off = (tgt : Int)) (kt : x < 0 → G l D ty B Z M d σ0 P σ tgt lv st) (kf : ¬ x < 0 → G l D ty B Z M d σ0 P σ (pc + 3) lv st) : G l D ty B Z M d σ0 P σ pc lv (.int x :: st) :=
  fun p e s m args below meth c C H locs ls hR hS h3 hl9 => lv_if_lt C.1 C.2.1 hdg ht (fun q9 => kt q9 p e s m args below meth c C H locs ls hR hS h3 hl9) (fun q9 => kf q9 p e s m args below meth c C H locs ls hR hS h3 hl9)
theorem g_if_ge {x : Int32} {off : Int} {tgt : Nat} (hdg : decode M.2.1 pc = .ok (.ifCond .ge off, 3)) (ht : (pc : Int) + off = (tgt : Int)) (kt : 0 ≤ x → G l D ty B Z M d σ0 P σ tgt lv st) (kf : ¬ 0 ≤ x → G l D ty B Z M d σ0 P σ (pc + 3) lv st) : G l D ty B Z M d σ0 P σ pc lv (.int x :: st) :=
  fun p e s m args below meth c C H locs ls hR hS h3 hl9 => lv_if_ge C.1 C.2.1 hdg ht (fun q9 => kt q9 p e s m args below meth c C H locs ls hR hS h3 hl9) (fun q9 => kf q9 p e s m args below meth c C H locs ls hR hS h3 hl9)
theorem g_if_gt {x : Int32} {off : Int} {tgt : Nat} (hdg : decode M.2.1 pc = .ok (.ifCond .gt off, 3)) (ht : (pc : Int) + off = (tgt : Int)) (kt : 0 < x → G l D ty B Z M d σ0 P σ tgt lv st) (kf : ¬ 0 < x → G l D ty B Z M d σ0 P σ (pc + 3) lv st) : G l D ty B Z M d σ0 P σ pc lv (.int x :: st) :=
  fun p e s m args below meth c C H locs ls hR hS h3 hl9 => lv_if_gt C.1 C.2.1 hdg ht (fun q9 => kt q9 p e s m args below meth c C H locs ls hR hS h3 hl9) (fun q9 => kf q9 p e s m args below meth c C H locs ls hR hS h3 hl9)
theorem g_if_le {x : Int32} {off : Int} {tgt : Nat} (hdg : decode M.2.1 pc = .ok (.ifCond .le off, 3)) (ht : (pc : Int) + off = (tgt : Int)) (kt : x ≤ 0 → G l D ty B Z M d σ0 P σ tgt lv st) (kf : ¬ x ≤ 0 → G l D ty B Z M d σ0 P σ (pc + 3) lv st) : G l D ty B Z M d σ0 P σ pc lv (.int x :: st) :=
  fun p e s m args below meth c C H locs ls hR hS h3 hl9 => lv_if_le C.1 C.2.1 hdg ht (fun q9 => kt q9 p e s m args below meth c C H locs ls hR hS h3 hl9) (fun q9 => kf q9 p e s m args below meth c C H locs ls hR hS h3 hl9)
theorem g_icmp_eq {x y : Int32} {off : Int} {tgt : Nat} (hdg : decode M.2.1 pc = .ok (.if_icmp .eq off, 3)) (ht : (pc : Int) + off = (tgt : Int)) (kt : x = y → G l D ty B Z M d σ0 P σ tgt lv st) (kf : ¬ x = y → G l D ty B Z M d σ0 P σ (pc + 3) lv st) : G l D ty B Z M d σ0 P σ pc lv (.int y :: .int x :: st) :=
  fun p e s m args below meth c C H locs ls hR hS h3 hl9 => lv_icmp_eq C.1 C.2.1 hdg ht (fun q9 => kt q9 p e s m args below meth c C H locs ls hR hS h3 hl9) (fun q9 => kf q9 p e s m args below meth c C H locs ls hR hS h3 hl9)
theorem g_icmp_ne {x y : Int32} {off : Int} {tgt : Nat} (hdg : decode M.2.1 pc = .ok (.if_icmp .ne off, 3)) (ht : (pc : Int) + off = (tgt : Int)) (kt : ¬ x = y → G l D ty B Z M d σ0 P σ tgt lv st) (kf : x = y → G l D ty B Z M d σ0 P σ (pc + 3) lv st) : G l D ty B Z M d σ0 P σ pc lv (.int y :: .int x :: st) :=
  fun p e s m args below meth c C H locs ls hR hS h3 hl9 => lv_icmp_ne C.1 C.2.1 hdg ht (fun q9 => kt q9 p e s m args below meth c C H locs ls hR hS h3 hl9) (fun q9 => kf q9 p e s m args below meth c C H locs ls hR hS h3 hl9)
theorem g_icmp_lt {x y : Int32} {off : Int} {tgt : Nat} (hdg : decode M.2.1 pc = .ok (.if_icmp .lt off, 3)) (ht : (pc : Int) + off = (tgt : Int)) (kt : x < y → G l D ty B Z M d σ0 P σ tgt lv st) (kf : ¬ x < y → G l D ty B Z M d σ0 P σ (pc + 3) lv st) : G l D ty B Z M d σ0 P σ pc lv (.int y :: .int x :: st) :=
  fun p e s m args below meth c C H locs ls hR hS h3 hl9 => lv_icmp_lt C.1 C.2.1 hdg ht (fun q9 => kt q9 p e s m args below meth c C H locs ls hR hS h3 hl9) (fun q9 => kf q9 p e s m args below meth c C H locs ls hR hS h3 hl9)
theorem g_icmp_ge {x y : Int32} {off : Int} {tgt : Nat} (hdg : decode M.2.1 pc = .ok (.if_icmp .ge off, 3)) (ht : (pc : Int) + off = (tgt : Int)) (kt : y ≤ x → G l D ty B Z M d σ0 P σ tgt lv st) (kf : ¬ y ≤ x → G l D ty B Z M d σ0 P σ (pc + 3) lv st) : G l D ty B Z M d σ0 P σ pc lv (.int y :: .int x :: st) :=
  fun p e s m args below meth c C H locs ls hR hS h3 hl9 => lv_icmp_ge C.1 C.2.1 hdg ht (fun q9 => kt q9 p e s m args below meth c C H locs ls hR hS h3 hl9) (fun q9 => kf q9 p e s m args below meth c C H locs ls hR hS h3 hl9)
theorem g_icmp_gt {x y : Int32} {off : Int} {tgt : Nat} (hdg : decode M.2.1 pc = .ok (.if_icmp .gt off, 3)) (ht : (pc : Int) + off = (tgt : Int)) (kt : y < x → G l D ty B Z M d σ0 P σ tgt lv st) (kf : ¬ y < x → G l D ty B Z M d σ0 P σ (pc + 3) lv st) : G l D ty B Z M d σ0 P σ pc lv (.int y :: .int x :: st) :=
  fun p e s m args below meth c C H locs ls hR hS h3 hl9 => lv_icmp_gt C.1 C.2.1 hdg ht (fun q9 => kt q9 p e s m args below meth c C H locs ls hR hS h3 hl9) (fun q9 => kf q9 p e s m args below meth c C H locs ls hR hS h3 hl9)
theorem g_icmp_le {x y : Int32} {off : Int} {tgt : Nat} (hdg : decode M.2.1 pc = .ok (.if_icmp .le off, 3)) (ht : (pc : Int) + off = (tgt : Int)) (kt : x ≤ y → G l D ty B Z M d σ0 P σ tgt lv st) (kf : ¬ x ≤ y → G l D ty B Z M d σ0 P σ (pc + 3) lv st) : G l D ty B Z M d σ0 P σ pc lv (.int y :: .int x :: st) :=
  fun p e s m args below meth c C H locs ls hR hS h3 hl9 => lv_icmp_le C.1 C.2.1 hdg ht (fun q9 => kt q9 p e s m args below meth c C H locs ls hR hS h3 hl9) (fun q9 => kf q9 p e s m args below meth c C H locs ls hR hS h3 hl9)
theorem g_goto {off : Int} {tgt : Nat} (hdg : decode M.2.1 pc = .ok (.goto off, 3)) (ht : (pc : Int) + off = (tgt : Int)) (k9 : G l D ty B Z M d σ0 P σ tgt lv st) : G l D ty B Z M d σ0 P σ pc lv st :=
  fun p e s m args below meth c C H locs ls hR hS h3 hl9 => lv_goto C.1 C.2.1 hdg ht (k9 p e s m args below meth c C H locs ls hR hS h3 hl9)
theorem g_ifnull {x : Nat} {off : Int} (hdg : decode M.2.1 pc = .ok (.ifnull off, 3)) (k9 : G l D ty B Z M d σ0 P σ (pc + 3) lv st) : G l D ty B Z M d σ0 P σ pc lv (.ref x :: st) :=
  fun p e s m args below meth c C H locs ls hR hS h3 hl9 => lv_ifnull C.1 C.2.1 hdg (k9 p e s m args below meth c C H locs ls hR hS h3 hl9)
theorem g_ifnonnull {x : Nat} {off : Int} {tgt : Nat} (hdg : decode M.2.1 pc = .ok (.ifnonnull off, 3)) (ht : (pc : Int) + off = (tgt : Int)) (k9 : G l D ty B Z M d σ0 P σ tgt lv st) : G l D ty B Z M d σ0 P σ pc lv (.ref x :: st) :=
  fun p e s m args below meth c C H locs ls hR hS h3 hl9 => lv_ifnonnull C.1 C.2.1 hdg ht (k9 p e s m args below meth c C H locs ls hR hS h3 hl9)
theorem g_ifnullN {off : Int} {tgt : Nat} (hdg : decode M.2.1 pc = .ok (.ifnull off, 3)) (ht : (pc : Int) + off = (tgt : Int)) (k9 : G l D ty B Z M d σ0 P σ tgt lv st) : G l D ty B Z M d σ0 P σ pc lv (.null :: st) :=
  fun p e s m args below meth c C H locs ls hR hS h3 hl9 => lv_ifnullN C.1 C.2.1 hdg ht (k9 p e s m args below meth c C H locs ls hR hS h3 hl9)
theorem g_ifnonnullN {off : Int} (hdg : decode M.2.1 pc = .ok (.ifnonnull off, 3)) (k9 : G l D ty B Z M d σ0 P σ (pc + 3) lv st) : G l D ty B Z M d σ0 P σ pc lv (.null :: st) :=
  fun p e s m args below meth c C H locs ls hR hS h3 hl9 => lv_ifnonnullN C.1 C.2.1 hdg (k9 p e s m args below meth c C H locs ls hR hS h3 hl9)
theorem g_null (hdg : decode M.2.1 pc = .ok (.aconst_null, 1)) (k9 : G l D ty B Z M d σ0 P σ (pc + 1) lv (.null :: st)) : G l D ty B Z M d σ0 P σ pc lv st :=
  fun p e s m args below meth c C H locs ls hR hS h3 hl9 => lv_null C.1 C.2.1 hdg (k9 p e s m args below meth c C H locs ls hR hS h3 hl9)
theorem g_acmp_eq {rx ry : Option Nat} {off : Int} {tgt : Nat} (hdg : decode M.2.1 pc = .ok (.if_acmp .eq off, 3)) (ht : (pc : Int) + off = (tgt : Int)) (kt : rx = ry → G l D ty B Z M d σ0 P σ tgt lv st) (kf : ¬ rx = ry → G l D ty B Z M d σ0 P σ (pc + 3) lv st) : G l D ty B Z M d σ0 P σ pc lv (va_rf ry :: va_rf rx :: st) :=
  fun p e s m args below meth c C H locs ls hR hS h3 hl9 => lv_acmp_eq C.1 C.2.1 hdg ht (fun q9 => kt q9 p e s m args below meth c C H locs ls hR hS h3 hl9) (fun q9 => kf q9 p e s m args below meth c C H locs ls hR hS h3 hl9)
theorem g_acmp_ne {rx ry : Option Nat} {off : Int} {tgt : Nat} (hdg : decode M.2.1 pc = .ok (.if_acmp .ne off, 3)) (ht : (pc : Int) + off = (tgt : Int)) (kt : ¬ rx = ry → G l D ty B Z M d σ0 P σ tgt lv st) (kf : rx = ry → G l D ty B Z M d σ0 P σ (pc + 3) lv st) : G l D ty B Z M d σ0 P σ pc lv (va_rf ry :: va_rf rx :: st) :=
  fun p e s m args below meth c C H locs ls hR hS h3 hl9 => lv_acmp_ne C.1 C.2.1 hdg ht (fun q9 => kt q9 p e s m args below meth c C H locs ls hR hS h3 hl9) (fun q9 => kf q9 p e s m args below meth c C H locs ls hR hS h3 hl9)
theorem g_tableIn {dflt lo hi : Int} {offs : Array Int} {len : Nat} {x : Int32} {off : Int} {tgt : Nat} (hdg : decode M.2.1 pc = .ok (.tableswitch dflt lo hi offs, len)) (h1 : ¬ x.toInt < lo) (h2 : ¬ hi < x.toInt) (ho : offs[(x.toInt - lo).toNat]? = some off) (ht : (pc : Int) + off = (tgt : Int)) (k9 : G l D ty B Z M d σ0 P σ tgt lv st) : G l D ty B Z M d σ0 P σ pc lv (.int x :: st) :=
  fun p e s m args below meth c C H locs ls hR hS h3 hl9 => lv_tableIn C.1 C.2.1 hdg h1 h2 ho ht (k9 p e s m args below meth c C H locs ls hR hS h3 hl9)
theorem g_tableOut {dflt lo hi : Int} {offs : Array Int} {len : Nat} {x : Int32} {tgt : Nat} (hdg : decode M.2.1 pc = .ok (.tableswitch dflt lo hi offs, len)) (h : x.toInt < lo ∨ hi < x.toInt) (ht : (pc : Int) + dflt = (tgt : Int)) (k9 : G l D ty B Z M d σ0 P σ tgt lv st) : G l D ty B Z M d σ0 P σ pc lv (.int x :: st) :=
  fun p e s m args below meth c C H locs ls hR hS h3 hl9 => lv_tableOut C.1 C.2.1 hdg h ht (k9 p e s m args below meth c C H locs ls hR hS h3 hl9)
theorem g_lookup {dflt : Int} {ps : Array (Int × Int)} {len : Nat} {x : Int32} {off : Int} {tgt : Nat} (hdg : decode M.2.1 pc = .ok (.lookupswitch dflt ps, len)) (hp : (ps.toList.zip (ps.toList.drop 1)).all (fun (a, next) => a.1 < next.1) = true) (ho : Op.lookupswitch.offset ps.toList dflt x.toInt = off) (ht : (pc : Int) + off = (tgt : Int)) (k9 : G l D ty B Z M d σ0 P σ tgt lv st) : G l D ty B Z M d σ0 P σ pc lv (.int x :: st) :=
  fun p e s m args below meth c C H locs ls hR hS h3 hl9 => lv_lookup C.1 C.2.1 hdg hp ho ht (k9 p e s m args below meth c C H locs ls hR hS h3 hl9)
theorem g_lcmp {x y : Int64} (hdg : decode M.2.1 pc = .ok (.lcmp, 1)) (k9 : G l D ty B Z M d σ0 P σ (pc + 1) lv (.int (lg_cmp x y) :: st)) : G l D ty B Z M d σ0 P σ pc lv (.long y :: .long x :: st) :=
  fun p e s m args below meth c C H locs ls hR hS h3 hl9 => W.lcmp C.1 C.2.1 hdg (k9 p e s m args below meth c C H locs ls hR hS h3 hl9)
theorem g_istore_n {k : Fin 4} {i : Nat} {x : Int32} {lv' : List (Nat × Value)} (hdg : decode M.2.1 pc = .ok (.istore_n k, 1)) (hi : (k : Nat) = i) (hn : i < M.2.2.1) (hl : (i, Value.int x) :: lv.filter (fun q => !(q.1 == i) && !(q.1 + 1 == i && q.2.category == 2)) = lv') (k9 : G l D ty B Z M d σ0 P σ (pc + 1) lv' st) : G l D ty B Z M d σ0 P σ pc lv (.int x :: st) :=
  fun p e s m args below meth c C H locs ls hR hS h3 hl9 => lv_istore_n C.1 C.2.1 hdg hi hl9 hn hl (fun ls hl9 => k9 p e s m args below meth c C H locs ls hR hS h3 hl9)
theorem g_istore {i : Nat} {x : Int32} {lv' : List (Nat × Value)} (hdg : decode M.2.1 pc = .ok (.istore i, 2)) (hn : i < M.2.2.1) (hl : (i, Value.int x) :: lv.filter (fun q => !(q.1 == i) && !(q.1 + 1 == i && q.2.category == 2)) = lv') (k9 : G l D ty B Z M d σ0 P σ (pc + 2) lv' st) : G l D ty B Z M d σ0 P σ pc lv (.int x :: st) :=
  fun p e s m args below meth c C H locs ls hR hS h3 hl9 => lv_istore C.1 C.2.1 hdg hl9 hn hl (fun ls hl9 => k9 p e s m args below meth c C H locs ls hR hS h3 hl9)
theorem g_lstore_n {k : Fin 4} {i : Nat} {x : Int64} {lv' : List (Nat × Value)} (hdg : decode M.2.1 pc = .ok (.lstore_n k, 1)) (hi : (k : Nat) = i) (hn : i + 1 < M.2.2.1) (hl : (i, Value.long x) :: lv.filter (fun q => !(q.1 == i) && (!(q.1 == i + 1) && !(q.1 + 1 == i && q.2.category == 2))) = lv') (k9 : G l D ty B Z M d σ0 P σ (pc + 1) lv' st) : G l D ty B Z M d σ0 P σ pc lv (.long x :: st) :=
  fun p e s m args below meth c C H locs ls hR hS h3 hl9 => lv_lstore_n C.1 C.2.1 hdg hi hl9 hn hl (fun ls hl9 => k9 p e s m args below meth c C H locs ls hR hS h3 hl9)
theorem g_lstore {i : Nat} {x : Int64} {lv' : List (Nat × Value)} (hdg : decode M.2.1 pc = .ok (.lstore i, 2)) (hn : i + 1 < M.2.2.1) (hl : (i, Value.long x) :: lv.filter (fun q => !(q.1 == i) && (!(q.1 == i + 1) && !(q.1 + 1 == i && q.2.category == 2))) = lv') (k9 : G l D ty B Z M d σ0 P σ (pc + 2) lv' st) : G l D ty B Z M d σ0 P σ pc lv (.long x :: st) :=
  fun p e s m args below meth c C H locs ls hR hS h3 hl9 => lv_lstore C.1 C.2.1 hdg hl9 hn hl (fun ls hl9 => k9 p e s m args below meth c C H locs ls hR hS h3 hl9)
theorem g_astore_n {k : Fin 4} {i : Nat} {x : Nat} {lv' : List (Nat × Value)} (hdg : decode M.2.1 pc = .ok (.astore_n k, 1)) (hi : (k : Nat) = i) (hn : i < M.2.2.1) (hl : (i, Value.ref x) :: lv.filter (fun q => !(q.1 == i) && !(q.1 + 1 == i && q.2.category == 2)) = lv') (k9 : G l D ty B Z M d σ0 P σ (pc + 1) lv' st) : G l D ty B Z M d σ0 P σ pc lv (.ref x :: st) :=
  fun p e s m args below meth c C H locs ls hR hS h3 hl9 => lv_astore_n C.1 C.2.1 hdg hi hl9 hn hl (fun ls hl9 => k9 p e s m args below meth c C H locs ls hR hS h3 hl9)
theorem g_astore {i : Nat} {x : Nat} {lv' : List (Nat × Value)} (hdg : decode M.2.1 pc = .ok (.astore i, 2)) (hn : i < M.2.2.1) (hl : (i, Value.ref x) :: lv.filter (fun q => !(q.1 == i) && !(q.1 + 1 == i && q.2.category == 2)) = lv') (k9 : G l D ty B Z M d σ0 P σ (pc + 2) lv' st) : G l D ty B Z M d σ0 P σ pc lv (.ref x :: st) :=
  fun p e s m args below meth c C H locs ls hR hS h3 hl9 => lv_astore C.1 C.2.1 hdg hl9 hn hl (fun ls hl9 => k9 p e s m args below meth c C H locs ls hR hS h3 hl9)
theorem g_astore_nN {k : Fin 4} {i : Nat} {lv' : List (Nat × Value)} (hdg : decode M.2.1 pc = .ok (.astore_n k, 1)) (hi : (k : Nat) = i) (hn : i < M.2.2.1) (hl : (i, Value.null) :: lv.filter (fun q => !(q.1 == i) && !(q.1 + 1 == i && q.2.category == 2)) = lv') (k9 : G l D ty B Z M d σ0 P σ (pc + 1) lv' st) : G l D ty B Z M d σ0 P σ pc lv (.null :: st) :=
  fun p e s m args below meth c C H locs ls hR hS h3 hl9 => lv_astore_nN C.1 C.2.1 hdg hi hl9 hn hl (fun ls hl9 => k9 p e s m args below meth c C H locs ls hR hS h3 hl9)
theorem g_astoreN {i : Nat} {lv' : List (Nat × Value)} (hdg : decode M.2.1 pc = .ok (.astore i, 2)) (hn : i < M.2.2.1) (hl : (i, Value.null) :: lv.filter (fun q => !(q.1 == i) && !(q.1 + 1 == i && q.2.category == 2)) = lv') (k9 : G l D ty B Z M d σ0 P σ (pc + 2) lv' st) : G l D ty B Z M d σ0 P σ pc lv (.null :: st) :=
  fun p e s m args below meth c C H locs ls hR hS h3 hl9 => lv_astoreN C.1 C.2.1 hdg hl9 hn hl (fun ls hl9 => k9 p e s m args below meth c C H locs ls hR hS h3 hl9)
theorem g_iinc {i k : Nat} {n : Int} {x v : Int32} {lv' : List (Nat × Value)} (hdg : decode M.2.1 pc = .ok (.iinc i n, 3)) (hk : lv[k]? = some (i, .int x)) (hv : x + Int32.ofInt n = v) (hn : i < M.2.2.1) (hl : (i, Value.int v) :: lv.filter (fun q => !(q.1 == i) && !(q.1 + 1 == i && q.2.category == 2)) = lv') (k9 : G l D ty B Z M d σ0 P σ (pc + 3) lv' st) : G l D ty B Z M d σ0 P σ pc lv st :=
  fun p e s m args below meth c C H locs ls hR hS h3 hl9 => lv_iinc C.1 C.2.1 hdg hl9 hk hv hn hl (fun ls hl9 => k9 p e s m args below meth c C H locs ls hR hS h3 hl9)
theorem g_lv {lv' : List (Nat × Value)} (ks : List Nat) (hl : lv_pick lv ks = lv') (k9 : G l D ty B Z M d σ0 P σ pc lv' st) : G l D ty B Z M d σ0 P σ pc lv st :=
  fun p e s m args below meth c C H locs ls hR hS h3 hl9 => k9 p e s m args below meth c C H locs ls hR hS h3 (lv_sub hl9 ks hl)
theorem Rp.mv {U t : State} {H : Heap} (hZ : h_st B Z) (h : Rp D ty B Z σ U H) (ht : t.heap = H) (ha : U.WarmedH t.vm) : Rp D ty B Z σ t t.heap := by
  subst ht
  obtain ⟨h1, h2, h3⟩ := h
  exact ⟨va_K.moved ha.alike h1, hZ _ _ _ _ (Or.inl ha) (fun _ _ => rfl) h2, h3⟩
theorem ct_of {as : List Value} (hy : plainName M.1.cls = true) (hZ : h_st B Z) (hn : (lg_sl as).length ≤ M.2.2.1) (k : G l D ty B Z M d σ P σ 0 (lv_args 0 as) []) : Ct l D ty B Z d M σ as P := by
  refine Met.ofW (cc := M.2.1) (maxL := M.2.2.1) (ret := M.2.2.2) hy rfl ?_
  intro p e s m args below meth c s₁ Bd hml hv
  obtain ⟨rfl, hR⟩ := hv
  have hts := atoms_spec (ws := Cond.code M.1 M.2.1 M.2.2.1 M.2.2.2 :: lw_g) Bd.pre
  have h := k p e s m as.toArray below meth c ⟨Bd.exec, Bd.bytes, hml, Bd.returns, findClass_of_methodNamed Bd.named, fun w hw => hts w (List.mem_cons_of_mem _ hw), Bd.notSynchronized, (name_of_methodNamed Bd.named Bd.method).1, hZ, hR⟩ s.heap [] _ hR va_S.rf (Nat.le_refl _) (lv_entry as hn)
  rw [Nat.sub_self, Nat.sub_self] at h
  rw [lg_entry_eq]
  exact h
theorem g_iret {x : Int32} (hr : M.2.2.2 = some .int) (hd : decode M.2.1 pc = .ok (.ireturn, 1)) (hp : P σ (some (.int x))) : G l D ty B Z M d σ0 P σ pc lv [.int x] := by
  intro p e s m args below meth c C H locs ls hR hS h3 hl9
  refine W.widen (k := B + h_CN - σ0.2.1) (n := h_CK - σ0.2.2) (by have := hR.2.2.2.2.2.1; omega) (by have := hR.2.2.2.2.2.2.1; omega) ?_
  exact W.iret (v := x) C.1 C.2.1 (C.2.2.2.1.trans hr) (fun t ht hW => ⟨⟨_, σ, rfl, hp, hR.mv C.2.2.2.2.2.2.2.2.1 ht hW⟩, hS.F ht⟩) hS.2.2 hd C.2.2.2.2.2.2.1
theorem g_zret {x : Int32} {rt : FieldType} (hr : M.2.2.2 = some rt) (hn : narrow rt (.int x) = .int x) (hd : decode M.2.1 pc = .ok (.ireturn, 1)) (hp : P σ (some (.int x))) : G l D ty B Z M d σ0 P σ pc lv [.int x] := by
  intro p e s m args below meth c C H locs ls hR hS h3 hl9
  refine W.widen (k := B + h_CN - σ0.2.1) (n := h_CK - σ0.2.2) (by have := hR.2.2.2.2.2.1; omega) (by have := hR.2.2.2.2.2.2.1; omega) ?_
  exact W.zret (v := x) C.1 C.2.1 (C.2.2.2.1.trans hr) hn (fun t ht hW => ⟨⟨_, σ, rfl, hp, hR.mv C.2.2.2.2.2.2.2.2.1 ht hW⟩, hS.F ht⟩) hS.2.2 hd C.2.2.2.2.2.2.1
theorem g_lret {x : Int64} (hr : M.2.2.2 = some .long) (hd : decode M.2.1 pc = .ok (.lreturn, 1)) (hp : P σ (some (.long x))) : G l D ty B Z M d σ0 P σ pc lv [.long x] := by
  intro p e s m args below meth c C H locs ls hR hS h3 hl9
  refine W.widen (k := B + h_CN - σ0.2.1) (n := h_CK - σ0.2.2) (by have := hR.2.2.2.2.2.1; omega) (by have := hR.2.2.2.2.2.2.1; omega) ?_
  exact W.lret (v := x) C.1 C.2.1 (C.2.2.2.1.trans hr) (fun t ht hW => ⟨⟨_, σ, rfl, hp, hR.mv C.2.2.2.2.2.2.2.2.1 ht hW⟩, hS.F ht⟩) hS.2.2 hd C.2.2.2.2.2.2.1
theorem g_aret {v : Value} {rt : FieldType} (hr : M.2.2.2 = some rt) (hrt : (∃ n, rt = .object n) ∨ ∃ t, rt = .array t) (hv : v = .null ∨ ∃ a, v = .ref a) (hd : decode M.2.1 pc = .ok (.areturn, 1)) (hp : P σ (some v)) : G l D ty B Z M d σ0 P σ pc lv [v] := by
  intro p e s m args below meth c C H locs ls hR hS h3 hl9
  refine W.widen (k := B + h_CN - σ0.2.1) (n := h_CK - σ0.2.2) (by have := hR.2.2.2.2.2.1; omega) (by have := hR.2.2.2.2.2.2.1; omega) ?_
  exact W.aret (v := v) C.1 C.2.1 (C.2.2.2.1.trans hr) hrt hv (fun t ht hW => ⟨⟨_, σ, rfl, hp, hR.mv C.2.2.2.2.2.2.2.2.1 ht hW⟩, hS.F ht⟩) hS.2.2 hd C.2.2.2.2.2.2.1
theorem g_vret (hr : M.2.2.2 = none) (hd : decode M.2.1 pc = .ok (.return_, 1)) (hp : P σ none) : G l D ty B Z M d σ0 P σ pc lv [] := by
  intro p e s m args below meth c C H locs ls hR hS h3 hl9
  refine W.widen (k := B + h_CN - σ0.2.1) (n := h_CK - σ0.2.2) (by have := hR.2.2.2.2.2.1; omega) (by have := hR.2.2.2.2.2.2.1; omega) ?_
  exact W.vret C.1 C.2.1 (C.2.2.2.1.trans hr) (fun t ht hW => ⟨⟨_, σ, rfl, hp, hR.mv C.2.2.2.2.2.2.2.2.1 ht hW⟩, hS.F ht⟩) hS.2.2 hd C.2.2.2.2.2.2.1
theorem h_P1 {D : va_G} {cl : List vw_C} {q : Nat × va_E} {H : Heap} (h : va_at D cl q H) : va_P D cl [q] H := fun k x hk => by
  have hz : k < 1 := (List.getElem?_eq_some_iff.mp hk).1
  rw [show k = 0 by omega] at hk
  cases hk
  exact h
def h_fl (own : String) (ix ci k : Nat) (C : String) (T : u_T) (N : Nat) : Prop := vwCl[ci]? = some (C, T, N) ∧ k < N ∧ (∀ w ∈ u_ws C T N, w ∈ lw_g) ∧ Cond.fieldLink own ix (T k).1 (T k).2.1 (T k).2.2.1 ∈ lw_g
theorem g_get {ix ci k : Nat} {C : String} {T : u_T} {N a : Nat} {fs : List Value} {v : Value} (hf : h_fl M.1.cls ix ci k C T N) (ha : σ.1 a = some (.inr (ci, fs))) (hv : fs[k]? = some v) (hd : decode M.2.1 pc = .ok (.getfield ix, 3)) (k9 : G l D ty B Z M d σ0 P σ (pc + 3) lv (v :: st)) : G l D ty B Z M d σ0 P σ pc lv (.ref a :: st) := by
  intro p e s m args below meth c C9 H locs ls hR hS h3 hl9
  exact va_get (D := D) (ci := ci) (v := v) (C := C) (T := T) (N := N) C9.1 C9.2.1 C9.2.2.2.2.2.1 hf.2.2.1 C9.2.2.2.2.1 hR.1 (h_P1 (hR.2.2.2.2.2.2.2 a _ ha).2) 0 rfl hf.1 k hf.2.1 (C9.2.2.2.2.2.1 _ hf.2.2.2) (fun _ h9 => h9) hv hd (k9 p e s m args below meth c C9 H locs ls hR hS h3 hl9)
theorem h_sl_same {H H1 : Heap} (ho : ∀ q : Nat, (H1[q]?).map (fun c => c.slots.size) = (H[q]?).map (fun c => c.slots.size)) : h_sl B H1 = h_sl B H := by
  have h : H1.toList.map (fun c => c.slots.size) = H.toList.map (fun c => c.slots.size) := by
    apply List.ext_getElem?
    intro i
    simp only [List.getElem?_map, Array.getElem?_toList]
    exact ho i
  unfold h_sl
  rw [List.map_drop, List.map_drop, h]
theorem h_sl_push {H H1 : Heap} {c : Cell} (hs : H1.size = H.size + 1) (ho : ∀ q : Nat, q < H.size → H1[q]? = H[q]?) (hc : H1[H.size]? = some c) (hB : B ≤ H.size) : h_sl B H1 = h_sl B H + c.slots.size := by
  have h : H1.toList = H.toList ++ [c] := by
    apply List.ext_getElem?
    intro i
    rw [Array.getElem?_toList]
    by_cases hi : i < H.size
    · rw [ho i hi, List.getElem?_append_left (by simpa using hi), Array.getElem?_toList]
    · by_cases hi2 : i = H.size
      · subst hi2
        rw [hc]
        simp
      · rw [Array.getElem?_eq_none (by omega)]
        symm
        apply List.getElem?_eq_none
        simp
        omega
  unfold h_sl
  rw [h, List.drop_append_of_le_length (by simpa using hB)]
  simp
theorem h_sl_split {H0 H : Heap} (hB : B ≤ H0.size) (hle : H0.size ≤ H.size) (h6 : ∀ (a : Nat) (c : Cell), H0[a]? = some c → ∃ c' : Cell, H[a]? = some c' ∧ c'.slots.size = c.slots.size) : h_sl B H = h_sl B H0 + h_sl H0.size H := by
  have h : (H.toList.map (fun c => c.slots.size)).take H0.size = H0.toList.map (fun c => c.slots.size) := by
    apply List.ext_getElem?
    intro i
    by_cases hi : i < H0.size
    · rw [List.getElem?_take_of_lt hi, List.getElem?_map, List.getElem?_map, Array.getElem?_toList, Array.getElem?_toList]
      obtain ⟨c', e1, e2⟩ := h6 i H0[i] (Array.getElem?_eq_getElem hi)
      rw [e1, Array.getElem?_eq_getElem hi]
      simp [e2]
    · rw [List.getElem?_eq_none (by simp; omega), List.getElem?_eq_none (by simp; omega)]
  unfold h_sl
  rw [List.map_drop, List.map_drop, List.map_drop, ← h]
  generalize H.toList.map (fun c => c.slots.size) = L
  conv => lhs; rw [← List.take_append_drop H0.size L]
  by_cases hL : H0.size ≤ L.length
  · rw [List.drop_append_of_le_length (by rw [List.length_take]; omega), List.sum_append]
  · rw [List.take_of_length_le (by omega), List.drop_of_length_le (by omega : L.length ≤ H0.size)]
    simp
theorem h_nar {p : Program} {e : Env} {R : Room} {s : State} {m : MethodId} {args : Array Value} {below : List Frame} {meth : Method} {c : Code} {H : Heap} {locs : List Loc} {cells slots : Nat} {Q : State → Prop} {g : JFrame} (hB : B ≤ s.heap.size) {k n : Nat} (hk : H.size ≤ s.heap.size + k) (hn : h_sl B H ≤ h_sl B s.heap + n) (kk : W p l e R s m args below meth c H locs k n Q g) : W p l e R s m args below meth c H locs cells slots Q g := by
  intro T hT X
  refine kk T hT ⟨X.admits, X.cas, X.clock, X.frames, X.room, X.hears, X.method, X.code, X.here, X.tail, X.warmed, X.limits, X.bytes, ?_⟩
  obtain ⟨h1, h2, h3, h4, h5, h6⟩ := X.same
  have hh : (T.setVm s.vm).heap = H := hT
  refine ⟨h1, h2, by rw [hh]; exact hk, h4, ?_, h6⟩
  have h7 := h_sl_split (B := B) hB h2 (fun a c hc => by
    obtain ⟨c', e1, -, e3, -⟩ := h6 a c hc
    exact ⟨c', e1, e3⟩)
  rw [hh] at h7 ⊢
  have h8 : h_sl s.heap.size H ≤ n := by omega
  exact h8
/-- a cell is changed -/
theorem h_up {a : Nat} {e : va_E} {U : State} {H H1 : Heap} (hZ : h_st B Z) (hR : Rp D ty B Z σ U H) (ha : B ≤ a) (hs : H1.size = H.size) (ho : ∀ q : Nat, q ≠ a → H1[q]? = H[q]?) (hz : (H1[a]?).map (fun c => c.slots.size) = (H[a]?).map (fun c => c.slots.size)) (he : va_at D vwCl (a, e) H1) : Rp D ty B Z (h_set σ a e) U H1 := by
  obtain ⟨h1, h2, h3, h4, h5, h6, h7, h8⟩ := hR
  refine ⟨h1, hZ U U H H1 (Or.inr rfl) (fun q hq => ho q (by omega)) h2, hs.trans h3, ?_, h5, h6, h7, ?_⟩
  · rw [h_sl_same (H := H) (fun q => by
      by_cases hq : q = a
      · subst hq; exact hz
      · rw [ho q hq])]
    exact h4
  · intro b x hx
    by_cases hb : b = a
    · subst hb
      simp [h_set] at hx
      subst hx
      exact ⟨ha, he⟩
    · simp [h_set, hb] at hx
      obtain ⟨g1, g2⟩ := h8 b x hx
      exact ⟨g1, g2.kept (ho b hb)⟩
/-- a cell is made -/
theorem h_mk {e : va_E} {k : Nat} {cell : Cell} {U : State} {H H1 : Heap} (hZ : h_st B Z) (hR : Rp D ty B Z σ U H) (hs : H1.size = H.size + 1) (ho : ∀ q : Nat, q < H.size → H1[q]? = H[q]?) (hc : H1[H.size]? = some cell) (hk : cell.slots.size = k) (he : va_at D vwCl (H.size, e) H1) (hn : σ.2.1 + 1 ≤ B + h_CN) (hm : σ.2.2 + k ≤ h_CK) : Rp D ty B Z (h_new σ e k) U H1 := by
  obtain ⟨h1, h2, h3, h4, h5, h6, h7, h8⟩ := hR
  refine ⟨h1, hZ U U H H1 (Or.inr rfl) (fun q hq => ho q (by omega)) h2, by rw [hs, h3]; rfl, ?_, by show B ≤ σ.2.1 + 1; omega, hn, hm, ?_⟩
  · rw [h_sl_push hs ho hc (by omega), hk, h4]
    rfl
  · intro b x hx
    by_cases hb : b = σ.2.1
    · subst hb
      simp [h_new] at hx
      subst hx
      rw [← h3]
      exact ⟨by omega, he⟩
    · simp [h_new, hb] at hx
      obtain ⟨g1, g2⟩ := h8 b x hx
      exact ⟨g1, g2.kept (ho b g2.lt)⟩
theorem h_S1 {H0 H H1 : Heap} {locs : List Loc} {a k : Nat} (h : va_S (fun q : Nat => B ≤ q) H0 H locs) (z : H1.size = H.size) (oq : ∀ q : Nat, q ≠ a → H1[q]? = H[q]?) (ha : B ≤ a) : va_S (fun q : Nat => B ≤ q) H0 H1 (locs ++ [⟨a, k⟩]) := h.put z oq ha
theorem h_ssz (cell : Cell) (i : Nat) (v : Value) : (cell.setSlot i v).slots.size = cell.slots.size := by simp [Cell.setSlot]
theorem g_put {ix ci k : Nat} {C : String} {T : u_T} {N a : Nat} {fs : List Value} {v : Value} {ft : FieldType} (hf : h_fl M.1.cls ix ci k C T N) (ht : (∃ t0 : Nat → FieldType, ∀ k, k < N → parseFieldDescriptor (T k).2.2.1 = some (t0 k)) ∧ (∀ a, a < N → ∀ b, b < N → a ≠ b → (T a).2.1 ≠ (T b).2.1)) (hfin : (T k).2.2.2 = false ∨ ((T k).2.2.2 = true ∧ M.1.name = "<init>" ∧ (T k).1 = M.1.cls)) (ha : σ.1 a = some (.inr (ci, fs))) (hp : parseFieldDescriptor (T k).2.2.1 = some ft) (hn : narrow ft v = v) (hfit : fits ft v = true) (hl : k < fs.length) (hd : decode M.2.1 pc = .ok (.putfield ix, 3)) (k9 : G l D ty B Z M d σ0 P (h_set σ a (.inr (ci, fs.set k v))) (pc + 3) lv st) : G l D ty B Z M d σ0 P σ pc lv (v :: .ref a :: st) := by
  intro p e s m args below meth c C9 H locs ls hR hS h3 hl9
  obtain ⟨⟨t0, ht0⟩, hnm⟩ := ht
  have hts := C9.2.2.2.2.2.1
  have hap := va_apart (own := M.1.cls) hts hf.2.2.1 t0 ht0 hnm hR.1 hf.1
  obtain ⟨hBa, r, g1, cell, q1, q2, q3, q4⟩ := hR.2.2.2.2.2.2.2 a _ ha
  have hr : r = (C, T, N) := Option.some.inj (g1.symm.trans hf.1)
  subst hr
  obtain ⟨hSl, hfc, kC, hkC, hkind⟩ := hR.1.1 ci _ hf.1
  obtain ⟨cf, kf, fi, f, hi, hsl⟩ := hSl k hf.2.1
  have hst := (u_facts hfc hkC (u_lays hts hf.2.2.1 hf.2.1) hi).1
  have go : ∀ H' : Heap, H'[a]? = some (cell.setSlot f.slot v) → H'.size = H.size → (∀ q : Nat, q ≠ a → H'[q]? = H[q]?) → W p l e (h_rm B d σ0) s m args below meth c H' (locs ++ [⟨a, f.slot⟩]) (σ.2.1 - σ0.2.1) (σ.2.2 - σ0.2.2) (MQ below (h_Q D ty B Z P) args s (B + h_CN - σ0.2.1) (h_CK - σ0.2.2) (fun q : Nat => B ≤ q)) (F0 m (pc + 3) ls st) := by
    intro H' e1 e2 e3
    refine k9 p e s m args below meth c C9 H' _ ls ?_ (h_S1 hS e2 e3 hBa) h3 hl9
    refine h_up C9.2.2.2.2.2.2.2.2.1 hR hBa e2 e3 (by rw [e1, q1]; simp [h_ssz]) ?_
    rw [hsl] at e1
    exact ⟨_, hf.1, t_OB.to (V := updV (vp_V fs) k v) ⟨_, e1, q2, q3, t_set q4 hap hf.2.1 v⟩ (fun j _ => vp_updV_set hl v j)⟩
  have hlay := hts _ (hf.2.2.1 _ (u_in_lay hf.2.1))
  unfold u_lay at hlay
  rcases hfin with hfin | ⟨hfin, hin2, hdecl⟩
  · rw [if_neg (by rw [hfin]; decide)] at hlay
    have h6 := u_store hfc hkC hkind hlay hi hp hn hfit
    exact W.putK C9.1 C9.2.1 (f := f) ⟨C9.2.2.2.2.1, hts _ hf.2.2.2, ⟨_, _, _, hi⟩, hst⟩ (by rw [q2]; exact h6) q1 q3 (by rw [hsl]; exact k2_hasslot (q4 k hf.2.1)) rfl rfl hd go
  · rw [if_pos hfin] at hlay
    have hcf : m.cls = cf := by
      obtain ⟨_, _, c', _, _, _, -, -, hf', -, -, -, hown2, -⟩ := Cond.laysFinal_spec hlay
      have e1 : c' = cf := by have := hi.symm.trans hf'; simp at this; exact this.1.symm
      rw [hdecl] at hown2
      rw [← e1]; exact Option.some.inj (C9.2.2.2.2.1.symm.trans hown2)
    have h6 := u_fits hfc hkC hkind (Or.inr hlay) hi hp hn hfit
    exact W.putFinK C9.1 C9.2.1 C9.2.2.2.2.1 (hts _ hf.2.2.2) hi hst hcf (C9.2.2.2.2.2.2.2.1.trans hin2) (by rw [q2]; exact h6) q1 q3 (by rw [hsl]; exact k2_hasslot (q4 k hf.2.1)) rfl rfl hd go
end HG
