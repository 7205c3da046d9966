theorem lw_good {w : Cond} (hw : w ∈ lw_g) : GoodIn lw_g (w :: lw_g) := fun x hx => by
  rcases List.mem_cons.mp hx with h | h
  · subst h; exact ⟨hw, good_of_word (List.mem_filter.mp hw).2⟩
  · exact ⟨h, good_of_word (List.mem_filter.mp h).2⟩
section HG2
variable {l : Launch} {D : va_G} {ty : List (ClassId × FieldType)} {B : Nat} {Z : State → Heap → Prop} {M : hM} {d : Nat} {σ0 σ : hS} {P : hS → Option Value → Prop} {pc : Nat} {lv : List (Nat × Value)} {st : List Value}
theorem g_iald {t0 a n : Nat} {cA : ClassId} {f : Nat → Int32} {i : Int32} (ht : ty[t0]? = some (cA, .int)) (ha : σ.1 a = some (.inl (cA, n, .inl f))) (hin : vp_in i n) (hd : decode M.2.1 pc = .ok (.iaload, 1)) (k9 : G l D ty B Z M d σ0 P σ (pc + 1) lv (.int (f i.toNatClampNeg) :: st)) : G l D ty B Z M d σ0 P σ pc lv (.int i :: .ref a :: st) :=
  fun p e s m args below meth c C9 H locs ls hR hS h3 hl9 => va_iald (D := D) C9.1 C9.2.1 hR.1 (h_P1 (hR.2.2.2.2.2.2.2 a _ ha).2) 0 t0 rfl ht hin hd (k9 p e s m args below meth c C9 H locs ls hR hS h3 hl9)
theorem g_bald {t0 a n : Nat} {cA : ClassId} {f : Nat → Int32} {i : Int32} (ht : ty[t0]? = some (cA, .byte)) (ha : σ.1 a = some (.inl (cA, n, .inl f))) (hin : vp_in i n) (hd : decode M.2.1 pc = .ok (.baload, 1)) (k9 : G l D ty B Z M d σ0 P σ (pc + 1) lv (.int (f i.toNatClampNeg) :: st)) : G l D ty B Z M d σ0 P σ pc lv (.int i :: .ref a :: st) :=
  fun p e s m args below meth c C9 H locs ls hR hS h3 hl9 => va_bald (D := D) C9.1 C9.2.1 hR.1 (h_P1 (hR.2.2.2.2.2.2.2 a _ ha).2) 0 t0 rfl ht hin hd (k9 p e s m args below meth c C9 H locs ls hR hS h3 hl9)
theorem g_zald {t0 a n : Nat} {cA : ClassId} {f : Nat → Int32} {i : Int32} (ht : ty[t0]? = some (cA, .boolean)) (ha : σ.1 a = some (.inl (cA, n, .inl f))) (hin : vp_in i n) (hd : decode M.2.1 pc = .ok (.baload, 1)) (k9 : G l D ty B Z M d σ0 P σ (pc + 1) lv (.int (f i.toNatClampNeg) :: st)) : G l D ty B Z M d σ0 P σ pc lv (.int i :: .ref a :: st) :=
  fun p e s m args below meth c C9 H locs ls hR hS h3 hl9 => va_zald (D := D) C9.1 C9.2.1 hR.1 (h_P1 (hR.2.2.2.2.2.2.2 a _ ha).2) 0 t0 rfl ht hin hd (k9 p e s m args below meth c C9 H locs ls hR hS h3 hl9)
theorem g_lald {t0 a n : Nat} {cA : ClassId} {f : Nat → Int64} {i : Int32} (ht : ty[t0]? = some (cA, .long)) (ha : σ.1 a = some (.inl (cA, n, .inr (.inl f)))) (hin : vp_in i n) (hd : decode M.2.1 pc = .ok (.laload, 1)) (k9 : G l D ty B Z M d σ0 P σ (pc + 1) lv (.long (f i.toNatClampNeg) :: st)) : G l D ty B Z M d σ0 P σ pc lv (.int i :: .ref a :: st) :=
  fun p e s m args below meth c C9 H locs ls hR hS h3 hl9 => va_lald (D := D) C9.1 C9.2.1 hR.1 (h_P1 (hR.2.2.2.2.2.2.2 a _ ha).2) 0 t0 rfl ht hin hd (k9 p e s m args below meth c C9 H locs ls hR hS h3 hl9)
theorem g_aald {t0 a n : Nat} {cA : ClassId} {C : String} {f : Nat → Option Nat} {i : Int32} (ht : ty[t0]? = some (cA, .object C)) (ha : σ.1 a = some (.inl (cA, n, .inr (.inr (.inr (.inr f)))))) (hin : vp_in i n) (hd : decode M.2.1 pc = .ok (.aaload, 1)) (k9 : G l D ty B Z M d σ0 P σ (pc + 1) lv (va_rf (f i.toNatClampNeg) :: st)) : G l D ty B Z M d σ0 P σ pc lv (.int i :: .ref a :: st) :=
  fun p e s m args below meth c C9 H locs ls hR hS h3 hl9 => va_aldq (D := D) C9.1 C9.2.1 hR.1 (h_P1 (hR.2.2.2.2.2.2.2 a _ ha).2) 0 t0 rfl ht hin hd (k9 p e s m args below meth c C9 H locs ls hR hS h3 hl9)
theorem g_alen {t0 a : Nat} {cA : ClassId} {et : FieldType} {n : Nat} {f : vp_A} (ht : ty[t0]? = some (cA, et)) (ha : σ.1 a = some (.inl (cA, f))) (hn : ∀ (T : State) (H : Heap), T.isArrayOf (vp_cell cA f) et → (vp_cell cA f).slots.size.toInt32 = Int32.ofNat n) (hi : ∀ s : State, ArrOfT s cA et → s.isArrayOf (vp_cell cA f) et) (hd : decode M.2.1 pc = .ok (.arraylength, 1)) (k9 : G l D ty B Z M d σ0 P σ (pc + 1) lv (.int (Int32.ofNat n) :: st)) : G l D ty B Z M d σ0 P σ pc lv (.ref a :: st) :=
  fun p e s m args below meth c C9 H locs ls hR hS h3 hl9 => W.alen C9.1 C9.2.1 (hR.2.2.2.2.2.2.2 a _ ha).2 (hi s (hR.1.2 t0 _ ht).1) (hn s H (hi s (hR.1.2 t0 _ ht).1)) rfl rfl hd (k9 p e s m args below meth c C9 H locs ls hR hS h3 hl9)
/-- the length of an array of ints, bytes .., longs, references -/
theorem g_aleni {t0 a : Nat} {cA : ClassId} {et : FieldType} {n : Nat} {f : Nat → Int32} (ht : ty[t0]? = some (cA, et)) (ha : σ.1 a = some (.inl (cA, n, .inl f))) (hd : decode M.2.1 pc = .ok (.arraylength, 1)) (k9 : G l D ty B Z M d σ0 P σ (pc + 1) lv (.int (Int32.ofNat n) :: st)) : G l D ty B Z M d σ0 P σ pc lv (.ref a :: st) :=
  g_alen ht ha (fun _ _ _ => by rw [vp_cell_i, arrV_size]) (fun s h => h n (fun j => .int (f j))) hd k9
theorem g_alenl {t0 a : Nat} {cA : ClassId} {et : FieldType} {n : Nat} {f : Nat → Int64} (ht : ty[t0]? = some (cA, et)) (ha : σ.1 a = some (.inl (cA, n, .inr (.inl f)))) (hd : decode M.2.1 pc = .ok (.arraylength, 1)) (k9 : G l D ty B Z M d σ0 P σ (pc + 1) lv (.int (Int32.ofNat n) :: st)) : G l D ty B Z M d σ0 P σ pc lv (.ref a :: st) :=
  g_alen ht ha (fun _ _ _ => by rw [vp_cell_l, arrV_size]) (fun s h => h n (fun j => .long (f j))) hd k9
theorem g_alenq {t0 a : Nat} {cA : ClassId} {et : FieldType} {n : Nat} {f : Nat → Option Nat} (ht : ty[t0]? = some (cA, et)) (ha : σ.1 a = some (.inl (cA, n, .inr (.inr (.inr (.inr f)))))) (hd : decode M.2.1 pc = .ok (.arraylength, 1)) (k9 : G l D ty B Z M d σ0 P σ (pc + 1) lv (.int (Int32.ofNat n) :: st)) : G l D ty B Z M d σ0 P σ pc lv (.ref a :: st) :=
  g_alen ht ha (fun _ _ _ => by rw [vp_cell_q, arrV_size]) (fun s h => h n (fun j => va_rf (f j))) hd k9
theorem h_csz (cA : ClassId) (n : Nat) (f : (Nat → Int32) ⊕ (Nat → Int64) ⊕ (Nat → UInt32) ⊕ (Nat → UInt64) ⊕ (Nat → Option Nat)) : (vp_cell cA (n, f)).slots.size = n := by
  rcases f with f | f | f | f | f <;> (unfold vp_cell; dsimp only; exact arrV_size _ _ _)
theorem g_iast {t0 a n : Nat} {cA : ClassId} {f : Nat → Int32} {i x : Int32} (ht : ty[t0]? = some (cA, .int)) (ha : σ.1 a = some (.inl (cA, n, .inl f))) (hin : vp_in i n) (hd : decode M.2.1 pc = .ok (.iastore, 1)) (k9 : G l D ty B Z M d σ0 P (h_set σ a (.inl (cA, n, .inl (upd f i.toNatClampNeg x)))) (pc + 1) lv st) : G l D ty B Z M d σ0 P σ pc lv (.int x :: .int i :: .ref a :: st) := by
  intro p e s m args below meth c C9 H locs ls hR hS h3 hl9
  obtain ⟨hBa, hat⟩ := hR.2.2.2.2.2.2.2 a _ ha
  refine W.iast C9.1 C9.2.1 hat ((hR.1.2 t0 _ ht).1 n (fun j => .int (f j))) (fun q => by cases q) (by show ¬ (i < 0 ∨ (arrV _ _ _).slots.size ≤ _); rw [arrV_size]; exact hin) rfl rfl hd fun H1 e1 z oq => ?_
  have he : H1[a]? = some (vp_cell cA (n, .inl (upd f i.toNatClampNeg x))) := by
    rw [e1]
    rw [vp_cell_i, vp_cell_i, arrV_store]
    congr 2
    funext q
    by_cases hq : q = i.toNatClampNeg
    · subst hq
      simp [updV, upd, vp_nar]
      try rfl
    · simp [updV, upd, hq]
  have hat : H[a]? = some (vp_cell cA (n, .inl f)) := hat
  exact k9 p e s m args below meth c C9 H1 _ ls (h_up C9.2.2.2.2.2.2.2.2.1 hR hBa z oq (by rw [he, hat]; simp only [Option.map_some, h_csz]) he) (h_S1 hS z oq hBa) h3 hl9
theorem g_bast {t0 a n : Nat} {cA : ClassId} {f : Nat → Int32} {i x : Int32} (ht : ty[t0]? = some (cA, .byte)) (ha : σ.1 a = some (.inl (cA, n, .inl f))) (hin : vp_in i n) (hd : decode M.2.1 pc = .ok (.bastore, 1)) (k9 : G l D ty B Z M d σ0 P (h_set σ a (.inl (cA, n, .inl (upd f i.toNatClampNeg (vp_nar .byte x))))) (pc + 1) lv st) : G l D ty B Z M d σ0 P σ pc lv (.int x :: .int i :: .ref a :: st) := by
  intro p e s m args below meth c C9 H locs ls hR hS h3 hl9
  obtain ⟨hBa, hat⟩ := hR.2.2.2.2.2.2.2 a _ ha
  refine W.bast C9.1 C9.2.1 hat ((hR.1.2 t0 _ ht).1 n (fun j => .int (f j))) (fun q => by cases q) (by show ¬ (i < 0 ∨ (arrV _ _ _).slots.size ≤ _); rw [arrV_size]; exact hin) rfl rfl hd fun H1 e1 z oq => ?_
  have he : H1[a]? = some (vp_cell cA (n, .inl (upd f i.toNatClampNeg (vp_nar .byte x)))) := by
    rw [e1]
    rw [vp_cell_i, vp_cell_i, arrV_store]
    congr 2
    funext q
    by_cases hq : q = i.toNatClampNeg
    · subst hq
      simp [updV, upd, vp_nar]
      try rfl
    · simp [updV, upd, hq]
  have hat : H[a]? = some (vp_cell cA (n, .inl f)) := hat
  exact k9 p e s m args below meth c C9 H1 _ ls (h_up C9.2.2.2.2.2.2.2.2.1 hR hBa z oq (by rw [he, hat]; simp only [Option.map_some, h_csz]) he) (h_S1 hS z oq hBa) h3 hl9
theorem g_zast {t0 a n : Nat} {cA : ClassId} {f : Nat → Int32} {i x : Int32} (ht : ty[t0]? = some (cA, .boolean)) (ha : σ.1 a = some (.inl (cA, n, .inl f))) (hin : vp_in i n) (hd : decode M.2.1 pc = .ok (.bastore, 1)) (k9 : G l D ty B Z M d σ0 P (h_set σ a (.inl (cA, n, .inl (upd f i.toNatClampNeg (vp_nar .boolean x))))) (pc + 1) lv st) : G l D ty B Z M d σ0 P σ pc lv (.int x :: .int i :: .ref a :: st) := by
  intro p e s m args below meth c C9 H locs ls hR hS h3 hl9
  obtain ⟨hBa, hat⟩ := hR.2.2.2.2.2.2.2 a _ ha
  refine W.zast C9.1 C9.2.1 hat ((hR.1.2 t0 _ ht).1 n (fun j => .int (f j))) (fun q => by cases q) (by show ¬ (i < 0 ∨ (arrV _ _ _).slots.size ≤ _); rw [arrV_size]; exact hin) rfl rfl hd fun H1 e1 z oq => ?_
  have he : H1[a]? = some (vp_cell cA (n, .inl (upd f i.toNatClampNeg (vp_nar .boolean x)))) := by
    rw [e1]
    rw [vp_cell_i, vp_cell_i, arrV_store]
    congr 2
    funext q
    by_cases hq : q = i.toNatClampNeg
    · subst hq
      simp [updV, upd, vp_nar]
      try rfl
    · simp [updV, upd, hq]
  have hat : H[a]? = some (vp_cell cA (n, .inl f)) := hat
  exact k9 p e s m args below meth c C9 H1 _ ls (h_up C9.2.2.2.2.2.2.2.2.1 hR hBa z oq (by rw [he, hat]; simp only [Option.map_some, h_csz]) he) (h_S1 hS z oq hBa) h3 hl9
theorem g_last {t0 a n : Nat} {cA : ClassId} {f : Nat → Int64} {i : Int32} {x : Int64} (ht : ty[t0]? = some (cA, .long)) (ha : σ.1 a = some (.inl (cA, n, .inr (.inl f)))) (hin : vp_in i n) (hd : decode M.2.1 pc = .ok (.lastore, 1)) (k9 : G l D ty B Z M d σ0 P (h_set σ a (.inl (cA, n, .inr (.inl (vp_updL f i.toNatClampNeg x))))) (pc + 1) lv st) : G l D ty B Z M d σ0 P σ pc lv (.long x :: .int i :: .ref a :: st) := by
  intro p e s m args below meth c C9 H locs ls hR hS h3 hl9
  obtain ⟨hBa, hat⟩ := hR.2.2.2.2.2.2.2 a _ ha
  refine W.last C9.1 C9.2.1 hat ((hR.1.2 t0 _ ht).1 n (fun j => .long (f j))) (fun q => by cases q) (by show ¬ (i < 0 ∨ (arrV _ _ _).slots.size ≤ _); rw [arrV_size]; exact hin) rfl rfl hd fun H1 e1 z oq => ?_
  have he : H1[a]? = some (vp_cell cA (n, .inr (.inl (vp_updL f i.toNatClampNeg x)))) := by
    rw [e1]
    rw [vp_cell_l, vp_cell_l, arrV_store]
    congr 2
    funext q
    by_cases hq : q = i.toNatClampNeg
    · subst hq
      simp [updV, vp_updL]
      try rfl
    · simp [updV, vp_updL, hq]
  have hat : H[a]? = some (vp_cell cA (n, .inr (.inl f))) := hat
  exact k9 p e s m args below meth c C9 H1 _ ls (h_up C9.2.2.2.2.2.2.2.2.1 hR hBa z oq (by rw [he, hat]; simp only [Option.map_some, h_csz]) he) (h_S1 hS z oq hBa) h3 hl9
theorem g_aast {t0 a n v ci : Nat} {cA : ClassId} {C : String} {T : u_T} {N : Nat} {f : Nat → Option Nat} {vs : List Value} {i : Int32} (ht : ty[t0]? = some (cA, .object C)) (ha : σ.1 a = some (.inl (cA, n, .inr (.inr (.inr (.inr f)))))) (hv : σ.1 v = some (.inr (ci, vs))) (hc : vwCl[ci]? = some (C, T, N)) (hin : vp_in i n) (hd : decode M.2.1 pc = .ok (.aastore, 1)) (k9 : G l D ty B Z M d σ0 P (h_set σ a (.inl (cA, n, .inr (.inr (.inr (.inr (va_up f i.toNatClampNeg (some v)))))))) (pc + 1) lv st) : G l D ty B Z M d σ0 P σ pc lv (.ref v :: .int i :: .ref a :: st) := by
  intro p e s m args below meth c C9 H locs ls hR hS h3 hl9
  obtain ⟨hBa, hat⟩ := hR.2.2.2.2.2.2.2 a _ ha
  have hlt : i.toNatClampNeg < n := Nat.not_le.mp fun q => hin (Or.inr q)
  have h0 : ¬ i < 0 := fun q => hin (Or.inl q)
  obtain ⟨-, r', hr', cellV, g1, g2, g3, -⟩ := hR.2.2.2.2.2.2.2 v _ hv
  have hcls := (hR.1.1 ci _ hc).2
  obtain ⟨kA, comp, k1, k2, k3, -⟩ := (hR.1.2 t0 _ ht).2
  have hcomp : comp = D.1 ci := Option.some.inj (k3.symm.trans hcls.1)
  subst hcomp
  obtain ⟨kC, hkC, -⟩ := hcls.2
  refine W.aast C9.1 C9.2.1 hat (fun q h => by cases h) (fun h => by cases h) k1 k2 rfl hkC ⟨h0, by show _ < (arrV _ _ _).slots.size; rw [arrV_size]; exact hlt⟩ g1 (fun q h => by rw [g3] at h; cases h) (by rw [g2]; exact hkC) (by rw [g2]; exact va_assign hcls) rfl rfl hd fun H1 e1 z oq => ?_
  have he : H1[a]? = some (vp_cell cA (n, .inr (.inr (.inr (.inr (va_up f i.toNatClampNeg (some v))))))) := by
    rw [e1]
    rw [vp_cell_q, vp_cell_q, arrV_store]
    congr 2
    funext q
    by_cases hq : q = i.toNatClampNeg
    · subst hq
      simp [updV, va_up, va_rf]
    · simp [updV, va_up, hq]
  have hat : H[a]? = some (vp_cell cA (n, .inr (.inr (.inr (.inr f))))) := hat
  exact k9 p e s m args below meth c C9 H1 _ ls (h_up C9.2.2.2.2.2.2.2.2.1 hR hBa z oq (by rw [he, hat]; simp only [Option.map_some, h_csz]) he) (h_S1 hS z oq hBa) h3 hl9
def h_nl (own : String) (ix ci : Nat) (C : String) (T : u_T) (N : Nat) (fs : List Value) : Prop := vwCl[ci]? = some (C, T, N) ∧ (∀ w ∈ u_ws C T N, w ∈ lw_g) ∧ (∃ t0 : Nat → FieldType, (∀ k, k < N → parseFieldDescriptor (T k).2.2.1 = some (t0 k)) ∧ ∀ j, j < N → defaultValue (t0 j) = vp_V fs j) ∧ Cond.classLink own ix C ∈ lw_g ∧ Cond.instantiable C N ∈ lw_g ∧ Cond.initialized C ∈ lw_g
theorem h_S2 {H0 H H1 : Heap} {locs : List Loc} (h : va_S (fun q : Nat => B ≤ q) H0 H locs) (z : H1.size = H.size + 1) (o1 : ∀ q : Nat, q < H.size → H1[q]? = H[q]?) : va_S (fun q : Nat => B ≤ q) H0 H1 locs :=
  ⟨Nat.le_trans h.1 (by omega), fun x h1 h2 => (o1 x (Nat.lt_of_lt_of_le h1 h.1)).trans (h.2.1 x h1 h2), h.2.2⟩
theorem g_new {ix ci : Nat} {C : String} {T : u_T} {N : Nat} {fs : List Value} (hf : h_nl M.1.cls ix ci C T N fs) (hn : σ.2.1 + 1 ≤ B + h_CN) (hm : σ.2.2 + N ≤ h_CK) (hd : decode M.2.1 pc = .ok (.new ix, 3)) (k9 : G l D ty B Z M d σ0 P (h_new σ (.inr (ci, fs)) N) (pc + 3) lv (.ref σ.2.1 :: st)) : G l D ty B Z M d σ0 P σ pc lv st := by
  intro p e s m args below meth c C9 H locs ls hR hS h3 hl9
  obtain ⟨hc, hin, ⟨t0, hty, hfs⟩, hcl, hinst, hini⟩ := hf
  have hts := C9.2.2.2.2.2.1
  have hR0 := C9.2.2.2.2.2.2.2.2.2
  have e0 : s.heap.size = σ0.2.1 := hR0.2.2.1
  have e9 : H.size = σ.2.1 := hR.2.2.1
  have e8 := hS.1
  refine W.newc C9.1 C9.2.1 C9.2.2.2.2.1 (hts _ hcl) (hts _ hinst) (hts _ hini) rfl hd (by show _ ≤ B + h_CN - σ0.2.1; omega) (by show _ ≤ h_CK - σ0.2.2; omega) fun cC kC f1 f2 f3 f4 => ?_
  have hKn := hR.1.1 ci _ hc
  have hcC : cC = D.1 ci := Option.some.inj (f1.symm.trans hKn.2.1)
  subst hcC
  generalize hH1 : H.push ({ cls := D.1 ci, slots := kC.instanceTypes.map defaultValue, vm := .none } : Cell) = H1
  have z1 : H1.size = H.size + 1 := by rw [← hH1, Array.size_push]
  have e1 : H1[H.size]? = some (blank (D.1 ci) kC) := by rw [← hH1, Array.getElem?_push_size]; rfl
  have o1 : ∀ q : Nat, q < H.size → H1[q]? = H[q]? := fun q hq => by rw [← hH1, Array.getElem?_push, if_neg (Nat.ne_of_lt hq)]
  have hw := k9 p e s m args below meth c C9 H1 locs ls (h_mk C9.2.2.2.2.2.2.2.2.1 hR z1 o1 e1 (by show (kC.instanceTypes.map defaultValue).size = N; rw [Array.size_map]; exact f4) ⟨_, hc, (u_born t0 hts hin hKn f2 e1 hty).to hfs⟩ hn hm) (h_S2 hS z1 o1) (by show _ ≤ σ.2.2 + N; omega) hl9
  rw [e9]
  exact W.cs (by show _ = σ.2.1 + 1 - σ0.2.1; omega) (by show _ = σ.2.2 + N - σ0.2.2; omega) hw
theorem g_newa {t0 N : Nat} {cA : ClassId} {at_ : ArrayType} {et : FieldType} {n : Int32} {f : (Nat → Int32) ⊕ (Nat → Int64) ⊕ (Nat → UInt32) ⊕ (Nat → UInt64) ⊕ (Nat → Option Nat)} (ht : ty[t0]? = some (cA, et)) (hty : newarray.typeOf at_ = et) (hra : ∀ U : State, va_RA U cA et → U.vm.findClass ("[" ++ et.toString) = some cA) (hac : Cond.arrayClass et ∈ lw_g) (ha : vp_cell cA (N, f) = arrV cA N (fun _ => defaultValue et)) (h0 : ¬ n < 0) (hN : n.toNatClampNeg = N) (hbytes : N * componentBytes et ≤ 536870912) (hn : σ.2.1 + 1 ≤ B + h_CN) (hm : σ.2.2 + N ≤ h_CK) (hd : decode M.2.1 pc = .ok (.newarray at_, 2)) (k9 : G l D ty B Z M d σ0 P (h_new σ (.inl (cA, N, f)) N) (pc + 2) lv (.ref σ.2.1 :: st)) : G l D ty B Z M d σ0 P σ pc lv (.int n :: st) := by
  intro p e s m args below meth c C9 H locs ls hR hS h3 hl9
  subst hty
  have hts := C9.2.2.2.2.2.1
  have hR0 := C9.2.2.2.2.2.2.2.2.2
  have e0 : s.heap.size = σ0.2.1 := hR0.2.2.1
  have e9 : H.size = σ.2.1 := hR.2.2.1
  have e8 := hS.1
  refine va_newaK C9.1 C9.2.1 (hts _ hac) rfl hd rfl h0 hN hbytes (by show _ ≤ B + h_CN - σ0.2.1; omega) (by show _ ≤ h_CK - σ0.2.2; omega) rfl fun H1 cA' e1 z1 o1 hAr hNm => ?_
  have hcA : cA' = cA := Option.some.inj (hNm.symm.trans (hra s (hR.1.2 t0 _ ht).2))
  subst hcA
  rw [← ha] at e1
  have hw := k9 p e s m args below meth c C9 H1 locs ls (h_mk C9.2.2.2.2.2.2.2.2.1 hR z1 o1 e1 (h_csz _ _ _) e1 hn hm) (h_S2 hS z1 o1) (by show _ ≤ σ.2.2 + N; omega) hl9
  rw [e9]
  exact W.cs (by show _ = σ.2.1 + 1 - σ0.2.1; omega) (by show _ = σ.2.2 + N - σ0.2.2; omega) hw
theorem g_anew {t0 ix N : Nat} {cA : ClassId} {C : String} {n : Int32} (ht : ty[t0]? = some (cA, .object C)) (hcl : Cond.classLink M.1.cls ix C ∈ lw_g) (hov : ∀ (U : State) (H : Heap), Z U H → va_AO C U) (h0 : ¬ n < 0) (hN : n.toNatClampNeg = N) (hbytes : N * 4 ≤ 536870912) (hn : σ.2.1 + 1 ≤ B + h_CN) (hm : σ.2.2 + N ≤ h_CK) (hd : decode M.2.1 pc = .ok (.anewarray ix, 3)) (k9 : G l D ty B Z M d σ0 P (h_new σ (.inl (cA, N, .inr (.inr (.inr (.inr (fun _ => none)))))) N) (pc + 3) lv (.ref σ.2.1 :: st)) : G l D ty B Z M d σ0 P σ pc lv (.int n :: st) := by
  intro p e s m args below meth c C9 H locs ls hR hS h3 hl9
  subst hN
  have hts := C9.2.2.2.2.2.1
  have hR0 := C9.2.2.2.2.2.2.2.2.2
  have e0 : s.heap.size = σ0.2.1 := hR0.2.2.1
  have e9 : H.size = σ.2.1 := hR.2.2.1
  have e8 := hS.1
  refine W.anew C9.1 C9.2.1 C9.2.2.2.2.1 (hts _ hcl) (va_AO.use (hov s H hR.2.1)) rfl hd rfl h0 hbytes (by show _ ≤ B + h_CN - σ0.2.1; omega) (by show _ ≤ h_CK - σ0.2.2; omega) fun cA' kA comp f1 f2 f3 f4 => ?_
  obtain ⟨kA0, comp0, k1, k2, k3, k4⟩ := (hR.1.2 t0 _ ht).2
  have hcA : cA' = cA := Option.some.inj (f1.symm.trans k4)
  subst hcA
  generalize hH1 : H.push ({ cls := cA', slots := Array.replicate n.toNatClampNeg .null, vm := .none } : Cell) = H1
  have z1 : H1.size = H.size + 1 := by rw [← hH1, Array.size_push]
  have e1 : H1[H.size]? = some (vp_cell cA' (n.toNatClampNeg, .inr (.inr (.inr (.inr (fun _ => none)))))) := by rw [← hH1, Array.getElem?_push_size, vp_cell_q, ← arrV_new]; rfl
  have o1 : ∀ q : Nat, q < H.size → H1[q]? = H[q]? := fun q hq => by rw [← hH1, Array.getElem?_push, if_neg (Nat.ne_of_lt hq)]
  have hw := k9 p e s m args below meth c C9 H1 locs ls (h_mk C9.2.2.2.2.2.2.2.2.1 hR z1 o1 e1 (h_csz _ _ _) e1 hn hm) (h_S2 hS z1 o1) (by show _ ≤ σ.2.2 + _; omega) hl9
  rw [e9]
  exact W.cs (by show _ = σ.2.1 + 1 - σ0.2.1; omega) (by show _ = σ.2.2 + _ - σ0.2.2; omega) hw
end HG2
