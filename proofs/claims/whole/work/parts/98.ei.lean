/-! loops that look for one, and the names of fields on both sides -/
def anyB (p : Nat → Bool) : Nat → Nat → Bool
  | 0, _ => false
  | n + 1, i => p i || anyB p n (i + 1)
theorem anyB_iff {p : Nat → Bool} : ∀ (n i : Nat), anyB p n i = true ↔ ∃ j : Nat, i ≤ j ∧ j < i + n ∧ p j = true
  | 0, i => ⟨fun z => Bool.noConfusion z, fun ⟨j, j1, j2, _⟩ => by omega⟩
  | n + 1, i => by
    unfold anyB
    rw [Bool.or_eq_true, anyB_iff n (i + 1)]
    refine ⟨fun z => ?_, fun ⟨j, j1, j2, j3⟩ => ?_⟩
    · rcases z with z | ⟨j, j1, j2, j3⟩
      · exact ⟨i, Nat.le_refl _, by omega, z⟩
      · exact ⟨j, by omega, by omega, j3⟩
    · by_cases e : j = i
      · subst e; exact Or.inl j3
      · exact Or.inr ⟨j, by omega, by omega, j3⟩
theorem anyL {β : Type} {F : Nat → Int32 → Option β} {fin : Bool → Option β} {L : Nat} {p : Nat → Bool} (h : ∀ (n i : Nat), i ≤ L → F (n + 1) (nI i) = if L ≤ i then fin false else if p i = true then fin true else F n (nI (i + 1))) : ∀ (n i : Nat), L < i + n → i ≤ L → F n (nI i) = fin (anyB p (L - i) i) := by
  intro n
  induction n with
  | zero => intro i h1 h2; omega
  | succ n ih =>
    intro i h1 h2
    rw [h n i h2]
    by_cases c : L ≤ i
    · rw [if_pos c, show L - i = 0 by omega]; rfl
    · rw [if_neg c, show L - i = L - (i + 1) + 1 by omega]
      unfold anyB
      by_cases d : p i = true
      · rw [if_pos d, d, Bool.true_or]
      · rw [if_neg d, ih (i + 1) (by omega) (by omega), (Bool.not_eq_true _).mp d, Bool.false_or]
theorem any0 {β : Type} {F : Nat → Int32 → Option β} {fin : Bool → Option β} {L : Nat} {p : Nat → Bool} (h : ∀ (n i : Nat), i ≤ L → F (n + 1) (nI i) = if L ≤ i then fin false else if p i = true then fin true else F n (nI (i + 1))) (hL : L < uFu) : F uFu 0 = fin (anyB p L 0) := by
  have := anyL h uFu 0 (by omega) (Nat.zero_le _)
  rw [show nI 0 = 0 from rfl] at this
  exact this
theorem orL {β : Type} {F : Nat → Bool → Int32 → Option β} {fin : Bool → Option β} {L : Nat} {p : Nat → Bool} (h : ∀ (n : Nat) (b : Bool) (i : Nat), i ≤ L → F (n + 1) b (nI i) = if L ≤ i then fin b else F n (b || p i) (nI (i + 1))) : ∀ (n i : Nat) (b : Bool), L < i + n → i ≤ L → F n b (nI i) = fin (b || anyB p (L - i) i) := by
  intro n
  induction n with
  | zero => intro i b h1 h2; omega
  | succ n ih =>
    intro i b h1 h2
    rw [h n b i h2]
    by_cases c : L ≤ i
    · rw [if_pos c, show L - i = 0 by omega]
      unfold anyB
      rw [Bool.or_false]
    · rw [if_neg c, show L - i = L - (i + 1) + 1 by omega, ih (i + 1) _ (by omega) (by omega), Bool.or_assoc]
      rfl
theorem or0 {β : Type} {F : Nat → Bool → Int32 → Option β} {fin : Bool → Option β} {L : Nat} {p : Nat → Bool} (h : ∀ (n : Nat) (b : Bool) (i : Nat), i ≤ L → F (n + 1) b (nI i) = if L ≤ i then fin b else F n (b || p i) (nI (i + 1))) (hL : L < uFu) (b : Bool) : F uFu b 0 = fin (b || anyB p L 0) := by
  have := orL h uFu 0 b (by omega) (Nat.zero_le _)
  rw [show nI 0 = 0 from rfl] at this
  exact this
/-- a loop that stops once it has found, with a mark -/
theorem mrkL {β : Type} {F : Nat → Bool → Int32 → Option β} {fin : Bool → Option β} {L : Nat} {p : Nat → Bool} (h : ∀ (n : Nat) (b : Bool) (i : Nat), i ≤ L → F (n + 1) b (nI i) = if L ≤ i then fin b else if b = true then fin true else F n (p i) (nI (i + 1))) : ∀ (n i : Nat) (b : Bool), L < i + n → i ≤ L → F n b (nI i) = fin (b || anyB p (L - i) i) := by
  intro n
  induction n with
  | zero => intro i b h1 h2; omega
  | succ n ih =>
    intro i b h1 h2
    rw [h n b i h2]
    by_cases c : L ≤ i
    · rw [if_pos c, show L - i = 0 by omega]
      unfold anyB
      rw [Bool.or_false]
    · rw [if_neg c, show L - i = L - (i + 1) + 1 by omega]
      cases b with
      | true => rw [if_pos rfl, Bool.true_or]
      | false => rw [if_neg (by decide), ih (i + 1) _ (by omega) (by omega), Bool.false_or]; rfl
theorem mrk0 {β : Type} {F : Nat → Bool → Int32 → Option β} {fin : Bool → Option β} {L : Nat} {p : Nat → Bool} (h : ∀ (n : Nat) (b : Bool) (i : Nat), i ≤ L → F (n + 1) b (nI i) = if L ≤ i then fin b else if b = true then fin true else F n (p i) (nI (i + 1))) (hL : L < uFu) (b : Bool) : F uFu b 0 = fin (b || anyB p L 0) := by
  have := mrkL h uFu 0 b (by omega) (Nat.zero_le _)
  rw [show nI 0 = 0 from rfl] at this
  exact this
theorem c_sameText {s : uS} {k cap mo bg i k2 cap2 mo2 bg2 j : Nat} {ts ts2 : List (List Nat)} {cur cur2 : List Nat} {ci : Bool} (hk : uTx k cap mo) (h : cTz s k cap mo ts bg cur) (hi : i < ts.length) (hk2 : uTx k2 cap2 mo2) (h2 : cTz s k2 cap2 mo2 ts2 bg2 cur2) (hj : j < ts2.length) : fn_X9_isSameText k (nI i) k2 (nI j) ci s = some (eqT ci (ts.getD i []) (ts2.getD j [])) := by
  obtain ⟨fr, a1, a2, a3, a4⟩ := tz_rd hk h hi
  obtain ⟨fr2, b1, b2, b3, b4⟩ := tz_rd hk2 h2 hj
  have q1 := h.2.1
  have q2 := h2.2.1
  have q3 := hk.2.2.2.2
  have q4 := hk2.2.2.2.2
  unfold fn_X9_isSameText eqT
  rw [tz_len hk h hi, Option.bind_some, tz_has hk h (by omega), Option.bind_some, decide_eq_true hi, if_pos rfl, tz_has hk2 h2 (by omega), Option.bind_some, decide_eq_true hj, if_pos rfl, tz_len hk2 h2 hj, Option.bind_some]
  by_cases c : (ts.getD i []).length = (ts2.getD j []).length
  · rw [if_pos (by rw [c]), a1, Option.bind_some, b1, Option.bind_some, c, c_isSameAt a3 b3 c (by omega), Option.bind_some, decide_eq_true rfl, Bool.true_and]
    cases decide (∀ j_1 : Nat, j_1 < (ts2.getD j []).length → eqB ci ((ts.getD i []).getD j_1 0) ((ts2.getD j []).getD j_1 0) = true) <;> rfl
  · rw [if_neg (by rw [nI_eq (by omega) (by omega)]; exact c), decide_eq_false c, Bool.false_and]
/-! fields -/
abbrev fnm (fs : List (List Nat × List Nat)) (f : Nat) : List Nat := (fs.map Prod.fst).getD f []
abbrev fvl (fs : List (List Nat × List Nat)) (f : Nat) : List Nat := (fs.map Prod.snd).getD f []
def tot : List (List Nat × List Nat) → Nat
  | [] => 0
  | p :: fs => p.2.length + 4 + tot fs
def fsO (fs : List (List Nat × List Nat)) : Prop := tot fs ≤ 4000 ∧ ∀ f : Nat, bys (fnm fs f) ∧ bys (fvl fs f) ∧ (fnm fs f).length ≤ 60
theorem tot_len : ∀ fs : List (List Nat × List Nat), 4 * fs.length ≤ tot fs
  | [] => Nat.le_refl _
  | p :: fs => by
    have := tot_len fs
    unfold tot
    simp only [List.length_cons]
    omega
theorem tot_vl : ∀ (fs : List (List Nat × List Nat)) (f : Nat), (fvl fs f).length ≤ tot fs
  | [], f => by simp [fvl, tot]
  | p :: fs, 0 => by simp [fvl, tot]; omega
  | p :: fs, f + 1 => by
    have := tot_vl fs f
    unfold tot
    show (fvl fs f).length ≤ _
    omega
theorem uTx_nm : uTx 1054 4400 1001 := by refine ⟨by omega, by decide, by decide, by decide, by omega, by omega⟩
theorem uTx_vl : uTx 1058 4400 1001 := by refine ⟨by omega, by decide, by decide, by decide, by omega, by omega⟩
theorem uTx_fd : uTx 1062 4400 1001 := by refine ⟨by omega, by decide, by decide, by decide, by omega, by omega⟩
theorem uTx_fc : uTx 1066 10 1 := by refine ⟨by omega, by decide, by decide, by decide, by omega, by omega⟩
theorem uTx_sn : uTx 1043 101 1 := by refine ⟨by omega, by decide, by decide, by decide, by omega, by omega⟩
theorem uTx_rc : uTx 1047 404 4 := by refine ⟨by omega, by decide, by decide, by decide, by omega, by omega⟩
/-- the fields as the class holds them -/
def cFl (s : uS) (fs : List (List Nat × List Nat)) : Prop := ∃ b1 b2 : Nat, cTz s 1054 4400 1001 (fs.map Prod.fst) b1 [] ∧ cTz s 1058 4400 1001 (fs.map Prod.snd) b2 []
def rTx (t : uS) (ka ks kr f cap : Nat) (x : List Nat) : Prop := ∃ a : Nat, a + x.length ≤ cap ∧ t.F ka f = nI a ∧ t.F ks f = nI x.length ∧ ∀ j : Nat, j < x.length → t.F kr (a + j) = nI (x.getD j 0)
/-- the fields as the reference holds them -/
def rFl (t : uS) (fs : List (List Nat × List Nat)) : Prop := t.I 1079 14 = nI fs.length ∧ ∀ f : Nat, f < fs.length → rTx t 1088 1089 1087 f 4000 (fnm fs f) ∧ rTx t 1090 1091 1092 f 4100 (fvl fs f)
def lsdB (ns : List (List Nat)) (f a : Nat) (nm : List Nat) : Bool := anyB (fun j => eqT true nm (ns.getD (f + j) [])) a 0
theorem b_if {α : Type} {b : Bool} {x : Bool → α} : (if b = true then x true else x false) = x b := by cases b <;> rfl
theorem c_listed {s : uS} {fs : List (List Nat × List Nat)} {ts : List (List Nat)} {bg nd i f a : Nat} (h : cFl s fs) (hs : cTz s 8 2000 301 ts bg []) (h1 : iget 20 s (nd + 1) 0 = some (nI f)) (h2 : iget 20 s (nd + 2) 0 = some (nI a)) (hf : f + a ≤ ts.length) (hi : i < fs.length) : fn_X6_isListed nd (nI i) s = some (lsdB ts f a (fnm fs i)) := by
  obtain ⟨b1, b2, n1, -⟩ := h
  have hl := hs.2.1
  unfold fn_X6_isListed lsdB
  refine any0 (F := fun n x => fn_X6_isListed_2 n nd (nI i) x s) (p := fun j => eqT true (fnm fs i) (ts.getD (f + j) [])) (fin := fun b => some b) (fun n j hj => ?_) (by show _ < 1000000; omega)
  show fb_X6_isListed_2 (fn_X6_isListed_2 n) nd (nI i) (nI j) s = _
  unfold fb_X6_isListed_2
  rw [h2, Option.bind_some]
  by_cases c : a ≤ j
  · rw [if_pos (nI_le c (by omega)), if_pos c]
  · rw [if_neg (nI_ge (by omega) (by omega)), if_neg c, h1, Option.bind_some, nI_add, c_sameText uTx_nm n1 (by rw [List.length_map]; exact hi) uTx_str hs (by omega), Option.bind_some, nI_1]
def allN (fs : List (List Nat × List Nat)) (ts : List (List Nat)) (f a : Nat) : Bool := !anyB (fun j => !anyB (fun i => eqT true (fnm fs i) (ts.getD (f + j) [])) fs.length 0) a 0
theorem c_allF {s : uS} {fs : List (List Nat × List Nat)} {ts : List (List Nat)} {bg nd f a : Nat} (h : cFl s fs) (hs : cTz s 8 2000 301 ts bg []) (h1 : iget 20 s (nd + 1) 0 = some (nI f)) (h2 : iget 20 s (nd + 2) 0 = some (nI a)) (hf : f + a ≤ ts.length) : fn_X6_hasAllFields nd s = some (allN fs ts f a) := by
  obtain ⟨b1, b2, n1, -⟩ := h
  have hl := hs.2.1
  have hl2 := n1.2.1
  rw [List.length_map] at hl2
  unfold fn_X6_hasAllFields allN
  refine any0 (F := fun n x => fn_X6_hasAllFields_2 n nd x s) (p := fun j => !anyB (fun i => eqT true (fnm fs i) (ts.getD (f + j) [])) fs.length 0) (fin := fun b => some (!b)) (L := a) (fun n j hj => ?_) (by show _ < 1000000; omega)
  show fb_X6_hasAllFields_2 (fn_X6_hasAllFields_2 n) nd (nI j) s = _
  unfold fb_X6_hasAllFields_2
  rw [h2, Option.bind_some]
  by_cases c : a ≤ j
  · rw [if_pos (nI_le c (by omega)), if_pos c]; rfl
  · rw [if_neg (nI_ge (by omega) (by omega)), if_neg c, mrk0 (F := fun m b x => fn_X6_hasAllFields_17 (fn_X6_hasAllFields_2 n) m nd (nI j) b x s) (p := fun i => eqT true (fnm fs i) (ts.getD (f + j) [])) (fin := fun b => fb_X6_hasAllFields_62 (fn_X6_hasAllFields_2 n) nd (nI j) b s) (L := fs.length) (fun m b i hi => ?_) (by show _ < 1000000; omega) false]
    · unfold fb_X6_hasAllFields_62
      rw [Bool.false_or, nI_1]
      cases anyB (fun i => eqT true (fnm fs i) (ts.getD (f + j) [])) fs.length 0 <;> rfl
    · show fb_X6_hasAllFields_17 (fn_X6_hasAllFields_2 n) (fn_X6_hasAllFields_17 (fn_X6_hasAllFields_2 n) m) nd (nI j) b (nI i) s = _
      unfold fb_X6_hasAllFields_17
      rw [n1.1, List.length_map]
      by_cases d : fs.length ≤ i
      · rw [if_pos (nI_le d (by omega)), if_pos d]
      · rw [if_neg (nI_ge (by omega) (by omega)), if_neg d]
        cases b with
        | true => rfl
        | false => rw [if_neg (by decide), if_neg (by decide), h1, Option.bind_some, nI_add, c_sameText uTx_nm n1 (by rw [List.length_map]; omega) uTx_str hs (by omega), Option.bind_some, nI_1]
/-! the reference -/
theorem r_nmd {t : uS} {fs : List (List Nat × List Nat)} {ts : List (List Nat)} {i j : Nat} (h : rFl t fs) (ho : fsO fs) (hs : rSt t ts) (hi : i < fs.length) (hj : j < ts.length) : fn_X12_isNamed (nI i) (nI j) t = some (eqT true (fnm fs i) (ts.getD j [])) := by
  obtain ⟨a, a1, a2, a3, a4⟩ := (h.2 i hi).1
  obtain ⟨bg, s1, s2, s3, s4⟩ := hs
  obtain ⟨p, p1, p2, p3, pl, p4⟩ := s1 j hj
  have b1 := s4 j
  have b2 := (ho.2 i).1
  have b3 := tot_len fs
  have b4 := ho.1
  generalize ts.getD j [] = y at *
  generalize fnm fs i = x at *
  unfold fn_X12_isNamed eqT
  rw [g_1089 (by omega), Option.bind_some, a3, g_1117 (by omega), Option.bind_some, p3]
  by_cases c : x.length = y.length
  · rw [if_pos (by rw [c]), decide_eq_true c, Bool.true_and, cmp0 (F := fun n b x1 => fn_X12_isNamed_24 n (nI i) (nI j) b x1 t) (p := fun k => eqB true (x.getD k 0) (y.getD k 0)) (fin := fun b => some b) (L := y.length) (fun n b k hk => ?_) (by show _ < 1000000; omega) true, Bool.true_and]
    show fb_X12_isNamed_24 (fn_X12_isNamed_24 n) (nI i) (nI j) b (nI k) t = _
    unfold fb_X12_isNamed_24
    rw [g_1089 (by omega), Option.bind_some, a3]
    by_cases d : y.length ≤ k
    · rw [if_pos (nI_le (by omega) (by omega)), if_pos d]
    · rw [if_neg (nI_ge (by omega) (by omega)), if_neg d]
      cases b with
      | false => rfl
      | true =>
        rw [if_pos rfl, if_pos rfl, g_1088 (by omega), Option.bind_some, a2, nI_add, g_1087 (by omega), Option.bind_some, a4 k (by omega), r_lowN (by have := b2 k; omega), Option.bind_some, g_1116 (by omega), Option.bind_some, p2, nI_add, g_1097 (by omega), Option.bind_some, p4 k (by omega), r_lowN (by have := b1 k; omega), Option.bind_some, nI_1]
        unfold eqB
        rw [if_pos rfl]
        have e := nI_eq (a := lo (x.getD k 0)) (b := lo (y.getD k 0)) (by have := lo_lt (b2 k); omega) (by have := lo_lt (b1 k); omega)
        by_cases w : lo (x.getD k 0) = lo (y.getD k 0)
        · rw [if_pos (e.mpr w), decide_eq_true w]
        · rw [if_neg (fun z => w (e.mp z)), decide_eq_false w]
  · rw [if_neg (by rw [nI_eq (by omega) (by omega)]; exact c), decide_eq_false c, Bool.false_and]
    show fb_X12_isNamed_24 (fn_X12_isNamed_24 999999) (nI i) (nI j) false (nI 0) t = _
    unfold fb_X12_isNamed_24
    rw [g_1089 (by omega), Option.bind_some, if_neg (show ¬ (false = true) by decide)]
    split <;> rfl
theorem r_among {t : uS} {fs : List (List Nat × List Nat)} {ts : List (List Nat)} {n i f a : Nat} (h : rFl t fs) (ho : fsO fs) (hs : rSt t ts) (hn : n < 520) (h1 : t.F 1102 n = nI f) (h2 : t.F 1103 n = nI a) (hf : f + a ≤ ts.length) (hi : i < fs.length) : fn_X12_isAmong (nI n) (nI i) t = some (lsdB ts f a (fnm fs i)) := by
  have hl := hs
  obtain ⟨bg, -, -, l3, -⟩ := hl
  unfold fn_X12_isAmong lsdB
  rw [or0 (F := fun m b x => fn_X12_isAmong_5 m (nI n) (nI i) b x t) (p := fun j => eqT true (fnm fs i) (ts.getD (f + j) [])) (fin := fun b => some b) (L := a) (fun m b j hj => ?_) (by show _ < 1000000; omega) false, Bool.false_or]
  show fb_X12_isAmong_5 (fn_X12_isAmong_5 m) (nI n) (nI i) b (nI j) t = _
  unfold fb_X12_isAmong_5
  rw [g_1103 hn, Option.bind_some, h2]
  by_cases c : a ≤ j
  · rw [if_pos (nI_le c (by omega)), if_pos c]
  · rw [if_neg (nI_ge (by omega) (by omega)), if_neg c, nI_1]
    cases b with
    | true => rfl
    | false => rw [if_neg (by decide), g_1102 hn, Option.bind_some, h1, nI_add, r_nmd h ho hs hi (by omega), Option.bind_some, Bool.false_or, b_if (x := fun b => fn_X12_isAmong_5 m (nI n) (nI i) b (nI (j + 1)) t)]
theorem r_exists {t : uS} {fs : List (List Nat × List Nat)} {ts : List (List Nat)} {n f a : Nat} (h : rFl t fs) (ho : fsO fs) (hs : rSt t ts) (hn : n < 520) (h1 : t.F 1102 n = nI f) (h2 : t.F 1103 n = nI a) (hf : f + a ≤ ts.length) : fn_X12_exists (nI n) t = some (allN fs ts f a) := by
  have hl := hs
  obtain ⟨bg, -, -, l3, -⟩ := hl
  have b3 := tot_len fs
  have b4 := ho.1
  unfold fn_X12_exists allN
  have := or0 (F := fun m b x => fn_X12_exists_4 m (nI n) (!b) x t) (p := fun j => !anyB (fun i => eqT true (fnm fs i) (ts.getD (f + j) [])) fs.length 0) (fin := fun b => some (!b)) (L := a) (fun m b j hj => ?_) (by show _ < 1000000; omega) false
  · rw [Bool.false_or] at this; exact this
  show fb_X12_exists_4 (fn_X12_exists_4 m) (nI n) (!b) (nI j) t = _
  unfold fb_X12_exists_4
  rw [g_1103 hn, Option.bind_some, h2]
  by_cases c : a ≤ j
  · rw [if_pos (nI_le c (by omega)), if_pos c]
  · rw [if_neg (nI_ge (by omega) (by omega)), if_neg c, or0 (F := fun q b4 x => fn_X12_exists_20 (fn_X12_exists_4 m) q (nI n) (!b) (nI j) b4 x t) (p := fun i => eqT true (fnm fs i) (ts.getD (f + j) [])) (fin := fun b4 => fn_X12_exists_4 m (nI n) (!(b || !b4)) (nI (j + 1)) t) (L := fs.length) (fun q b4 i hi => ?_) (by show _ < 1000000; omega) false, Bool.false_or]
    show fb_X12_exists_20 (fn_X12_exists_4 m) (fn_X12_exists_20 (fn_X12_exists_4 m) q) (nI n) (!b) (nI j) b4 (nI i) t = _
    unfold fb_X12_exists_20
    rw [h.1]
    by_cases d : fs.length ≤ i
    · rw [if_pos (nI_le d (by omega)), if_pos d, nI_1]
      cases b <;> cases b4 <;> rfl
    · rw [if_neg (nI_ge (by omega) (by omega)), if_neg d, nI_1]
      cases b4 with
      | true => rfl
      | false => rw [if_neg (by decide), g_1102 hn, Option.bind_some, h1, nI_add, r_nmd h ho hs (by omega) (by omega), Option.bind_some, Bool.false_or, b_if (x := fun b4 => fn_X12_exists_20 (fn_X12_exists_4 m) q (nI n) (!b) (nI j) b4 (nI (i + 1)) t)]
