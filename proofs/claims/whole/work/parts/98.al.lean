/-! words: what place() finds, told as the first word of a list that is like a text; the reference's isOrder, orderOf -/
def eqF (bs : List Nat) (a : Nat) (w : List Nat) : Bool := decide (bs.length = a + w.length ∧ ∀ j : Nat, j < w.length → lo (bs.getD (a + j) 0) = lo (w.getD j 0))
def eqW (bs w : List Nat) : Bool := eqF bs 0 w
def spl : List Nat → List Nat × List (List Nat)
  | [] => ([], [])
  | c :: W => if c = 32 then ([], (spl W).1 :: (spl W).2) else (c :: (spl W).1, (spl W).2)
def wix (bs : List Nat) : List (List Nat) → Nat → Option Nat
  | [], _ => none
  | w :: ws, i => if eqW bs w = true then some i else wix bs ws (i + 1)
theorem eqF_nil {bs : List Nat} {a : Nat} : eqF bs a [] = true ↔ a = bs.length := by
  unfold eqF
  rw [decide_eq_true_eq]
  exact ⟨fun h => h.1.symm, fun h => ⟨h.symm, fun j hj => absurd hj (Nat.not_lt_zero j)⟩⟩
theorem eqF_cons {bs : List Nat} {a c : Nat} {w : List Nat} : eqF bs a (c :: w) = true ↔ (a < bs.length ∧ up (bs.getD a 0) = up c) ∧ eqF bs (a + 1) w = true := by
  unfold eqF
  rw [decide_eq_true_eq, decide_eq_true_eq, List.length_cons, up_lo]
  constructor
  · intro h
    refine ⟨⟨by omega, ?_⟩, by omega, ?_⟩
    · exact h.2 0 (by omega)
    · intro j hj
      have := h.2 (j + 1) (by omega)
      rw [show a + 1 + j = a + (j + 1) by omega]
      exact this
  · intro h
    refine ⟨by omega, ?_⟩
    intro j hj
    cases j with
    | zero => exact h.1.2
    | succ j =>
      have := h.2.2 j (by omega)
      rw [show a + 1 + j = a + (j + 1) by omega] at this
      exact this
theorem plc_spl (bs : List Nat) : ∀ (W : List Nat) (pl a : Nat) (sm : Bool), plc bs W pl a sm = if sm = true ∧ eqF bs a (spl W).1 = true then some pl else wix bs (spl W).2 (pl + 1) := by
  intro W
  induction W with
  | nil =>
    intro pl a sm
    unfold plc spl
    by_cases c : sm = true ∧ a = bs.length
    · rw [if_pos c, if_pos ⟨c.1, eqF_nil.mpr c.2⟩]
    · rw [if_neg c, if_neg (fun e => c ⟨e.1, eqF_nil.mp e.2⟩)]
      rfl
  | cons c W ih =>
    intro pl a sm
    unfold plc spl
    by_cases d : c = 32
    · rw [if_pos d, if_pos d]
      by_cases e : sm = true ∧ a = bs.length
      · rw [if_pos e, if_pos ⟨e.1, eqF_nil.mpr e.2⟩]
      · rw [if_neg e, if_neg (fun f => e ⟨f.1, eqF_nil.mp f.2⟩), ih]
        show _ = if eqF bs 0 (spl W).1 = true then _ else _
        by_cases g : eqF bs 0 (spl W).1 = true
        · rw [if_pos ⟨rfl, g⟩, if_pos g]
        · rw [if_neg (fun f => g f.2), if_neg g]
    · rw [if_neg d, if_neg d, ih]
      have : ((sm && decide (a < bs.length) && decide (up (bs.getD a 0) = up c)) = true ∧ eqF bs (a + 1) (spl W).1 = true) ↔ (sm = true ∧ eqF bs a (c :: (spl W).1) = true) := by
        rw [eqF_cons, Bool.and_eq_true, Bool.and_eq_true, decide_eq_true_eq, decide_eq_true_eq]
        exact ⟨fun h => ⟨h.1.1.1, ⟨h.1.1.2, h.1.2⟩, h.2⟩, fun h => ⟨⟨⟨h.1, h.2.1.1⟩, h.2.1.2⟩, h.2.2⟩⟩
      by_cases g : (sm = true ∧ eqF bs a (c :: (spl W).1) = true)
      · rw [if_pos (this.mpr g), if_pos g]
      · rw [if_neg (fun f => g (this.mp f)), if_neg g]
theorem plc_wix (bs W : List Nat) : plc bs W 0 0 true = wix bs ((spl W).1 :: (spl W).2) 0 := by
  rw [plc_spl]
  show _ = if eqF bs 0 (spl W).1 = true then _ else _
  by_cases g : eqF bs 0 (spl W).1 = true
  · rw [if_pos ⟨rfl, g⟩, if_pos g]
  · rw [if_neg (fun f => g f.2), if_neg g]
theorem lo_lo (b : Nat) : lo (lo b) = lo b := by
  unfold lo
  split
  · rw [if_neg (by omega)]
  · rfl
theorem getD_map_lo (w : List Nat) (j : Nat) (h : j < w.length) : (w.map lo).getD j 0 = lo (w.getD j 0) := by
  rw [List.getD_eq_getElem?_getD, List.getElem?_map, List.getD_eq_getElem?_getD, List.getElem?_eq_getElem h]
  rfl
theorem eqW_lo (bs w : List Nat) : eqW bs (w.map lo) = eqW bs w := by
  unfold eqW eqF
  apply decide_eq_decide.mpr
  rw [List.length_map]
  exact ⟨fun h => ⟨h.1, fun j hj => by have := h.2 j hj; rw [getD_map_lo _ _ hj, lo_lo] at this; exact this⟩, fun h => ⟨h.1, fun j hj => by have := h.2 j hj; rw [getD_map_lo _ _ hj, lo_lo]; exact this⟩⟩
theorem wix_lo (bs : List Nat) : ∀ (ws : List (List Nat)) (i : Nat), wix bs (ws.map (List.map lo)) i = wix bs ws i := by
  intro ws
  induction ws with
  | nil => intro i; rfl
  | cons w ws ih =>
    intro i
    show (if eqW bs (w.map lo) = true then _ else wix bs (ws.map (List.map lo)) (i + 1)) = if eqW bs w = true then _ else _
    rw [eqW_lo, ih]
theorem wix_lt {bs : List Nat} : ∀ {ws : List (List Nat)} {i j : Nat}, wix bs ws i = some j → i ≤ j ∧ j < i + ws.length := by
  intro ws
  induction ws with
  | nil => intro i j h; cases h
  | cons w ws ih =>
    intro i j h
    unfold wix at h
    rw [List.length_cons]
    split at h
    · cases h; omega
    · have := ih h; omega
def lwc (w : List Nat) : Prop := ∀ c ∈ w, c < 128 ∧ lo c = c
theorem lwc.at {w : List Nat} (h : lwc w) {j : Nat} (hj : j < w.length) : w.getD j 0 < 128 ∧ lo (w.getD j 0) = w.getD j 0 := h _ (getD_mem hj)
theorem eqW_len {bs w : List Nat} (h : eqW bs w = true) : bs.length = w.length := by
  unfold eqW eqF at h
  rw [decide_eq_true_eq] at h
  omega
theorem eqW_r {bs w : List Nat} (hw : lwc w) : eqW bs w = (decide (bs.length = w.length) && decide (∀ j : Nat, j < w.length → lo (bs.getD j 0) = w.getD j 0)) := by
  unfold eqW eqF
  rw [← Bool.decide_and]
  apply decide_eq_decide.mpr
  simp only [Nat.zero_add]
  exact ⟨fun h => ⟨h.1, fun j hj => (h.2 j hj).trans (hw.at hj).2⟩, fun h => ⟨h.1, fun j hj => (h.2 j hj).trans (hw.at hj).2.symm⟩⟩
/-- the first place of a byte -/
def fnb (bs : List Nat) (b : Nat) : Nat → Nat → Option Nat
  | _, 0 => none
  | i, n + 1 => if bs.getD i 0 = b then some i else fnb bs b (i + 1) n
theorem c_findL {s : uS} {k fr b : Nat} {bs : List Nat} (h : rdC s k fr bs) (hb : b < 128) : ∀ (n i : Nat), bs.length < i + n → i ≤ bs.length → fn_X9_find_3 n k (nI (fr + bs.length)) (nI b) (nI (fr + i)) s = some (match fnb bs b i (bs.length - i) with | none => -1 | some j => nI (fr + j)) := by
  obtain ⟨h1, h2, h3⟩ := h
  intro n
  induction n with
  | zero => intro i c1 c2; omega
  | succ n ih =>
    intro i c1 c2
    unfold fn_X9_find_3 fb_X9_find_3
    by_cases c : i = bs.length
    · rw [c, Nat.sub_self, if_pos (nI_le (Nat.le_refl _) (by omega))]
      rfl
    · rw [if_neg (nI_ge (by omega) (by omega)), h3 i (by omega), Option.bind_some, show bs.length - i = (bs.length - (i + 1)) + 1 by omega]
      unfold fnb
      by_cases d : bs.getD i 0 = b
      · rw [if_pos ((sb_e (h2 i) hb).mpr d), if_pos d]
      · rw [if_neg (fun e => d ((sb_e (h2 i) hb).mp e)), if_neg d, nI_1, Nat.add_assoc]
        exact ih (i + 1) (by omega) (by omega)
theorem c_find {s : uS} {k fr b : Nat} {bs : List Nat} (h : rdC s k fr bs) (hb : b < 128) (hl : bs.length < 900000) : fn_X9_find k (nI fr) (nI (fr + bs.length)) (nI b) s = some (match fnb bs b 0 bs.length with | none => -1 | some j => nI (fr + j)) := by
  have := c_findL h hb uFu 0 (by show bs.length < 0 + 1000000; omega) (Nat.zero_le _)
  rw [Nat.add_zero, Nat.sub_zero] at this
  exact this
theorem fnb_some {bs : List Nat} {b : Nat} : ∀ {n i j : Nat}, fnb bs b i n = some j → i ≤ j ∧ j < i + n ∧ bs.getD j 0 = b ∧ ∀ q : Nat, i ≤ q → q < j → bs.getD q 0 ≠ b := by
  intro n
  induction n with
  | zero => intro i j h; cases h
  | succ n ih =>
    intro i j h
    unfold fnb at h
    split at h
    · cases h; rename_i c; exact ⟨Nat.le_refl _, by omega, c, fun q a b => by omega⟩
    · rename_i c
      obtain ⟨a1, a2, a3, a4⟩ := ih h
      exact ⟨by omega, by omega, a3, fun q b1 b2 => (by by_cases d : q = i; exact d ▸ c; exact a4 q (by omega) b2)⟩
theorem fnb_none {bs : List Nat} {b : Nat} : ∀ {n i : Nat}, fnb bs b i n = none → ∀ q : Nat, i ≤ q → q < i + n → bs.getD q 0 ≠ b := by
  intro n
  induction n with
  | zero => intro i h q a b; omega
  | succ n ih =>
    intro i h q a1 a2
    unfold fnb at h
    split at h
    · cases h
    · rename_i c
      by_cases d : q = i
      · exact d ▸ c
      · exact ih h q (by omega) (by omega)
theorem r_isOrder {s : uS} {u : Nat} {bs w : List Nat} (hu : u < 4) (h1 : s.F 1157 u = nI bs.length) (hb : bys bs) (hl : bs.length ≤ 20) (h2 : ∀ j : Nat, j < bs.length → s.F 1158 (20 * u + j) = nI (bs.getD j 0)) (hw : lwc w) (hwl : w.length ≤ 20) : fn_X12_isOrder (nI u) w s = some (eqW bs w) := by
  have key : ∀ b : Bool, (b = true → bs.length = w.length) → fn_X12_isOrder_22 uFu (nI u) w b 0 s = some (b && decide (∀ j : Nat, j < w.length → (decide (lo (bs.getD j 0) = w.getD j 0)) = true)) := by
    intro b hbb
    cases b with
    | false =>
      show fb_X12_isOrder_22 _ (nI u) w false 0 s = _
      unfold fb_X12_isOrder_22
      rw [if_neg (by decide : ¬ (false = true))]
      split <;> rfl
    | true =>
      have hlen := hbb rfl
      refine cmp0 (F := fun n b i => fn_X12_isOrder_22 n (nI u) w b i s) (fin := fun b => some b) (L := w.length) (p := fun j => decide (lo (bs.getD j 0) = w.getD j 0)) ?_ (by show w.length < 1000000; omega) true
      intro n b i hi
      show fb_X12_isOrder_22 _ (nI u) w b (nI i) s = _
      unfold fb_X12_isOrder_22
      by_cases c : w.length ≤ i
      · rw [if_pos (nI_le c (by omega)), if_pos c]
      · rw [if_neg (nI_ge (by omega) (by omega)), if_neg c]
        cases b with
        | false => rfl
        | true =>
          have h8 := hb i
          have hc := hw.at (show i < w.length by omega)
          simp (disch := omega) only [↓reduceIte, lit, nI_mul, nI_add, g_1158, Option.bind_some, h2 i (by omega), r_lowN, stget_c (show i < w.length by omega) (show w.length < 2 ^ 31 by omega)]
          have hlo := lo_lt h8
          by_cases e : lo (bs.getD i 0) = w.getD i 0
          · rw [if_pos (by rw [e]), decide_eq_true e]
          · rw [if_neg (by rw [nI_eq (by omega) (by omega)]; exact e), decide_eq_false e]
  unfold fn_X12_isOrder
  rw [g_1157 hu, Option.bind_some, h1, eqW_r hw]
  simp only [decide_eq_true_eq] at key
  by_cases c : bs.length = w.length
  · rw [if_pos (by rw [c]), key true (fun _ => c), decide_eq_true c]
  · rw [if_neg (by rw [nI_eq (by omega) (by omega)]; exact c), key false (fun e => by cases e), decide_eq_false c]
def ordW : List (List Nat) := [kW_192, kW_193, kW_194, kW_195, kW_196, kW_197, kW_198, kW_199, kW_200]
theorem lwc_ord : ∀ w ∈ ordW, lwc w ∧ w.length ≤ 12 := by unfold ordW lwc; decide +kernel
theorem r_orderOf {s : uS} {u : Nat} {bs : List Nat} (hu : u < 4) (h1 : s.F 1157 u = nI bs.length) (hb : bys bs) (hl : bs.length ≤ 20) (h2 : ∀ j : Nat, j < bs.length → s.F 1158 (20 * u + j) = nI (bs.getD j 0)) : fn_X12_orderOf (nI u) s = some (oI (wix bs ordW 0)) := by
  have k : ∀ w ∈ ordW, fn_X12_isOrder (nI u) w s = some (eqW bs w) := fun w hw => r_isOrder hu h1 hb hl h2 (lwc_ord w hw).1 (by have := (lwc_ord w hw).2; omega)
  unfold fn_X12_orderOf
  simp only [k kW_192 (by simp [ordW]), k kW_193 (by simp [ordW]), k kW_194 (by simp [ordW]), k kW_195 (by simp [ordW]), k kW_196 (by simp [ordW]), k kW_197 (by simp [ordW]), k kW_198 (by simp [ordW]), k kW_199 (by simp [ordW]), k kW_200 (by simp [ordW]), Option.bind_some]
  unfold ordW wix wix wix wix wix wix wix wix wix wix
  split
  · rfl
  split
  · rfl
  split
  · rfl
  split
  · rfl
  split
  · rfl
  split
  · rfl
  split
  · rfl
  split
  · rfl
  split
  · rfl
  · rfl
theorem c_ordW (bs : List Nat) : plc bs kW_67 0 0 true = wix bs ordW 0 := by
  rw [plc_wix, ← wix_lo]
  rfl
theorem wix_long {bs : List Nat} (h : 12 < bs.length) : wix bs ordW 0 = none := by
  have k : ∀ w ∈ ordW, ¬ eqW bs w = true := fun w hw e => by have := (lwc_ord w hw).2; have := eqW_len e; omega
  unfold ordW wix wix wix wix wix wix wix wix wix wix
  rw [if_neg (k kW_192 (by simp [ordW])), if_neg (k kW_193 (by simp [ordW])), if_neg (k kW_194 (by simp [ordW])), if_neg (k kW_195 (by simp [ordW])), if_neg (k kW_196 (by simp [ordW])), if_neg (k kW_197 (by simp [ordW])), if_neg (k kW_198 (by simp [ordW])), if_neg (k kW_199 (by simp [ordW])), if_neg (k kW_200 (by simp [ordW]))]
