/-! bytes as numbers below 256: the class's cell sb b, the reference's nI b -/
def sb (b : Nat) : Int32 := (nI b).toInt8.toInt32
theorem sb_toInt {b : Nat} (h : b < 256) : (sb b).toInt = if b < 128 then (b : Int) else (b : Int) - 256 := by
  have : ∀ b, b < 256 → (sb b).toInt = if b < 128 then (b : Int) else (b : Int) - 256 := by decide +kernel
  exact this b h
theorem sb_and {b : Nat} (h : b < 256) : sb b &&& 255 = nI b := by
  have : ∀ b, b < 256 → sb b &&& 255 = nI b := by decide +kernel
  exact this b h
theorem sb_i8 {b : Nat} (h : b < 256) : (sb b).toInt8.toInt32 = sb b := by
  have : ∀ b, b < 256 → (sb b).toInt8.toInt32 = sb b := by decide +kernel
  exact this b h
theorem sb_nI {b : Nat} (h : b < 128) : sb b = nI b := by
  have : ∀ b, b < 128 → sb b = nI b := by decide +kernel
  exact this b h
theorem sb_e {b c : Nat} (h : b < 256) (hc : c < 128) : sb b = nI c ↔ b = c := by
  rw [← Int32.toInt_inj, sb_toInt h, nI_toInt (by omega)]
  split <;> omega
theorem e_sb {b c : Nat} (h : b < 256) (hc : c < 128) : nI c = sb b ↔ b = c := eq_comm.trans (sb_e h hc)
theorem sb_inj {b c : Nat} (h : b < 256) (hc : c < 256) : sb b = sb c ↔ b = c := by
  rw [← Int32.toInt_inj, sb_toInt h, sb_toInt hc]
  split <;> split <;> omega
theorem sb_le {b c : Nat} (h : b < 256) (hc : c < 2 ^ 31) : sb b ≤ nI c ↔ (b ≤ c ∨ 128 ≤ b) := by
  rw [Int32.le_iff_toInt_le, sb_toInt h, nI_toInt hc]
  split <;> omega
theorem sb_lt {b c : Nat} (h : b < 256) (hc : c < 2 ^ 31) : sb b < nI c ↔ (b < c ∨ 128 ≤ b) := by
  rw [Int32.lt_iff_toInt_lt, sb_toInt h, nI_toInt hc]
  split <;> omega
theorem le_sb {b c : Nat} (h : b < 256) (hc : c < 2 ^ 31) : nI c ≤ sb b ↔ (c ≤ b ∧ b < 128) := by
  rw [Int32.le_iff_toInt_le, sb_toInt h, nI_toInt hc]
  split <;> omega
theorem lt_sb {b c : Nat} (h : b < 256) (hc : c < 2 ^ 31) : nI c < sb b ↔ (c < b ∧ b < 128) := by
  rw [Int32.lt_iff_toInt_lt, sb_toInt h, nI_toInt hc]
  split <;> omega
def lo (b : Nat) : Nat := if 65 ≤ b ∧ b ≤ 90 then b + 32 else b
def up (b : Nat) : Nat := if 97 ≤ b ∧ b ≤ 122 then b - 32 else b
theorem up_lo (b c : Nat) : up b = up c ↔ lo b = lo c := by
  unfold up lo
  split <;> split <;> split <;> split <;> omega
theorem up_lt {b : Nat} (h : b < 256) : up b < 256 := by unfold up; split <;> omega
theorem lo_lt {b : Nat} (h : b < 256) : lo b < 256 := by unfold lo; split <;> omega
theorem c_upS {b : Nat} (h : b < 256) (s : uS) : fn_X9_upper (sb b) s = some (sb (up b)) := by
  have : ∀ b, b < 256 → (if sb b < 97 then sb b else if (122 : Int32) < sb b then sb b else sb b - 32) = sb (up b) := by decide +kernel
  unfold fn_X9_upper
  rw [← this b h]
  split
  · rfl
  · split <;> rfl
theorem c_upN {b : Nat} (h : b < 2 ^ 31) (s : uS) : fn_X9_upper (nI b) s = some (nI (up b)) := by
  unfold fn_X9_upper up
  simp (disch := omega) only [lit, nI_ltJ]
  split
  · rw [if_neg (by omega)]
  · split
    · rw [if_neg (by omega)]
    · rw [if_pos (by omega), nI_sub (by omega)]
theorem r_lowN {b : Nat} (h : b < 2 ^ 31) (s : uS) : fn_X12_low (nI b) s = some (nI (lo b)) := by
  unfold fn_X12_low lo
  simp (disch := omega) only [lit, nI_ltJ]
  split
  · rw [if_neg (by omega)]
  · split
    · rw [if_neg (by omega)]
    · rw [if_pos (by omega), nI_add]
theorem r_highN {b : Nat} (h : b < 2 ^ 31) (s : uS) : fn_X12_high (nI b) s = some (nI (up b)) := c_upN h s
theorem upE {b c : Nat} (h : b < 256) (hc : c < 128) : sb (up b) = nI (up c) ↔ up b = up c := sb_e (up_lt h) (by unfold up; split <;> omega)
def bys (bs : List Nat) : Prop := ∀ j : Nat, bs.getD j 0 < 256
def rdC (s : uS) (k fr : Nat) (bs : List Nat) : Prop := fr + bs.length < 2 ^ 30 ∧ bys bs ∧ ∀ j : Nat, j < bs.length → iget 21 s k (nI (fr + j)) = some (sb (bs.getD j 0))
def rdR (s : uS) (k fr : Nat) (bs : List Nat) : Prop := fr + bs.length < 2 ^ 30 ∧ bys bs ∧ ∀ j : Nat, j < bs.length → iget 20 s k (nI (fr + j)) = some (nI (bs.getD j 0))
/-- loops that compare as long as all is alike -/
theorem cmpL {β : Type} {F : Nat → Bool → Int32 → Option β} {fin : Bool → Option β} {L : Nat} {p : Nat → Bool} (h : ∀ (n : Nat) (b : Bool) (i : Nat), i ≤ L → F (n + 1) b (nI i) = if L ≤ i then fin b else if b = true then F n (p i) (nI (i + 1)) else fin b) : ∀ (n i : Nat) (b : Bool), L < i + n → i ≤ L → F n b (nI i) = fin (b && decide (∀ j : Nat, j < L → i ≤ j → p j = true)) := by
  intro n
  induction n with
  | zero => intro i b h1 h2; omega
  | succ n ih =>
    intro i b h1 h2
    rw [h n b i h2]
    by_cases c : L ≤ i
    · rw [if_pos c, decide_eq_true (fun j a b => by omega), Bool.and_true]
    · rw [if_neg c]
      cases b with
      | false => rw [if_neg (by decide), Bool.false_and]
      | true =>
        rw [if_pos rfl, ih (i + 1) (p i) (by omega) (by omega), Bool.true_and]
        congr 1
        cases hp : p i with
        | true =>
          rw [Bool.true_and]
          exact decide_eq_decide.mpr ⟨fun e j a b => (by by_cases f : j = i; exact f ▸ hp; exact e j a (by omega)), fun e j a b => e j a (by omega)⟩
        | false =>
          rw [Bool.false_and]
          exact (decide_eq_false (fun e => by have := e i (by omega) (Nat.le_refl _); rw [hp] at this; cases this)).symm
theorem cmp0 {β : Type} {F : Nat → Bool → Int32 → Option β} {fin : Bool → Option β} {L : Nat} {p : Nat → Bool} (h : ∀ (n : Nat) (b : Bool) (i : Nat), i ≤ L → F (n + 1) b (nI i) = if L ≤ i then fin b else if b = true then F n (p i) (nI (i + 1)) else fin b) (hL : L < uFu) (b : Bool) : F uFu b 0 = fin (b && decide (∀ j : Nat, j < L → p j = true)) := by
  have := cmpL h uFu 0 b (by omega) (Nat.zero_le _)
  rw [show nI 0 = 0 from rfl] at this
  rw [this]
  congr 2
  exact decide_eq_decide.mpr ⟨fun e j a => e j a (Nat.zero_le _), fun e j a _ => e j a⟩
/-- loops that copy -/
def cpy (s : uS) (K off i L : Nat) (g : Nat → Int32) : uS := (s.c, s.I, s.R, fun a b => if a = K ∧ off + i ≤ b ∧ b < off + L then g (b - off) else s.F a b, s.L, s.P, s.n, s.m)
theorem cpy_I (s : uS) (K off i L : Nat) (g : Nat → Int32) : (cpy s K off i L g).I = s.I := rfl
theorem cpy_L (s : uS) (K off i L : Nat) (g : Nat → Int32) : (cpy s K off i L g).L = s.L := rfl
theorem cpy_F (s : uS) (K off i L : Nat) (g : Nat → Int32) (a b : Nat) : (cpy s K off i L g).F a b = if a = K ∧ off + i ≤ b ∧ b < off + L then g (b - off) else s.F a b := rfl
theorem cpy_Fo {s : uS} {K off i L : Nat} {g : Nat → Int32} {a : Nat} (h : a ≠ K) : (cpy s K off i L g).F a = s.F a := by
  funext b
  rw [cpy_F, if_neg (fun e => h e.1)]
theorem cpy_Fe {s : uS} {K off i L : Nat} {g : Nat → Int32} {j : Nat} (h1 : i ≤ j) (h2 : j < L) : (cpy s K off i L g).F K (off + j) = g j := by
  rw [cpy_F, if_pos ⟨rfl, by omega, by omega⟩, Nat.add_sub_cancel_left]
theorem cpy_0 (s : uS) (K off i : Nat) (g : Nat → Int32) : cpy s K off i i g = s := by
  have : (fun a b => if a = K ∧ off + i ≤ b ∧ b < off + i then g (b - off) else s.F a b) = s.F := by
    funext a b
    rw [if_neg (by omega)]
  show (s.c, s.I, s.R, (fun a b => if a = K ∧ off + i ≤ b ∧ b < off + i then g (b - off) else s.F a b), s.L, s.P, s.n, s.m) = s
  rw [this]
  rfl
theorem cpy_s {s : uS} {K off i L : Nat} {g : Nat → Int32} (h : i ≤ L) : wF (cpy s K off i L g) K (off + L) (g L) = cpy s K off i (L + 1) g := by
  have : uw2 (cpy s K off i L g).F K (off + L) (g L) = (cpy s K off i (L + 1) g).F := by
    funext a b
    show (if a = K ∧ b = off + L then g L else (cpy s K off i L g).F a b) = _
    rw [cpy_F, cpy_F]
    by_cases c : a = K ∧ b = off + L
    · rw [if_pos c, if_pos ⟨c.1, by omega, by omega⟩, c.2, Nat.add_sub_cancel_left]
    · rw [if_neg c]
      by_cases d : a = K ∧ off + i ≤ b ∧ b < off + L
      · rw [if_pos d, if_pos ⟨d.1, d.2.1, by omega⟩]
      · rw [if_neg d, if_neg (fun e => d ⟨e.1, e.2.1, by have := fun f => c ⟨e.1, f⟩; omega⟩)]
  show (_, _, _, uw2 (cpy s K off i L g).F K (off + L) (g L), _, _, _, _) = _
  rw [this]
  rfl
theorem cpyL {β : Type} {F : Nat → Int32 → uS → Option β} {fin : uS → Option β} {K off L : Nat} {g : Nat → Int32} {s : uS} (h : ∀ (n i : Nat), i < L → F (n + 1) (nI i) (cpy s K off 0 i g) = F n (nI (i + 1)) (wF (cpy s K off 0 i g) K (off + i) (g i))) (h2 : ∀ n : Nat, F (n + 1) (nI L) (cpy s K off 0 L g) = fin (cpy s K off 0 L g)) : ∀ (n i : Nat), L < i + n → i ≤ L → F n (nI i) (cpy s K off 0 i g) = fin (cpy s K off 0 L g) := by
  intro n
  induction n with
  | zero => intro i h1 h3; omega
  | succ n ih =>
    intro i h1 h3
    by_cases c : i = L
    · subst c; exact h2 n
    · rw [h n i (by omega), cpy_s (Nat.zero_le _)]
      exact ih (i + 1) (by omega) (by omega)
theorem cpy0 {β : Type} {F : Nat → Int32 → uS → Option β} {fin : uS → Option β} {K off L : Nat} {g : Nat → Int32} {s : uS} (h : ∀ (n i : Nat), i < L → F (n + 1) (nI i) (cpy s K off 0 i g) = F n (nI (i + 1)) (wF (cpy s K off 0 i g) K (off + i) (g i))) (h2 : ∀ n : Nat, F (n + 1) (nI L) (cpy s K off 0 L g) = fin (cpy s K off 0 L g)) (hL : L < uFu) : F uFu 0 s = fin (cpy s K off 0 L g) := by
  have := cpyL h h2 uFu 0 (by omega) (Nat.zero_le _)
  rw [cpy_0] at this
  exact this
/-- Texts.place: the place of a text among words -/
def plc (bs : List Nat) : List Nat → Nat → Nat → Bool → Option Nat
  | [], pl, a, sm => if sm = true ∧ a = bs.length then some pl else none
  | c :: W, pl, a, sm => if c = 32 then (if sm = true ∧ a = bs.length then some pl else plc bs W (pl + 1) 0 true) else plc bs W pl (a + 1) (sm && decide (a < bs.length) && decide (up (bs.getD a 0) = up c))
theorem dropN {W : List Nat} {i : Nat} (h : i < W.length) : W.drop i = W.getD i 0 :: W.drop (i + 1) := by
  rw [List.drop_eq_getElem_cons h, List.getD_eq_getElem?_getD, List.getElem?_eq_getElem h]
  rfl
theorem getD_mem {W : List Nat} {i : Nat} (h : i < W.length) : W.getD i 0 ∈ W := by
  rw [List.getD_eq_getElem?_getD, List.getElem?_eq_getElem h]
  exact List.getElem_mem h
theorem c_plcL {s : uS} {W bs : List Nat} {k fr : Nat} (h : rdC s k fr bs) (hW : ∀ c ∈ W, c < 128) (hl : W.length < 900000) : ∀ (n i pl a : Nat) (sm : Bool), W.length + 1 < i + n → i ≤ W.length → pl ≤ i → a ≤ i → fn_X9_place_12 n W k (nI fr) (nI (fr + bs.length)) (nI pl) (nI (fr + a)) sm (nI i) s = some (oI (plc bs (W.drop i) pl a sm)) := by
  obtain ⟨h1, h2, h3⟩ := h
  intro n
  induction n with
  | zero => intro i pl a sm c1 c2; omega
  | succ n ih =>
    intro i pl a sm c1 c2 c3 c4
    unfold fn_X9_place_12 fb_X9_place_12
    by_cases e : i = W.length
    · have hd : W.drop i = [] := List.drop_eq_nil_of_le (by omega)
      rw [hd]
      unfold plc fb_X9_place_41 fb_X9_place_55
      subst e
      rw [if_neg (nI_nlt (Nat.le_refl _) (by omega)), if_pos rfl]
      by_cases f : sm = true
      · rw [if_pos f]
        by_cases g : a = bs.length
        · rw [if_pos (by rw [g]), if_pos ⟨f, g⟩]; rfl
        · rw [if_neg (by rw [nI_eq (by omega) (by omega)]; omega), if_neg (fun x => g x.2)]
          cases n with
          | zero => omega
          | succ n =>
            unfold fn_X9_place_12 fb_X9_place_12
            rw [nI_1, if_pos (nI_lt (by omega) (by omega))]
            rfl
      · rw [if_neg f, if_neg (fun x => f x.1)]
        cases n with
        | zero => omega
        | succ n =>
          unfold fn_X9_place_12 fb_X9_place_12
          rw [nI_1, if_pos (nI_lt (by omega) (by omega))]
          rfl
    · have hlt : i < W.length := by omega
      have hc := hW _ (getD_mem hlt)
      rw [dropN hlt]
      unfold plc
      rw [if_neg (nI_nlt (by omega) (by omega)), if_neg (by rw [nI_eq (by omega) (by omega)]; exact e), stget_c hlt (by omega), Option.bind_some]
      by_cases sp : W.getD i 0 = 32
      · rw [if_pos sp, if_pos (by rw [sp]; rfl)]
        unfold fb_X9_place_41 fb_X9_place_55
        have hn := ih (i + 1) (pl + 1) 0 true (by omega) (by omega) (by omega) (by omega)
        rw [Nat.add_zero] at hn
        by_cases f : sm = true
        · rw [if_pos f]
          by_cases g : a = bs.length
          · rw [if_pos (by rw [g]), if_pos ⟨f, g⟩]; rfl
          · rw [if_neg (by rw [nI_eq (by omega) (by omega)]; omega), if_neg (fun x => g x.2), nI_1, nI_1]
            exact hn
        · rw [if_neg f, if_neg (fun x => f x.1), nI_1, nI_1]
          exact hn
      · rw [if_neg sp, if_neg (by show ¬ nI (W.getD i 0) = nI 32; rw [nI_eq (by omega) (by omega)]; exact sp)]
        simp only [nI_1, Nat.add_assoc]
        cases sm with
        | false =>
          rw [if_neg (by decide), Bool.false_and, Bool.false_and]
          exact ih (i + 1) pl (a + 1) false (by omega) (by omega) (by omega) (by omega)
        | true =>
          rw [if_pos rfl, Bool.true_and]
          by_cases g : a < bs.length
          · rw [if_neg (nI_ge (by omega) (by omega)), h3 a g, Option.bind_some, c_upS (h2 a), Option.bind_some, Option.bind_some, c_upN (by omega), Option.bind_some, decide_eq_true g, Bool.true_and]
            by_cases q : up (bs.getD a 0) = up (W.getD i 0)
            · rw [if_pos ((upE (h2 a) hc).mpr q), decide_eq_true q]
              exact ih (i + 1) pl (a + 1) true (by omega) (by omega) (by omega) (by omega)
            · rw [if_neg (fun e => q ((upE (h2 a) hc).mp e)), decide_eq_false q]
              exact ih (i + 1) pl (a + 1) false (by omega) (by omega) (by omega) (by omega)
          · rw [if_pos (nI_le (by omega) (by omega)), decide_eq_false g, Bool.false_and]
            exact ih (i + 1) pl (a + 1) false (by omega) (by omega) (by omega) (by omega)
theorem c_place {s : uS} {W bs : List Nat} {k fr : Nat} (h : rdC s k fr bs) (hW : ∀ c ∈ W, c < 128) (hl : W.length < 900000) : fn_X9_place W k (nI fr) (nI (fr + bs.length)) s = some (oI (plc bs W 0 0 true)) := by
  have := c_plcL h hW hl uFu 0 0 0 true (by show W.length + 1 < 0 + 1000000; omega) (Nat.zero_le _) (Nat.le_refl _) (Nat.le_refl _)
  rw [Nat.add_zero, List.drop_zero] at this
  exact this
