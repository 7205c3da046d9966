theorem fnd_lt {p : aM → Bool} : ∀ (l : List aM) (i k j : Nat), fnd p l i k = some j → i ≤ j ∧ j < i + l.length := by
  intro l
  induction l with
  | nil => intro i k j h; cases h
  | cons m r ih =>
    intro i k j h
    have h : (if p m = true then (if k = 0 then some i else fnd p r (i + 1) (k - 1)) else fnd p r (i + 1) k) = some j := h
    rw [List.length_cons]
    by_cases c : p m = true
    · rw [if_pos c] at h
      by_cases c2 : k = 0
      · rw [if_pos c2] at h; cases h; omega
      · rw [if_neg c2] at h; have := ih (i + 1) (k - 1) j h; omega
    · rw [if_neg c] at h; have := ih (i + 1) k j h; omega
/-- what is asked of a message -/
def a_wh (ms : List aM) (w : Int32) (o : Option Nat) : Int32 := match o with
  | none => -1
  | some i => if w = 0 then nI (ms.getD i aM0).2.2.2.2.length else if w = 1 then (ms.getD i aM0).2.2.1 else nI i
def a_msg (nb : Nat → Nat) (ms : List aM) (x y k w : Int32) : Int32 := if hasB nb x y = true ∧ 0 ≤ w ∧ w ≤ 2 then a_wh ms w (a_no ms x y k) else -1
theorem c_message {s : uS} {ms : List aM} {nb : Nat → Nat} (h : cM s ms) (hb : ∀ u : Nat, u < 4 → s.I (988 + 16 * u) 3 = nI (nb u)) (x y k w : Int32) : fn_X11_message x y k w s = some (a_msg nb ms x y k w) := by
  unfold fn_X11_message a_msg
  rw [c_has hb, Option.bind_some]
  cases hasB nb x y with
  | false => rw [if_neg (by decide), if_neg (fun e => absurd e.1 (by decide))]
  | true =>
    rw [if_pos rfl]
    by_cases c1 : w < 0
    · rw [if_pos c1, if_neg (fun e => absurd c1 (Int32.not_lt.mpr e.2.1))]
    · rw [if_neg c1]
      by_cases c2 : w ≤ 2
      · rw [if_pos c2, if_pos ⟨rfl, Int32.not_lt.mp c1, c2⟩, c_numberOf h, Option.bind_some]
        have hm := h.1
        cases ho : a_no ms x y k with
        | none => rw [if_neg (by decide)]; rfl
        | some i =>
          have hi : i < ms.length := by
            unfold a_no at ho
            by_cases ck : k < 0
            · rw [if_pos ck] at ho; cases ho
            · rw [if_neg ck] at ho; have := fnd_lt _ _ _ _ ho; omega
          obtain ⟨e, h1, h2, h3, h4, h5, ⟨tx, h6, h7⟩, -⟩ := h.at hi
          show (if 0 ≤ nI i then _ else _) = some (if w = 0 then _ else if w = 1 then _ else nI i)
          rw [if_pos (nI_pos' (by omega)), show oI (some i) = nI i from rfl, h1, Option.bind_some]
          by_cases w0 : w = 0
          · rw [if_pos w0, if_pos w0, if_pos h2, h6, Option.bind_some, h7.len]; rfl
          · rw [if_neg w0, if_neg w0]
            by_cases w1 : w = 1
            · rw [if_pos w1, if_pos w1, if_pos h2, h5]
            · rw [if_neg w1, if_neg w1]
      · rw [if_neg c2, if_neg (fun e => c2 e.2.2)]
theorem r_mgl {s : uS} {ms : List aM} {nb : Nat → Nat} {x y : Int32} (h : rM s ms) (hh : hasB nb x y = true) (w : Int32) : ∀ (n i k : Nat), ms.length < i + n → i ≤ ms.length → k < 2 ^ 31 → fn_X12_message_32 n x y w (nI k) (nI i) s = some (a_wh ms w (fnd (inB x y) (ms.drop i) i k)) := by
  intro n
  induction n with
  | zero => intro i k h1 h2; omega
  | succ n ih =>
    intro i k h1 h2 hk
    show fb_X12_message_32 (fn_X12_message_32 n) x y w (nI k) (nI i) s = _
    unfold fb_X12_message_32
    have hm := h.1
    rw [h.sum]
    by_cases hi : i < ms.length
    · obtain ⟨g1, g2, g3, g4, -⟩ := h.2.2 i hi
      rw [if_neg (nI_ge hi (by omega)), iget_c (N := 401) (by decide) (by decide) (by omega) (by decide), Option.bind_some, g1, nI_1, dropM hi]
      show _ = some (a_wh ms w (if inB x y (ms.getD i aM0) = true then _ else _))
      by_cases c1 : (ms.getD i aM0).1 = x
      · rw [if_pos ((hasB_u hh _).mpr c1), iget_c (N := 401) (by decide) (by decide) (by omega) (by decide), Option.bind_some, g2]
        by_cases c2 : (ms.getD i aM0).2.1 = y
        · have hin : inB x y (ms.getD i aM0) = true := by unfold inB; rw [decide_eq_true ⟨c1, c2⟩]
          have i1 : iget 20 s 1122 (nI i) = some (nI (ms.getD i aM0).2.2.2.2.length) := by rw [iget_c (N := 401) (by decide) (by decide) (by omega) (by decide), g4]
          have i2 : iget 20 s 1123 (nI i) = some (ms.getD i aM0).2.2.1 := by rw [iget_c (N := 401) (by decide) (by decide) (by omega) (by decide), g3]
          by_cases k0 : k = 0
          · subst k0
            rw [if_pos c2, if_pos (show nI 0 = 0 by decide), i1, i2, if_pos hin, if_pos (show (0 : Nat) = 0 from rfl)]
            show _ = some (if w = 0 then _ else if w = 1 then _ else nI i)
            by_cases w0 : w = 0
            · rw [if_pos w0, if_pos w0]; rfl
            · rw [if_neg w0, if_neg w0]
              by_cases w1 : w = 1
              · rw [if_pos w1, if_pos w1]; rfl
              · rw [if_neg w1, if_neg w1]
          · obtain ⟨k', rfl⟩ : ∃ k', k = k' + 1 := ⟨k - 1, by omega⟩
            rw [if_pos c2, if_neg (nI_ne0 (by omega) hk), if_pos hin, if_neg (show ¬ k' + 1 = 0 by omega), nI_pred, ih (i + 1) k' (by omega) (by omega) (by omega)]
            rfl
        · rw [if_neg c2, ih (i + 1) k (by omega) (by omega) hk, if_neg (by unfold inB; rw [decide_eq_false (fun e => c2 e.2)]; decide)]
      · rw [if_neg (fun e => c1 ((hasB_u hh _).mp e)), ih (i + 1) k (by omega) (by omega) hk, if_neg (by unfold inB; rw [decide_eq_false (fun e => c1 e.1)]; decide)]
    · rw [if_pos (nI_le (by omega) (by omega)), List.drop_of_length_le (by omega)]
      rfl
theorem r_message {s : uS} {ms : List aM} {nb : Nat → Nat} (h : rM s ms) (hb : ∀ u : Nat, u < 4 → s.F 1126 u = nI (nb u)) (x y k w : Int32) : fn_X12_message x y k w s = some (a_msg nb ms x y k w) := by
  unfold fn_X12_message a_msg
  rw [r_has hb, Option.bind_some]
  cases hh : hasB nb x y with
  | false => rw [if_neg (by decide), if_neg (fun e => absurd e.1 (by decide))]
  | true =>
    rw [if_pos rfl]
    have hm := h.1
    by_cases ck : k < 0
    · rw [if_pos ck]
      unfold a_no
      rw [if_pos ck]
      by_cases c : (true = true ∧ 0 ≤ w ∧ w ≤ 2)
      · rw [if_pos c]; rfl
      · rw [if_neg c]
    · rw [if_neg ck]
      by_cases c1 : w < 0
      · rw [if_pos c1, if_neg (fun e => absurd c1 (Int32.not_lt.mpr e.2.1))]
      · rw [if_neg c1]
        by_cases c2 : w ≤ 2
        · rw [if_pos c2, if_pos ⟨rfl, Int32.not_lt.mp c1, c2⟩]
          unfold a_no
          rw [if_neg ck]
          obtain ⟨j, hj, rfl⟩ := nI_of ck
          rw [nI_clamp hj]
          exact r_mgl h hh w uFu 0 j (by show ms.length < 0 + 1000000; omega) (Nat.zero_le _) hj
        · rw [if_neg c2, if_neg (fun e => c2 e.2.2)]
/-- bytes of a message -/
def a_byt (ms : List aM) (n i : Int32) : Int64 := if 0 ≤ n ∧ n < nI ms.length ∧ 0 ≤ i then e8w (ms.getD n.toNatClampNeg aM0).2.2.2.2 i.toNatClampNeg else -1
theorem c_bytes {s : uS} {ms : List aM} (h : cM s ms) (n i : Int32) : fn_X11_bytes n i s = some (a_byt ms n i) := by
  unfold fn_X11_bytes a_byt
  by_cases c1 : n < 0
  · rw [if_pos c1, if_neg (fun e => absurd c1 (Int32.not_lt.mpr e.1))]
  · rw [if_neg c1, h.2.1]
    by_cases c2 : nI ms.length ≤ n
    · rw [if_pos c2, if_neg (fun e => absurd e.2.1 (Int32.not_lt.mpr c2))]
    · rw [if_neg c2]
      by_cases c3 : 0 ≤ i
      · rw [if_pos c3, if_pos ⟨Int32.not_lt.mp c1, Int32.not_le.mp c2, c3⟩]
        obtain ⟨q, hq, rfl⟩ := nI_of c1
        obtain ⟨j, hj, rfl⟩ := nI_of (Int32.not_lt.mpr c3)
        have hm := h.1
        have hql : q < ms.length := (nI_ltI hq (by omega)).mp (Int32.not_le.mp c2)
        obtain ⟨e, h1, h2, h3, h4, h5, ⟨tx, h6, h7⟩, -⟩ := h.at hql
        rw [h1, Option.bind_some, if_pos h2, h6, Option.bind_some, h7.len, Option.bind_some, nI_clamp hq, nI_clamp hj]
        have e8 := c_e8 (fr := 0) (i := j) (k := tx) (bs := (ms.getD q aM0).2.2.2.2) (s := s) (by omega) (by have := h7.2.2.1; omega) (fun p hp => by rw [Nat.zero_add]; exact h7.get hp)
        rw [Nat.zero_add, Nat.zero_add] at e8
        rw [e8]
        rfl
      · rw [if_neg c3, if_neg (fun e => c3 e.2.2)]
theorem r_stored {s : uS} {p : Nat} (h : p < 150400) : fn_X12_storedAt (nI p) s = some (pkb s p) := by
  unfold fn_X12_storedAt pkb
  have e : ∀ r, r < 8 → ((56 : Int32) - ((8 : Int32) * nI r)).toInt64 &&& 63 = Int64.ofNat (56 - 8 * r) := by decide
  have e2 : nI p - nI p / 8 * 8 = nI (p % 8) := pk_rem (d := 8) (by omega) (by decide) (by decide)
  have e3 : nI p / 8 = nI (p / 8) := pk_div (d := 8) (by omega) (by decide) (by decide)
  rw [e2, e _ (Nat.mod_lt _ (by decide)), e3, lget_c (N := 18800) (by decide) (by decide) (by omega) (by decide)]
  rfl
theorem r_byl {s : uS} {ms : List aM} {q i : Nat} (h : rM s ms) (hq : q < ms.length) (hi : i < 2 ^ 31) : ∀ n j : Nat, j < 8 → fn_X12_bytes_30 (n + 1) (nI q) (nI i) (e8f (e8g (ms.getD q aM0).2.2.2.2 i) j) (nI j) s = fn_X12_bytes_30 n (nI q) (nI i) (e8f (e8g (ms.getD q aM0).2.2.2.2 i) (j + 1)) (nI (j + 1)) s := by
  intro n j hj
  obtain ⟨g1, g2, g3, g4, g5, at_, g6, g7, g8⟩ := h.2.2 q hq
  have hm := h.1
  show fb_X12_bytes_30 (fn_X12_bytes_30 n) (nI q) (nI i) _ (nI j) s = _
  unfold fb_X12_bytes_30 fb_X12_bytes_65
  rw [if_neg (by rw [show (8 : Int32) = nI 8 by decide]; exact nI_ge hj (by decide)), iget_c (N := 401) (by decide) (by decide) (by omega) (by decide), Option.bind_some, g4, show (8 : Int32).toInt64 &&& 63 = 8 by decide, nI_1]
  have hz : ∀ b : Int32, b = e8g (ms.getD q aM0).2.2.2.2 i j → fn_X12_bytes_30 n (nI q) (nI i) ((e8f (e8g (ms.getD q aM0).2.2.2.2 i) j <<< (8 : Int64)) ||| b.toInt64) (nI (j + 1)) s = fn_X12_bytes_30 n (nI q) (nI i) (e8f (e8g (ms.getD q aM0).2.2.2.2 i) (j + 1)) (nI (j + 1)) s := fun b hb => by rw [hb]; rfl
  by_cases c : (ms.getD q aM0).2.2.2.2.length ≤ i
  · rw [if_pos ((nI_leI (by omega) hi).mpr c), if_neg (by decide)]
    exact hz 0 (if_neg (by omega)).symm
  · rw [if_neg (fun e => c ((nI_leI (by omega) hi).mp e)), Option.bind_some]
    by_cases c2 : (ms.getD q aM0).2.2.2.2.length ≤ j + i
    · rw [if_pos ((nI_sbl (by omega) (by omega) (by omega)).mpr c2), if_neg (by decide)]
      exact hz 0 (if_neg (by omega)).symm
    · rw [if_neg (fun e => c2 ((nI_sbl (by omega) (by omega) (by omega)).mp e)), if_pos rfl, iget_c (N := 401) (by decide) (by decide) (by omega) (by decide), Option.bind_some, g6, nI_add, nI_add, show at_ + i + j = at_ + (i + j) by omega, r_stored (by omega), Option.bind_some, g8 (i + j) (by omega)]
      exact hz _ (if_pos (by omega)).symm
theorem r_bytes {s : uS} {ms : List aM} (h : rM s ms) (n i : Int32) : fn_X12_bytes n i s = some (a_byt ms n i) := by
  unfold fn_X12_bytes a_byt
  by_cases c1 : n < 0
  · rw [if_pos c1, if_neg (fun e => absurd c1 (Int32.not_lt.mpr e.1))]
  · rw [if_neg c1, h.sum]
    by_cases c2 : nI ms.length ≤ n
    · rw [if_pos c2, if_neg (fun e => absurd e.2.1 (Int32.not_lt.mpr c2))]
    · rw [if_neg c2]
      by_cases c3 : 0 ≤ i
      · rw [if_pos c3, if_pos ⟨Int32.not_lt.mp c1, Int32.not_le.mp c2, c3⟩]
        obtain ⟨q, hq, rfl⟩ := nI_of c1
        obtain ⟨j, hj, rfl⟩ := nI_of (Int32.not_lt.mpr c3)
        have hm := h.1
        have hql : q < ms.length := (nI_ltI hq (by omega)).mp (Int32.not_le.mp c2)
        rw [nI_clamp hq, nI_clamp hj]
        show fn_X12_bytes_30 (999991 + 1 + 1 + 1 + 1 + 1 + 1 + 1 + 1 + 1) (nI q) (nI j) (e8f (e8g (ms.getD q aM0).2.2.2.2 j) 0) (nI 0) s = _
        rw [r_byl h hql hj _ _ (by decide), r_byl h hql hj _ _ (by decide), r_byl h hql hj _ _ (by decide), r_byl h hql hj _ _ (by decide), r_byl h hql hj _ _ (by decide), r_byl h hql hj _ _ (by decide), r_byl h hql hj _ _ (by decide), r_byl h hql hj _ _ (by decide)]
        show fb_X12_bytes_30 _ _ _ _ (nI 8) s = _
        unfold fb_X12_bytes_30
        rw [if_pos (by decide)]
        rfl
      · rw [if_neg c3, if_neg (fun e => c3 e.2.2)]
