theorem nI_sub {a b : Nat} (h : b ≤ a) : nI a - nI b = nI (a - b) := by
  obtain ⟨c, rfl⟩ := Nat.exists_eq_add_of_le h
  rw [Nat.add_sub_cancel_left, Nat.add_comm, ← nI_add, Int32.add_sub_cancel]
/-- a shift of a shift -/
theorem sh_or (x b : Int64) {c : Nat} (hc : c ≤ 48) : ((x <<< (8 : Int64)) ||| b) <<< Int64.ofNat c = x <<< Int64.ofNat (8 + c) ||| b <<< Int64.ofNat c := by
  have e : ∀ c, c ≤ 56 → ((Int64.ofNat c).toBitVec.smod 64).toNat = c := by decide
  apply Int64.toBitVec_inj.mp
  rw [Int64.toBitVec_shiftLeft, Int64.toBitVec_or, Int64.toBitVec_or, Int64.toBitVec_shiftLeft, Int64.toBitVec_shiftLeft, Int64.toBitVec_shiftLeft]
  rw [BitVec.shiftLeft_eq', BitVec.shiftLeft_eq', BitVec.shiftLeft_eq', BitVec.shiftLeft_eq', e c (by omega), e (8 + c) (by omega), show ((8 : Int64).toBitVec.smod 64).toNat = 8 from rfl]
  rw [BitVec.shiftLeft_or_distrib, BitVec.shiftLeft_add]
/-- the bytes of an answer, one after the other: as the class puts them, as the reference -/
def a_b (xs : List Int32) (t j : Nat) : Int32 := if j < t then xs.getD j 0 &&& 255 else 0
def a_c (xs : List Int32) (t : Nat) : Nat → Int64
  | 0 => (nI t).toInt64
  | j + 1 => (a_c xs t j <<< (8 : Int64)) ||| (a_b xs t j).toInt64
def a_r (xs : List Int32) (t : Nat) : Nat → Int64
  | 0 => (nI t).toInt64 <<< (56 : Int64)
  | j + 1 => a_r xs t j ||| ((a_b xs t j).toInt64 <<< Int64.ofNat (48 - 8 * j))
theorem a_cr (xs : List Int32) (t : Nat) : ∀ j : Nat, j ≤ 7 → a_c xs t j <<< Int64.ofNat (56 - 8 * j) = a_r xs t j := by
  intro j
  induction j with
  | zero => intro _; rfl
  | succ j ih =>
    intro hj
    show ((a_c xs t j <<< (8 : Int64)) ||| (a_b xs t j).toInt64) <<< Int64.ofNat (56 - 8 * (j + 1)) = _
    rw [show 56 - 8 * (j + 1) = 48 - 8 * j by omega, sh_or _ _ (by omega), show 8 + (48 - 8 * j) = 56 - 8 * j by omega, ih (by omega)]
    rfl
theorem sh_0 (x : Int64) : x <<< Int64.ofNat 0 = x := by
  apply Int64.toBitVec_inj.mp
  rw [Int64.toBitVec_shiftLeft, BitVec.shiftLeft_eq', show ((Int64.ofNat 0).toBitVec.smod 64).toNat = 0 from rfl, BitVec.shiftLeft_zero]
theorem a_r7 (xs : List Int32) {t : Nat} : ∀ j : Nat, t ≤ j → a_r xs t j = a_r xs t t := by
  intro j
  induction j with
  | zero => intro h; rw [show t = 0 by omega]
  | succ j ih =>
    intro h
    by_cases e : t = j + 1
    · rw [e]
    · show a_r xs t j ||| ((a_b xs t j).toInt64 <<< Int64.ofNat (48 - 8 * j)) = _
      rw [ih (by omega)]
      unfold a_b
      rw [if_neg (by omega), show (0 : Int32).toInt64 = 0 from rfl]
      apply Int64.toBitVec_inj.mp
      rw [Int64.toBitVec_or, Int64.toBitVec_shiftLeft, BitVec.shiftLeft_eq']
      simp
def q_ans (xs : List Int32) : Int64 := a_c xs (min 7 xs.length) 7
theorem q_ansR (xs : List Int32) : q_ans xs = a_r xs (min 7 xs.length) (min 7 xs.length) := by
  unfold q_ans
  rw [← a_r7 xs 7 (by omega), ← a_cr xs _ 7 (by omega)]
  exact (sh_0 _).symm
theorem c_tk1 {n u t j fi : Nat} {xs : List Int32} {acc : Int64} {s : uS} (hu : u < 5) (hj : j < 7) (ht : t ≤ xs.length) (hf : fi < 10000) (hx : xs.length ≤ 10000) (h1 : s.I (qk u) 1 = nI fi) (h2 : ∀ j : Nat, j < xs.length → s.F (qk u + 1) ((fi + j) % 10000) = xs.getD j 0) : fn_X5_take_16 (n + 1) (qk u) (nI t) acc (nI j) s = fn_X5_take_16 n (qk u) (nI t) ((acc <<< (8 : Int64)) ||| (a_b xs t j).toInt64) (nI (j + 1)) s := by
  obtain ⟨-, hc, hl⟩ := qk_so hu
  show fb_X5_take_16 (fn_X5_take_16 n) (qk u) (nI t) acc (nI j) s = _
  unfold fb_X5_take_16 fb_X5_take_53 a_b
  rw [if_neg (by rw [show (7 : Int32) = nI 7 by decide]; exact nI_ge hj (by decide)), show (8 : Int32).toInt64 &&& 63 = 8 by decide]
  by_cases c : j < t
  · rw [if_neg (nI_ge c (by omega)), h1, nI_add, u10k, pk_rem (by omega) (by decide) (by decide), iget_c (by omega) hc (Nat.mod_lt _ (by decide)) (by decide), Option.bind_some, h2 j (by omega), if_pos c, nI_1]
  · rw [if_pos (nI_le (by omega) (by omega)), if_neg c, nI_1]
theorem c_take {s : uS} {u : Nat} {xs : List Int32} (hu : u < 5) (h : cQ s u xs) : ∃ s1 : uS, fn_X5_take (qk u) s = some (s1, q_ans xs) ∧ cQ s1 u (xs.drop (min 7 xs.length)) := by
  obtain ⟨fi, a, b, c, d, e⟩ := h
  obtain ⟨-, hc, hl⟩ := qk_so hu
  unfold fn_X5_take
  have et : (if s.I (qk u) 2 < (7 : Int32) then s.I (qk u) 2 else (7 : Int32)) = nI (min 7 xs.length) := by
    rw [d, show (7 : Int32) = nI 7 by decide]
    by_cases h7 : xs.length < 7
    · rw [if_pos (nI_lt h7 (by decide)), Nat.min_eq_right (by omega)]
    · rw [if_neg (nI_nlt (by omega) (by omega)), Nat.min_eq_left (by omega)]
  rw [et]
  generalize ht : min 7 xs.length = t
  have h7 : t ≤ 7 ∧ t ≤ xs.length := by omega
  show ∃ s1 : uS, fn_X5_take_16 (999992 + 1 + 1 + 1 + 1 + 1 + 1 + 1 + 1) (qk u) (nI t) ((nI t).toInt64) (nI 0) s = _ ∧ _
  rw [c_tk1 hu (by decide) h7.2 a b c e, c_tk1 hu (by decide) h7.2 a b c e, c_tk1 hu (by decide) h7.2 a b c e, c_tk1 hu (by decide) h7.2 a b c e, c_tk1 hu (by decide) h7.2 a b c e, c_tk1 hu (by decide) h7.2 a b c e, c_tk1 hu (by decide) h7.2 a b c e]
  show ∃ s1 : uS, fb_X5_take_16 _ (qk u) (nI t) _ (nI 7) s = _ ∧ _
  unfold fb_X5_take_16
  rw [if_pos (by decide), c, nI_add, u10k, pk_rem (by omega) (by decide) (by decide), wI_o (by omega), d, nI_sub h7.2]
  refine ⟨_, by unfold q_ans; rw [ht]; rfl, (fi + t) % 10000, Nat.mod_lt _ (by decide), by rw [List.length_drop]; omega, ?_, ?_, ?_⟩
  · rw [wI_o (by omega), wI_e]
  · rw [wI_e, List.length_drop]
  · intro j hj
    rw [List.length_drop] at hj
    rw [wI_F, wI_F, show ((fi + t) % 10000 + j) % 10000 = (fi + (t + j)) % 10000 by omega, e (t + j) (by omega)]
    rw [List.getD_eq_getElem?_getD, List.getD_eq_getElem?_getD, List.getElem?_drop]
theorem c_reply {s : uS} {u : Nat} {xs : List Int32} (hu : u < 5) (h : cQ s u xs) : ∃ s1 : uS, fn_X11_reply (nI u) s = some (s1, q_ans xs) ∧ cQ s1 u (xs.drop (min 7 xs.length)) := by
  unfold fn_X11_reply
  obtain ⟨s1, e1, q1⟩ := c_take hu h
  rw [if_neg (nI_pos (by omega)), if_pos (by rw [show (4 : Int32) = nI 4 by decide]; exact nI_le (by omega) (by decide)), pgt_que hu, Option.bind_some, if_pos (qk_so hu).1, e1]
  exact ⟨s1, rfl, q1⟩
/-- the reference's side -/
theorem r_sayx {s : uS} {u k : Nat} (hu : u < 5) (hk : k < 10000) (h : s.F 1086 u = nI k) (x : Int32) : fn_X12_say (nI u) x s = some (wF (wF s 1086 u (nI (k + 1))) (1081 + u) k x.toInt8.toInt32) := by
  unfold fn_X12_say
  rw [iget_c (by decide) (N := 5) (by decide) hu (by decide), Option.bind_some, h, u10k, if_neg (fun e => by have := (nI_eq (by omega) (by decide)).mp e; omega), iput_c (by decide) (N := 5) (by decide) hu (by decide), Option.bind_some, unar_20, nI_1]
  have hcl : ∀ u, u < 5 → ucl (1081 + u) = (21, 10000) := by decide
  have fin : ∀ r : Nat, r = 1081 + u → (iput 21 (wF s 1086 u (nI (k + 1))) r (nI k) x.toInt8.toInt32).bind (fun s6 => some s6) = some (wF (wF s 1086 u (nI (k + 1))) r k x.toInt8.toInt32) := by
    intro r hr
    rw [iput_c (N := 10000) (by omega) (by rw [hr]; exact hcl u hu) hk (by decide), Option.bind_some, unar_21]
  rcases (show u = 0 ∨ u = 1 ∨ u = 2 ∨ u = 3 ∨ u = 4 by omega) with e | e | e | e | e <;> subst e
  · rw [if_pos (by decide), fin 1081 rfl]
  · rw [if_neg (by decide), if_pos (by decide), fin 1082 rfl]
  · rw [if_neg (by decide), if_neg (by decide), if_pos (by decide), fin 1083 rfl]
  · rw [if_neg (by decide), if_neg (by decide), if_neg (by decide), if_pos (by decide), fin 1084 rfl]
  · rw [if_neg (by decide), if_neg (by decide), if_neg (by decide), if_neg (by decide), fin 1085 rfl]
theorem r_at {s : uS} {u j : Nat} (hu : u < 5) (hj : j < 10000) : fn_X12_saidAt (nI u) (nI j) s = some (s.F (1081 + u) j &&& 255) := by
  unfold fn_X12_saidAt
  have hcl : ∀ u, u < 5 → ucl (1081 + u) = (21, 10000) := by decide
  have fin : ∀ r : Nat, r = 1081 + u → iget 21 s r (nI j) = some (s.F r j) := fun r hr => iget_c (N := 10000) (by omega) (by rw [hr]; exact hcl u hu) hj (by decide)
  rcases (show u = 0 ∨ u = 1 ∨ u = 2 ∨ u = 3 ∨ u = 4 by omega) with e | e | e | e | e <;> subst e
  · rw [if_pos (by decide), fin 1081 rfl]; rfl
  · rw [if_neg (by decide), if_pos (by decide), fin 1082 rfl]; rfl
  · rw [if_neg (by decide), if_neg (by decide), if_pos (by decide), fin 1083 rfl]; rfl
  · rw [if_neg (by decide), if_neg (by decide), if_neg (by decide), if_pos (by decide), fin 1084 rfl]; rfl
  · rw [if_neg (by decide), if_neg (by decide), if_neg (by decide), if_neg (by decide), fin 1085 rfl]; rfl
/-- bytes with their signs -/
def i8L (xs : List Int32) : Prop := ∀ j : Nat, (xs.getD j 0).toInt8.toInt32 = xs.getD j 0
theorem i8_and (x : Int32) (h : x.toInt8.toInt32 = x) : (x &&& 255).toInt8.toInt32 = x := by
  rw [← h, bp_b]
  have e : ((x &&& 255).toInt8).toInt32 = x.toInt8.toInt32 := by
    apply congrArg Int8.toInt32
    apply Int8.toBitVec_inj.mp
    rw [Int32.toBitVec_toInt8, Int32.toBitVec_toInt8, Int32.toBitVec_and]
    apply BitVec.eq_of_getLsbD_eq
    intro i hi
    rw [BitVec.getLsbD_signExtend, BitVec.getLsbD_signExtend, if_pos (by omega), if_pos (by omega), BitVec.getLsbD_and]
    have hm : ∀ i < 8, (255 : Int32).toBitVec.getLsbD i = true := by decide
    rw [hm i hi, Bool.and_true]
  rw [e]
theorem r_fgl {u t : Nat} {xs : List Int32} (hu : u < 5) (hx : xs.length ≤ 10000) (ht : 0 < t) (h8 : i8L xs) : ∀ (n k : Nat) (s : uS), xs.length < t + k + n → t + k ≤ xs.length → s.F 1086 u = nI k → (∀ j : Nat, j < k → s.F (1081 + u) j = xs.getD (t + j) 0) → (∀ j : Nat, k ≤ j → j < xs.length → s.F (1081 + u) j = xs.getD j 0) → ∃ s1 : uS, fn_X12_forget_19 n (nI u) (nI t) (nI (xs.length - t)) (nI k) s = some s1 ∧ rQ s1 u (xs.drop t) ∧ ∀ v : Nat, v < 5 → v ≠ u → ∀ ys, rQ s v ys → rQ s1 v ys := by
  intro n
  induction n with
  | zero => intro k s h1 h2; omega
  | succ n ih =>
    intro k s h1 h2 h3 h4 h5
    show ∃ s1 : uS, fb_X12_forget_19 (fn_X12_forget_19 n) (nI u) (nI t) (nI (xs.length - t)) (nI k) s = some s1 ∧ _
    unfold fb_X12_forget_19
    by_cases hk : t + k < xs.length
    · rw [if_neg (nI_ge (by omega) (by omega)), nI_add, r_at hu (by omega), Option.bind_some, r_sayx hu (by omega) h3, Option.bind_some, nI_1, Nat.add_comm k t, h5 (t + k) (by omega) hk, i8_and _ (h8 _)]
      obtain ⟨s1, e1, q1, o1⟩ := ih (k + 1) (wF (wF s 1086 u (nI (k + 1))) (1081 + u) k (xs.getD (t + k) 0)) (by omega) (by omega) (by rw [wF_o (by omega), wF_e]) (fun j hj => by
        by_cases c : j = k
        · rw [c, wF_e]
        · rw [wF_o (by omega), wF_o (by omega)]; exact h4 j (by omega)) (fun j hj hj2 => by rw [wF_o (by omega), wF_o (by omega)]; exact h5 j (by omega) hj2)
      refine ⟨s1, e1, q1, fun v hv hne ys hy => o1 v hv hne ys ?_⟩
      obtain ⟨p1, p2, p3⟩ := hy
      exact ⟨p1, by rw [wF_o (by omega), wF_o (by omega)]; exact p2, fun j hj => by rw [wF_o (by omega), wF_o (by omega)]; exact p3 j hj⟩
    · rw [if_pos (nI_le (by omega) (by omega))]
      refine ⟨s, rfl, ⟨by rw [List.length_drop]; omega, by rw [List.length_drop, h3]; congr 1; omega, fun j hj => ?_⟩, fun v _ _ ys hy => hy⟩
      rw [List.length_drop] at hj
      rw [h4 j (by omega), List.getD_eq_getElem?_getD, List.getD_eq_getElem?_getD, List.getElem?_drop]
theorem r_forget {s : uS} {u t : Nat} {xs : List Int32} (hu : u < 5) (h : rQ s u xs) (h8 : i8L xs) (ht : 0 < t) (htx : t ≤ xs.length) : ∃ s1 : uS, fn_X12_forget (nI u) (nI t) s = some s1 ∧ rQ s1 u (xs.drop t) ∧ ∀ v : Nat, v < 5 → v ≠ u → ∀ ys, rQ s v ys → rQ s1 v ys := by
  obtain ⟨a, b, c⟩ := h
  unfold fn_X12_forget
  rw [iget_c (by decide) (N := 5) (by decide) hu (by decide), Option.bind_some, iput_c (by decide) (N := 5) (by decide) hu (by decide), Option.bind_some, unar_20, b, nI_sub htx]
  obtain ⟨s1, e1, q1, o1⟩ := r_fgl hu a ht h8 uFu 0 (wF s 1086 u 0) (by show _ < _ + 1000000; omega) htx (by rw [wF_e, nI_0]) (fun j hj => absurd hj (Nat.not_lt_zero j)) (fun j _ hj => by rw [wF_o (by omega)]; exact c j hj)
  refine ⟨s1, e1, q1, fun v hv hne ys hy => o1 v hv hne ys ?_⟩
  obtain ⟨p1, p2, p3⟩ := hy
  exact ⟨p1, by rw [wF_o (by omega)]; exact p2, fun j hj => by rw [wF_o (by omega)]; exact p3 j hj⟩
theorem r_rpl {u t : Nat} {xs : List Int32} {s : uS} (hu : u < 5) (h : rQ s u xs) (h8 : i8L xs) (ht : 0 < t) (htx : t ≤ xs.length) (h7 : t ≤ 7) : ∀ (n k : Nat), t < k + n → k ≤ t → ∃ s1 : uS, fn_X12_reply_49 n (nI u) (nI t) (a_r xs t k) (nI k) s = some (s1, a_r xs t t) ∧ rQ s1 u (xs.drop t) ∧ ∀ v : Nat, v < 5 → v ≠ u → ∀ ys, rQ s v ys → rQ s1 v ys := by
  intro n
  induction n with
  | zero => intro k h1 h2; omega
  | succ n ih =>
    intro k h1 h2
    show ∃ s1 : uS, fb_X12_reply_49 (fn_X12_reply_49 n) (nI u) (nI t) (a_r xs t k) (nI k) s = _ ∧ _
    unfold fb_X12_reply_49
    by_cases hk : k < t
    · have e : ∀ k, k < 7 → ((48 : Int32) - ((8 : Int32) * nI k)).toInt64 &&& 63 = Int64.ofNat (48 - 8 * k) := by decide
      rw [if_neg (nI_ge hk (by omega)), r_at hu (by have := h.1; omega), Option.bind_some, h.2.2 k (by omega), e k (by omega), nI_1]
      have hs : a_r xs t k ||| ((xs.getD k 0 &&& 255).toInt64 <<< Int64.ofNat (48 - 8 * k)) = a_r xs t (k + 1) := by
        show _ = a_r xs t k ||| ((a_b xs t k).toInt64 <<< Int64.ofNat (48 - 8 * k))
        unfold a_b
        rw [if_pos hk]
      rw [hs]
      exact ih (k + 1) (by omega) (by omega)
    · rw [if_pos (nI_le (by omega) (by omega))]
      obtain ⟨s1, e1, q1, o1⟩ := r_forget hu h h8 ht htx
      rw [e1, show k = t by omega]
      exact ⟨s1, rfl, q1, o1⟩
theorem r_reply {s : uS} {u : Nat} {xs : List Int32} (hu : u < 5) (h : rQ s u xs) (h8 : i8L xs) : ∃ s1 : uS, fn_X12_reply (nI u) s = some (s1, q_ans xs) ∧ rQ s1 u (xs.drop (min 7 xs.length)) ∧ ∀ v : Nat, v < 5 → v ≠ u → ∀ ys, rQ s v ys → rQ s1 v ys := by
  obtain ⟨a, b, c⟩ := id h
  unfold fn_X12_reply
  have hg : iget 20 s 1086 (nI u) = some (nI xs.length) := by rw [iget_c (by decide) (N := 5) (by decide) hu (by decide), b]
  have hb : ∀ t : Nat, t = min 7 xs.length → ∃ s1 : uS, fb_X12_reply_33 (nI u) (nI t) s = some (s1, q_ans xs) ∧ rQ s1 u (xs.drop t) ∧ ∀ v : Nat, v < 5 → v ≠ u → ∀ ys, rQ s v ys → rQ s1 v ys := by
    intro t ht
    unfold fb_X12_reply_33
    by_cases h0 : t = 0
    · subst h0
      rw [if_pos (by decide)]
      have hx : xs = [] := List.length_eq_zero_iff.mp (by omega)
      subst hx
      exact ⟨s, rfl, h, fun v _ _ ys hy => hy⟩
    · rw [if_neg (nI_ne0 (by omega) (by omega)), q_ansR, ← ht]
      exact r_rpl hu h h8 (by omega) (by omega) (by omega) uFu 0 (by show _ < 0 + 1000000; omega) (Nat.zero_le _)
  rw [if_neg (nI_pos (by omega)), if_pos (by rw [show (4 : Int32) = nI 4 by decide]; exact nI_le (by omega) (by decide)), hg, Option.bind_some, show (7 : Int32) = nI 7 by decide]
  by_cases h7 : 7 ≤ xs.length
  · rw [if_pos (nI_le h7 (by omega)), Nat.min_eq_left h7]
    exact hb 7 (by omega)
  · rw [if_neg (nI_ge (by omega) (by decide)), Option.bind_some, Nat.min_eq_right (by omega)]
    exact hb xs.length (by omega)
