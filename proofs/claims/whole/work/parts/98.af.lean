theorem fnd_p {p : aM → Bool} : ∀ (l : List aM) (i k j : Nat), fnd p l i k = some j → p (l.getD (j - i) aM0) = true := by
  intro l
  induction l with
  | nil => intro i k j h; cases h
  | cons m r ih =>
    intro i k j h
    have hh := fnd_lt _ _ _ _ h
    have h : (if p m = true then (if k = 0 then some i else fnd p r (i + 1) (k - 1)) else fnd p r (i + 1) k) = some j := h
    have go : ∀ k', fnd p r (i + 1) k' = some j → p ((m :: r).getD (j - i) aM0) = true := by
      intro k' h'
      have h1 := fnd_lt _ _ _ _ h'
      have h2 := ih (i + 1) k' j h'
      rw [show j - i = (j - (i + 1)) + 1 by omega]
      exact h2
    by_cases c : p m = true
    · rw [if_pos c] at h
      by_cases c2 : k = 0
      · rw [if_pos c2] at h; cases h; rw [Nat.sub_self]; exact c
      · rw [if_neg c2] at h; exact go _ h
    · rw [if_neg c] at h; exact go _ h
/-- the outbox's addresses, as the reference keeps them -/
def rO (s : uS) (ms : List aM) : Prop := ∃ b : Nat, s.I 1079 71 = nI b ∧ b ≤ 100 ∧ ∀ k : Nat, (b ≤ k → fnd (inB (-1) 0) ms 0 k = none) ∧ (k < b → ∃ q : Nat, fnd (inB (-1) 0) ms 0 k = some q ∧ (ms.getD q aM0).2.2.2.1.length ≤ 101 ∧ s.F 1125 k = nI (ms.getD q aM0).2.2.2.1.length ∧ ∀ j : Nat, j < (ms.getD q aM0).2.2.2.1.length → s.F 1124 (101 * k + j) = (ms.getD q aM0).2.2.2.1.getD j 0 &&& 255)
def a_nam (ns : Nat → List (List Int32)) (ms : List aM) (u k i : Int32) : Int64 := if i < 0 then -1 else if u = 4 then (match a_no ms (-1) 0 k with | none => -1 | some q => e8w (ms.getD q aM0).2.2.2.1 i.toNatClampNeg) else if hasB (fun v => (ns v).length) u k = true then e8w ((ns u.toNatClampNeg).getD k.toNatClampNeg []) i.toNatClampNeg else -1
theorem hasB_n {nb : Nat → Nat} {x y : Int32} (h : hasB nb x y = true) (hn : ∀ u, u < 4 → nb u ≤ 6) : ∃ u b : Nat, u < 4 ∧ b < nb u ∧ x = nI u ∧ y = nI b := by
  obtain ⟨h1, h2, h3, h4⟩ := of_decide_eq_true h
  obtain ⟨u, hu, rfl⟩ := nI_of (Int32.not_lt.mpr h1)
  obtain ⟨b, hb, rfl⟩ := nI_of (Int32.not_lt.mpr h3)
  have hu4 : u < 4 := (nI_ltI hu (by decide)).mp (by rw [show nI 4 = 4 by decide]; exact h2)
  rw [nI_clamp hu] at h4
  have := hn u hu4
  exact ⟨u, b, hu4, (nI_ltI hb (by omega)).mp h4, rfl, rfl⟩
theorem c_name {s : uS} {ms : List aM} {ns : Nat → List (List Int32)} (h : cM s ms) (hx : ∀ u : Nat, u < 4 → cX s u (ns u)) (u k i : Int32) : fn_X11_name u k i s = some (a_nam ns ms u k i) := by
  unfold fn_X11_name a_nam
  by_cases c0 : 0 ≤ i
  · rw [if_pos c0, if_neg (Int32.not_lt.mpr c0)]
    obtain ⟨j, hj, rfl⟩ := nI_of (Int32.not_lt.mpr c0)
    rw [nI_clamp hj]
    by_cases c1 : u = 4
    · rw [if_pos c1, if_pos c1, c_numberOf h, Option.bind_some]
      have hm := h.1
      cases ho : a_no ms (-1) 0 k with
      | none => rw [if_neg (by decide)]
      | some q =>
        unfold a_no at ho
        by_cases ck : k < 0
        · rw [if_pos ck] at ho; cases ho
        · rw [if_neg ck] at ho
          have h1 := fnd_lt _ _ _ _ ho
          have h2 := fnd_p _ _ _ _ ho
          have hql : q < ms.length := by omega
          rw [Nat.sub_zero] at h2
          have hu := (of_decide_eq_true h2).1
          obtain ⟨e, g1, g2, g3, g4, g5, -, g7⟩ := h.at hql
          obtain ⟨lb, l1, l2, l3⟩ := g7 hu
          show (if 0 ≤ nI q then _ else _) = some (e8w _ _)
          rw [if_pos (nI_pos' (by omega)), show oI (some q) = nI q from rfl, g1, Option.bind_some, if_pos g2, l2, Option.bind_some, if_pos l1, Option.bind_some, if_pos g2, l2, Option.bind_some, if_pos l1, l3.len, Option.bind_some]
          have e8 := c_e8 (fr := 0) (i := j) (k := lb) (bs := (ms.getD q aM0).2.2.2.1) (s := s) (by omega) (by have := l3.2.2.1; omega) (fun p hp => by rw [Nat.zero_add]; exact l3.get hp)
          rw [Nat.zero_add, Nat.zero_add] at e8
          rw [e8]
          rfl
    · rw [if_neg c1, if_neg c1, c_has (nb := fun v => (ns v).length) (fun v hv => (hx v hv).2.1), Option.bind_some]
      cases hh : hasB (fun v => (ns v).length) u k with
      | false => rw [if_neg (by decide), if_neg (by decide)]
      | true =>
        rw [if_pos rfl, if_pos rfl]
        obtain ⟨v, b, hv, hb, rfl, rfl⟩ := hasB_n hh (fun u hu => (hx u hu).1)
        have hb : b < (ns v).length := hb
        obtain ⟨x1, x2, x3⟩ := hx v hv
        obtain ⟨y1, fr, y2, y3, y4, y5⟩ := x3 b hb
        have t1 : ∀ v, v < 4 → ucl (991 + 16 * v) = (20, 6) ∧ ucl (990 + 16 * v) = (20, 6) ∧ ucl (989 + 16 * v) = (21, 120) := by decide
        obtain ⟨u1, u2, u3⟩ := t1 v hv
        have i1 : iget 20 s (991 + 16 * v) (nI b) = some (nI (fr + ((ns v).getD b []).length)) := by rw [iget_c (N := 6) (by omega) u1 (by omega) (by decide), y4]
        have i2 : iget 20 s (990 + 16 * v) (nI b) = some (nI fr) := by rw [iget_c (N := 6) (by omega) u2 (by omega) (by decide), y3]
        rw [nI_clamp (by omega), nI_clamp (by omega), pgt_usr hv, Option.bind_some, if_pos (so_usr hv), show 985 + 16 * v + 3 + 3 = 991 + 16 * v by omega, show 985 + 16 * v + 3 + 2 = 990 + 16 * v by omega, show 985 + 16 * v + 3 + 1 = 989 + 16 * v by omega, i1, Option.bind_some, i2, Option.bind_some, nI_sub (by omega), show fr + ((ns v).getD b []).length - fr = ((ns v).getD b []).length by omega]
        by_cases cl : j < ((ns v).getD b []).length
        · rw [if_pos ((nI_ltI hj (by omega)).mpr cl), Option.bind_some, Option.bind_some, nI_add, c_e8 (by omega) (by omega) (fun p hp => by rw [iget_c (N := 120) (by omega) u3 (by omega) (by decide), y5 p hp])]
          rfl
        · rw [if_neg (fun e => cl ((nI_ltI hj (by omega)).mp e)), e8_out (by omega)]
  · rw [if_neg c0, if_pos (Int32.not_le.mp c0)]
theorem r_nml {s : uS} {x1 x2 : Int32} {b4 : Bool} {bs : List Int32} {i : Nat} (hi : i < 2 ^ 31) (hb : bs.length ≤ 101) (hr : ∀ j : Nat, j < 8 → i + j < bs.length → (if b4 = true then iget 20 s 1124 ((((101 : Int32) * x2) + nI i) + nI j) else iget 20 s 1127 ((((20 : Int32) * (((6 : Int32) * x1) + x2)) + nI i) + nI j)) = some (bs.getD (i + j) 0 &&& 255)) : ∀ n j : Nat, j < 8 → fn_X12_name_79 (n + 1) x1 x2 (nI i) b4 (nI bs.length) (e8f (e8g bs i) j) (nI j) s = fn_X12_name_79 n x1 x2 (nI i) b4 (nI bs.length) (e8f (e8g bs i) (j + 1)) (nI (j + 1)) s := by
  intro n j hj
  show fb_X12_name_79 (fn_X12_name_79 n) x1 x2 (nI i) b4 (nI bs.length) _ (nI j) s = _
  unfold fb_X12_name_79 fb_X12_name_106 fb_X12_name_158
  rw [if_neg (by rw [show (8 : Int32) = nI 8 by decide]; exact nI_ge hj (by decide)), show (8 : Int32).toInt64 &&& 63 = 8 by decide, nI_1]
  have hz : ∀ b : Int32, b = e8g bs i j → fn_X12_name_79 n x1 x2 (nI i) b4 (nI bs.length) ((e8f (e8g bs i) j <<< (8 : Int64)) ||| b.toInt64) (nI (j + 1)) s = fn_X12_name_79 n x1 x2 (nI i) b4 (nI bs.length) (e8f (e8g bs i) (j + 1)) (nI (j + 1)) s := fun b hb => by rw [hb]; rfl
  by_cases c : bs.length ≤ i
  · rw [if_pos ((nI_leI (by omega) hi).mpr c), if_neg (by decide)]
    exact hz 0 (if_neg (by omega)).symm
  · rw [if_neg (fun e => c ((nI_leI (by omega) hi).mp e))]
    by_cases c2 : bs.length ≤ j + i
    · rw [if_pos ((nI_sbl (by omega) (by omega) (by omega)).mpr c2), if_neg (by decide)]
      exact hz 0 (if_neg (by omega)).symm
    · rw [if_neg (fun e => c2 ((nI_sbl (by omega) (by omega) (by omega)).mp e)), if_pos (show true = true from rfl)]
      have hr := hr j hj (by omega)
      by_cases cb : b4 = true
      · rw [if_pos cb] at hr ⊢
        rw [hr, Option.bind_some]
        exact hz _ (if_pos (by omega)).symm
      · rw [if_neg cb] at hr ⊢
        rw [hr, Option.bind_some]
        exact hz _ (if_pos (by omega)).symm
theorem r_nm8 {s : uS} {x1 x2 : Int32} {b4 : Bool} {bs : List Int32} {i : Nat} (hi : i < 2 ^ 31) (hb : bs.length ≤ 101) (hr : ∀ j : Nat, j < 8 → i + j < bs.length → (if b4 = true then iget 20 s 1124 ((((101 : Int32) * x2) + nI i) + nI j) else iget 20 s 1127 ((((20 : Int32) * (((6 : Int32) * x1) + x2)) + nI i) + nI j)) = some (bs.getD (i + j) 0 &&& 255)) : fn_X12_name_79 uFu x1 x2 (nI i) b4 (nI bs.length) 0 0 s = some (e8w bs i) := by
  show fn_X12_name_79 (999991 + 1 + 1 + 1 + 1 + 1 + 1 + 1 + 1 + 1) x1 x2 (nI i) b4 (nI bs.length) (e8f (e8g bs i) 0) (nI 0) s = _
  rw [r_nml hi hb hr _ _ (by decide), r_nml hi hb hr _ _ (by decide), r_nml hi hb hr _ _ (by decide), r_nml hi hb hr _ _ (by decide), r_nml hi hb hr _ _ (by decide), r_nml hi hb hr _ _ (by decide), r_nml hi hb hr _ _ (by decide), r_nml hi hb hr _ _ (by decide)]
  show fb_X12_name_79 _ _ _ _ _ _ _ (nI 8) s = _
  unfold fb_X12_name_79
  rw [if_pos (by decide)]
  rfl
theorem r_name {s : uS} {ms : List aM} {ns : Nat → List (List Int32)} (h : rO s ms) (hx : ∀ u : Nat, u < 4 → rX s u (ns u)) (u k i : Int32) : fn_X12_name u k i s = some (a_nam ns ms u k i) := by
  have hbox : ∀ b : Bool, b = false → u ≠ 4 → fb_X12_name_22 u k i b s = some (a_nam ns ms u k i) := by
    intro b hb hu
    subst hb
    unfold fb_X12_name_22 a_nam
    by_cases c0 : i < 0
    · rw [if_pos c0, if_pos c0]
    · rw [if_neg c0, if_neg c0, if_neg (show ¬ false = true by decide), if_neg hu, r_has (nb := fun v => (ns v).length) (fun v hv => (hx v hv).2.1), Option.bind_some]
      cases hh : hasB (fun v => (ns v).length) u k with
      | false => rw [if_neg (show ¬ false = true by decide), if_neg (show ¬ false = true by decide)]
      | true =>
        rw [if_pos rfl, if_pos rfl]
        obtain ⟨j, hj, rfl⟩ := nI_of c0
        obtain ⟨v, b, hv, hb, rfl, rfl⟩ := hasB_n hh (fun u hu => (hx u hu).1)
        have hb : b < (ns v).length := hb
        obtain ⟨x1, x2, x3⟩ := hx v hv
        obtain ⟨y1, y2, y3⟩ := x3 b hb
        unfold fb_X12_name_46
        rw [if_neg (show ¬ false = true by decide), nI_clamp hj, nI_clamp (by omega), nI_clamp (by omega), show (6 : Int32) = nI 6 by decide, nI_mul, nI_add, iget_c (N := 24) (by decide) (by decide) (by omega) (by decide), Option.bind_some, y2]
        refine r_nm8 hj (by omega) (fun q hq hl => ?_)
        rw [if_neg (show ¬ false = true by decide), show (6 : Int32) = nI 6 by decide, nI_mul, nI_add, show (20 : Int32) = nI 20 by decide, nI_mul, nI_add, nI_add, show 20 * (6 * v + b) + j + q = 20 * (6 * v + b) + (j + q) by omega, iget_c (N := 480) (by decide) (by decide) (by omega) (by decide), y3 (j + q) hl]
  unfold fn_X12_name
  by_cases c4 : u = 4
  · rw [if_pos c4]
    obtain ⟨b, b1, b2, b3⟩ := h
    have hno : ∀ q : Bool, q = false → a_no ms (-1) 0 k = none → fb_X12_name_22 u k i q s = some (a_nam ns ms u k i) := by
      intro q hq hn
      subst hq
      unfold fb_X12_name_22 a_nam
      by_cases c0 : i < 0
      · rw [if_pos c0, if_pos c0]
      · rw [if_neg c0, if_neg c0, if_neg (show ¬ false = true by decide), if_pos c4, hn, r_has (nb := fun v => (ns v).length) (fun v hv => (hx v hv).2.1), Option.bind_some, show hasB (fun v => (ns v).length) u k = false from decide_eq_false (fun e => by rw [c4] at e; exact absurd e.2.1 (by decide)), if_neg (show ¬ false = true by decide)]
    by_cases ck : k < 0
    · rw [if_pos ck]
      exact hno _ rfl (if_pos ck)
    · rw [if_neg ck, b1]
      obtain ⟨q, hq, rfl⟩ := nI_of ck
      by_cases cs : b ≤ q
      · rw [if_pos ((nI_leI (by omega) hq).mpr cs)]
        exact hno _ rfl (by unfold a_no; rw [if_neg ck, nI_clamp hq]; exact (b3 q).1 cs)
      · rw [if_neg (fun e => cs ((nI_leI (by omega) hq).mp e))]
        obtain ⟨p, p1, p2, p3, p4⟩ := (b3 q).2 (by omega)
        unfold fb_X12_name_22 a_nam
        by_cases c0 : i < 0
        · rw [if_pos c0, if_pos c0]
        · rw [if_neg c0, if_neg c0, if_pos (show true = true from rfl), if_pos c4]
          obtain ⟨j, hj, rfl⟩ := nI_of c0
          have hno : a_no ms (-1) 0 (nI q) = some p := by unfold a_no; rw [if_neg ck, nI_clamp hq]; exact p1
          rw [hno, nI_clamp hj]
          unfold fb_X12_name_46
          rw [if_pos (show true = true from rfl), iget_c (N := 101) (by decide) (by decide) (by omega) (by decide), Option.bind_some, p3]
          refine r_nm8 hj p2 (fun z hz hl => ?_)
          rw [if_pos (show true = true from rfl), show (101 : Int32) = nI 101 by decide, nI_mul, nI_add, nI_add, show 101 * q + j + z = 101 * q + (j + z) by omega, iget_c (N := 10300) (by decide) (by decide) (by omega) (by decide), p4 (j + z) hl]
  · rw [if_neg c4]
    exact hbox _ rfl c4
