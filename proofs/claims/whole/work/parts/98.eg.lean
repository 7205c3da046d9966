/-! texts raised -/
def rsL (ts : List (List Nat)) (f a : Nat) : List (List Nat) := (List.range ts.length).map (fun j => if f ≤ j ∧ j < f + a then fl true (ts.getD j []) else ts.getD j [])
theorem rsL_len {ts : List (List Nat)} {f a : Nat} : (rsL ts f a).length = ts.length := by unfold rsL; rw [List.length_map, List.length_range]
theorem rsL_get {ts : List (List Nat)} {f a j : Nat} (h : j < ts.length) : (rsL ts f a).getD j [] = if f ≤ j ∧ j < f + a then fl true (ts.getD j []) else ts.getD j [] := by
  unfold rsL
  rw [List.getD_eq_getElem?_getD, List.getElem?_map, List.getElem?_range h]; rfl
/-- the texts, with the places where they begin -/
def cTf (s : uS) (k : Nat) (fr : Nat → Nat) (ts : List (List Nat)) : Prop := ∀ i : Nat, i < ts.length → bys (ts.getD i []) ∧ s.F (k + 2) i = nI (fr i) ∧ s.F (k + 3) i = nI (fr i + (ts.getD i []).length) ∧ fr i + (ts.getD i []).length ≤ fr (i + 1) ∧ ∀ j : Nat, j < (ts.getD i []).length → s.F (k + 1) (fr i + j) = sb ((ts.getD i []).getD j 0)
theorem fr_lt {s : uS} {k : Nat} {fr : Nat → Nat} {ts : List (List Nat)} (h : cTf s k fr ts) {i j : Nat} (hij : i < j) (hj : j ≤ ts.length) : fr i + (ts.getD i []).length ≤ fr j := by
  have := fr_mono (fr := fr) (n := ts.length) (fun i hi => by have := (h i hi).2.2.2.1; omega) (j - (i + 1)) (i + 1) (by omega)
  rw [show i + 1 + (j - (i + 1)) = j by omega] at this
  have := (h i (by omega)).2.2.2.1
  omega
def upV (v : Int32) : Int32 := (if v < 97 then v else if (122 : Int32) < v then v else v - 32).toInt8.toInt32
theorem upV_sb {b : Nat} (h : b < 256) : upV (sb b) = sb (up b) := by
  have key : ∀ b : Fin 256, upV (sb b.val) = sb (up b.val) := by decide +kernel
  exact key ⟨b, h⟩
theorem c_upV (v : Int32) (s : uS) : ∃ w : Int32, fn_X9_upper v s = some w ∧ w.toInt8.toInt32 = upV v := by
  unfold fn_X9_upper upV
  by_cases z : v < 97
  · rw [if_pos z, if_pos z]; exact ⟨_, rfl, rfl⟩
  · rw [if_neg z, if_neg z]
    by_cases y : (122 : Int32) < v
    · rw [if_pos y, if_pos y]; exact ⟨_, rfl, rfl⟩
    · rw [if_neg y, if_neg y]; exact ⟨_, rfl, rfl⟩
theorem c_rs25 {K : Nat → Int32 → Int32 → Int32 → uS → Option uS} {k cap mo : Nat} (hk : uTx k cap mo) {x f0 L : Nat} {f a : Int32} (hx : x < mo) (hL : f0 + L ≤ cap) : ∀ (d N p : Nat) (s : uS), p + d = L → d + 1 ≤ N → s.F (k + 3) x = nI (f0 + L) → ∃ s1 : uS, fn_X9_raise_25 K N k f a (nI x) (nI (f0 + p)) s = K k f a (nI (x + 1)) s1 ∧ (∀ j : Nat, s1.F (k + 1) j = if f0 + p ≤ j ∧ j < f0 + L then upV (s.F (k + 1) j) else s.F (k + 1) j) ∧ out rNo (fun r _ => r = k + 1) s s1 := by
  obtain ⟨u1, u2, u3, u4, u5, u6⟩ := hk
  intro d
  induction d with
  | zero =>
    intro N p s hp hN ht
    obtain ⟨n1, rfl⟩ : ∃ n1, N = n1 + 1 := ⟨N - 1, by omega⟩
    refine ⟨s, ?_, fun j => by rw [if_neg (by omega)], out_r⟩
    show fb_X9_raise_25 K _ k f a (nI x) (nI (f0 + p)) s = _
    unfold fb_X9_raise_25
    rw [iget_c (by omega) u4 hx (by omega), Option.bind_some, ht, if_pos (nI_le (by omega) (by omega)), nI_1]
  | succ d ih =>
    intro N p s hp hN ht
    obtain ⟨n1, rfl⟩ : ∃ n1, N = n1 + 1 := ⟨N - 1, by omega⟩
    obtain ⟨w, w1, w2⟩ := c_upV (s.F (k + 1) (f0 + p)) s
    show ∃ s1 : uS, fb_X9_raise_25 K (fn_X9_raise_25 K n1) k f a (nI x) (nI (f0 + p)) s = _ ∧ _
    unfold fb_X9_raise_25
    rw [iget_c (by omega) u4 hx (by omega), Option.bind_some, ht, if_neg (nI_ge (by omega) (by omega)), iget_c (by omega) u2 (by omega) (by omega), Option.bind_some, w1, Option.bind_some, w2, iput_c (by omega) u2 (by omega) (by omega), Option.bind_some, nI_1, show f0 + p + 1 = f0 + (p + 1) by omega]
    obtain ⟨s1, q1, q2, q3⟩ := ih n1 (p + 1) (wF s (k + 1) (f0 + p) (unar 21 (upV (s.F (k + 1) (f0 + p))))) (by omega) (by omega) (by rw [wF_r (by omega)]; exact ht)
    have eU : unar 21 (upV (s.F (k + 1) (f0 + p))) = upV (s.F (k + 1) (f0 + p)) := by
      show (upV (s.F (k + 1) (f0 + p))).toInt8.toInt32 = upV (s.F (k + 1) (f0 + p))
      unfold upV
      rw [Int8.toInt8_toInt32]
    refine ⟨s1, q1, fun j => ?_, out_t (out_F out_r rfl) q3⟩
    rw [q2 j, eU]
    by_cases z : j = f0 + p
    · subst z
      rw [if_neg (by omega), wF_e, if_pos (by omega)]
    · rw [wF_o (by omega)]
      by_cases y : f0 + (p + 1) ≤ j ∧ j < f0 + L
      · rw [if_pos y, if_pos (by omega)]
      · rw [if_neg y, if_neg (by omega)]
theorem c_raise {k cap mo : Nat} (hk : uTx k cap mo) {fr : Nat → Nat} {ts : List (List Nat)} {f a : Nat} (hmo : ts.length ≤ mo) (hcap : fr ts.length ≤ cap) (hfa : f + a < 2 ^ 30) : ∀ (d N q : Nat) (s : uS), q + d = a → d + 1 ≤ N → s.I k 3 = nI ts.length → cTf s k fr (rsL ts f q) → ∃ s1 : uS, fn_X9_raise_2 N k (nI f) (nI a) (nI (f + q)) s = some s1 ∧ cTf s1 k fr (rsL ts f a) ∧ out rNo (fun r _ => r = k + 1) s s1 := by
  intro d
  induction d with
  | zero =>
    intro N q s hq hN h3 h
    obtain ⟨n1, rfl⟩ : ∃ n1, N = n1 + 1 := ⟨N - 1, by omega⟩
    refine ⟨s, ?_, by rw [show a = q by omega]; exact h, out_r⟩
    show fb_X9_raise_2 _ k (nI f) (nI a) (nI (f + q)) s = _
    unfold fb_X9_raise_2
    rw [nI_add, if_pos (nI_le (by omega) (by omega))]
  | succ d ih =>
    intro N q s hq hN h3 h
    obtain ⟨n1, rfl⟩ : ∃ n1, N = n1 + 1 := ⟨N - 1, by omega⟩
    show ∃ s1 : uS, fb_X9_raise_2 (fn_X9_raise_2 n1) k (nI f) (nI a) (nI (f + q)) s = _ ∧ _
    unfold fb_X9_raise_2
    rw [nI_add, if_neg (nI_ge (by omega) (by omega)), h3]
    have hm10 := hk.2.2.2.2.2
    have hc10 := hk.2.2.2.2.1
    by_cases z : ts.length ≤ f + q
    · rw [if_pos (nI_le z (by omega))]
      refine ⟨s, rfl, ?_, out_r⟩
      intro i hi
      rw [rsL_len] at hi
      have := h i (by rw [rsL_len]; exact hi)
      rw [rsL_get hi] at this ⊢
      by_cases y : f ≤ i ∧ i < f + q
      · rw [if_pos y] at this; rw [if_pos (by omega)]; exact this
      · rw [if_neg y] at this; rw [if_neg (by omega)]; exact this
    · rw [if_neg (nI_ge (by omega) (by omega))]
      obtain ⟨x1, x2, x3, x4, x5⟩ := h (f + q) (by rw [rsL_len]; omega)
      rw [rsL_get (by omega), if_neg (by omega)] at x1 x3 x4 x5
      have hend : fr (f + q) + (ts.getD (f + q) []).length ≤ cap := by
        have := fr_lt (i := f + q) (j := ts.length) h (by omega) (by rw [rsL_len]; exact Nat.le_refl _)
        rw [rsL_get (by omega), if_neg (by omega)] at this
        omega
      rw [iget_c (by have := hk.1; omega) hk.2.2.1 (by omega) (by omega), Option.bind_some, x2]
      obtain ⟨s1, q1, q2, q3⟩ := c_rs25 (K := fn_X9_raise_2 n1) (f := nI f) (a := nI a) hk (x := f + q) (f0 := fr (f + q)) (L := (ts.getD (f + q) []).length) (by omega) hend (ts.getD (f + q) []).length 1000000 0 s (by omega) (by omega) x3
      rw [Nat.add_zero] at q1
      rw [show fn_X9_raise_25 (fn_X9_raise_2 n1) uFu k (nI f) (nI a) (nI (f + q)) (nI (fr (f + q))) s = _ from q1, show f + q + 1 = f + (q + 1) by omega]
      obtain ⟨s2, w1, w2, w3⟩ := ih n1 (q + 1) s1 (by omega) (by omega) ((q3.2.1 _ _ (fun z => z)).trans h3) (by
        intro i hi
        rw [rsL_len] at hi
        obtain ⟨y1, y2, y3, y4, y5⟩ := h i (by rw [rsL_len]; exact hi)
        have fr2 : s1.F (k + 2) i = s.F (k + 2) i := q3.2.2 _ _ (by omega)
        have fr3 : s1.F (k + 3) i = s.F (k + 3) i := q3.2.2 _ _ (by omega)
        rw [fr2, fr3]
        by_cases e : i = f + q
        · subst e
          rw [rsL_get (by omega), if_pos (by omega), fl_len]
          refine ⟨bys_fl x1, x2, x3, x4, fun j hj => ?_⟩
          rw [q2, if_pos (by omega), x5 j hj, upV_sb (x1 j), fl_get, if_pos rfl]
        · have e2 : (rsL ts f (q + 1)).getD i [] = (rsL ts f q).getD i [] := by
            rw [rsL_get hi, rsL_get hi]
            by_cases y : f ≤ i ∧ i < f + q
            · rw [if_pos y, if_pos (by omega)]
            · rw [if_neg y, if_neg (by omega)]
          rw [e2]
          refine ⟨y1, y2, y3, y4, fun j hj => ?_⟩
          rw [q2]
          have lx : ((rsL ts f q).getD (f + q) []).length = (ts.getD (f + q) []).length := by rw [rsL_get (by omega), if_neg (by omega)]
          rw [if_neg (by
            rcases Nat.lt_or_gt_of_ne e with c | c
            · have := fr_lt h c (by rw [rsL_len]; omega); omega
            · have := fr_lt h c (by rw [rsL_len]; omega); rw [lx] at this; omega)]
          exact y5 j hj)
      exact ⟨s2, w1, w2, out_t q3 w3⟩
theorem tz_raise {s : uS} {k cap mo bg f a : Nat} {ts : List (List Nat)} {cur : List Nat} (hk : uTx k cap mo) (h : cTz s k cap mo ts bg cur) (hc : cur = []) (hfa : f + a < 500000) : ∃ s1 : uS, fn_X9_raise k (nI f) (nI a) s = some s1 ∧ cTz s1 k cap mo (rsL ts f a) bg [] ∧ out rNo (fun r _ => r = k + 1) s s1 := by
  subst hc
  obtain ⟨h1, h2, h3, h4, h5, h6, h7, fr, h8, h9⟩ := h
  have e0 : rsL ts f 0 = ts := by
    apply List.ext_getElem?
    intro i
    by_cases z : i < ts.length
    · have := rsL_get (ts := ts) (f := f) (a := 0) z
      rw [if_neg (by omega), List.getD_eq_getElem?_getD, List.getD_eq_getElem?_getD, List.getElem?_eq_getElem (by rw [rsL_len]; exact z), List.getElem?_eq_getElem z] at this
      rw [List.getElem?_eq_getElem (by rw [rsL_len]; exact z), List.getElem?_eq_getElem z]
      exact congrArg some this
    · rw [List.getElem?_eq_none (by rw [rsL_len]; omega), List.getElem?_eq_none (by omega)]
  obtain ⟨s1, q1, q2, q3⟩ := c_raise hk (fr := fr) (ts := ts) (f := f) (a := a) h2 (by rw [h8]; simp at h5; omega) (by omega) a 1000000 0 s (by omega) (by omega) h1 (by rw [e0]; exact h9)
  rw [Nat.add_zero] at q1
  refine ⟨s1, q1, ⟨?_, ?_, ?_, ?_, h5, h6, fun j hj => absurd hj (by simp), fr, by rw [rsL_len]; exact h8, q2⟩, q3⟩
  · rw [rsL_len, q3.2.1 _ _ (fun z => z)]; exact h1
  · rw [rsL_len]; exact h2
  · rw [q3.2.1 _ _ (fun z => z)]; exact h3
  · rw [q3.2.1 _ _ (fun z => z)]; exact h4
