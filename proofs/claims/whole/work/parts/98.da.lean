/-! a test begins on both sides -/
theorem pj.fl2 {k fr : Nat} {x : List Nat} {ts : List (List Nat)} {bg b e : Nat} {σ : List (Nat × Nat)} {N M cn ob dp rq T : Nat} {s t V : uS} (h : pj k fr x ts bg b e σ N M cn ob dp rq T s t) (hV : ol rnJ rnK rNo t V) {m : Nat} (hm : m ≤ 520) (h41 : V.I 1079 41 = nI m) (hls : lsO V) : FU b t (fn_X12_fail (V.I 1079 32) V) := by
  obtain ⟨h1, h2, ⟨r1, r2, r3, r4, r5, r6, r7, r8⟩, k1, k2, k3, k4, k5, k6, k7, k8, k9, k10, k11, k12, k13⟩ := h
  obtain ⟨l1, l2, l3, l4, l5, l6⟩ := h1.l
  have := l1.2.2.1
  have := l1.2.2.2.2.2.2.2
  have j : ∀ f : Nat, f < 41 → f ≠ 21 → V.I 1079 f = t.I 1079 f := fun f hf hg => hV.2.1 _ _ (by unfold rnJ; omega)
  unfold fn_X12_fail fb_X12_fail_12
  rw [j 40 (by omega) (by omega), l3, if_neg (show ¬ (0 : Int32) ≤ -1 by decide), j 32 (by omega) (by omega), l5]
  refine ⟨_, rfl, ⟨by omega, ?_, ⟨m, hm, ?_⟩, hls⟩, ol_I (ol_I (ol_I (rn_rd hV) ⟨rfl, by omega⟩) ⟨rfl, by omega⟩) ⟨rfl, by omega⟩⟩
  · rw [wI_o (by omega), wI_o (by omega), wI_e]
  · rw [wI_o (by omega), wI_o (by omega), wI_o (by omega)]; exact h41
def ctI (k f : Nat) : Prop := k = 1079 ∧ (f = 41 ∨ f = 42)
theorem pj.ct0 {k fr : Nat} {x : List Nat} {ts : List (List Nat)} {bg b e : Nat} {σ : List (Nat × Nat)} {N M cn ob dp dp1 rq T : Nat} {s t U : uS} (h : pj k fr x ts bg b e σ N M cn ob dp rq T s t) (q : ol rnJ rnK rNo t U) (hr : pr ts bg M cn ob dp1 rq U) (hc : cn = 100) (κ : Int32) : FV b t (fn_X12_counting κ U) := by
  obtain ⟨r1, r2, r3, r4, r5, r6, r7, r8⟩ := hr
  obtain ⟨k1, k2, k3, k4, k5, k6, k7, k8, k9, -⟩ := h.2.2.2
  have hf := h.fl2 q (m := M) (by omega) r1 r8
  unfold fn_X12_counting fb_X12_counting_17
  rw [if_pos (show U.I 1079 42 = 100 by rw [r2, hc]; rfl)]
  refine hf.uv fun t1 h1 => FV.w (t := wI t1 1079 42 (t1.I 1079 42 + 1)) (ol_I ol_r (show rdI 1079 42 from ⟨rfl, by omega⟩)) ?_
  exact ((h1.I (by decide) (by decide)).nd κ).vv fun t2 v hv h2 => h2.V hv
theorem r_cnt1 {ts : List (List Nat)} {bg M cn ob dp rq : Nat} {U : uS} (hr : pr ts bg M cn ob dp rq U) (hc : cn < 100) (hM : M < 519) (κ : Int32) : ∃ V : uS, fn_X12_counting κ U = some (V, nI M) ∧ out ctI (rndF M) U V ∧ pr ts bg (M + 1) (cn + 1) ob dp rq V ∧ nodR M κ V := by
  obtain ⟨r1, r2, r3, r4, r5, r6, r7, r8⟩ := hr
  have e1 : (wI U 1079 42 (U.I 1079 42 + 1)).I 1079 41 = nI M := by rw [wI_o (by omega)]; exact r1
  obtain ⟨V, v1, v2, v3, v4⟩ := r_node (κ := κ) e1 hM
  have oV : out ctI (rndF M) U V := out_t (out_I out_r ⟨rfl, Or.inr rfl⟩) (out_w v3 (fun k f z => by unfold rndI at z; unfold ctI; omega) (fun _ _ z => z))
  have i : ∀ f : Nat, f ≠ 41 → f ≠ 42 → V.I 1079 f = U.I 1079 f := fun f hf hg => oV.2.1 _ _ (by unfold ctI; omega)
  have g : ∀ r f : Nat, f ≠ M ∨ 1115 < r ∨ r < 1098 → V.F r f = U.F r f := fun r f hf => oV.2.2 _ _ (by unfold rndF; omega)
  refine ⟨V, ?_, oV, ⟨v2, ?_, (i _ (by omega) (by omega)).trans r3, (i _ (by omega) (by omega)).trans r4, (i _ (by omega) (by omega)).trans r5, (i _ (by omega) (by omega)).trans r6, r7.out (fun j hj => ⟨g _ _ (by omega), g _ _ (by omega)⟩) (fun j hj => g _ _ (by omega)), fun n hn => ?_⟩, v4⟩
  · unfold fn_X12_counting fb_X12_counting_17
    rw [if_neg (show ¬ U.I 1079 42 = 100 by rw [r2]; show ¬ nI cn = nI 100; rw [nI_eq (by omega) (by omega)]; omega), v1, Option.bind_some]
  · rw [v3.2.1 _ _ (by unfold rndI; omega), wI_e, r2, nI_1]
  · by_cases z : n = M
    · rw [z]; exact Or.inl v4.2.1
    · rw [g 1099 n (Or.inl z), g 1100 n (Or.inl z)]; exact r8 n hn
theorem pj.nds {k fr : Nat} {x : List Nat} {ts : List (List Nat)} {bg b e : Nat} {σ : List (Nat × Nat)} {N M cn ob dp rq T : Nat} {s t : uS} (h : pj k fr x ts bg b e σ N M cn ob dp rq T s t) {M1 cn1 ob1 dp1 : Nat} {V : uS} (q : ol rnJ rnK rNo t V) (hr : pr ts bg M1 cn1 ob1 dp1 rq V) (hM : M1 ≤ 520) {j : Nat} (hj : j < 8) : (rq &&& 2 ^ j = 2 ^ j → fn_X12_needs (nI (2 ^ j)) V = some V) ∧ (¬ rq &&& 2 ^ j = 2 ^ j → FU b t (fn_X12_needs (nI (2 ^ j)) V)) := by
  obtain ⟨r1, r2, r3, r4, r5, r6, r7, r8⟩ := hr
  obtain ⟨k1, k2, k3, k4, k5, k6, k7, k8, k9, k10, k11, k12, -⟩ := h.2.2.2
  have e := r_needs (j := j) r5 k12 hj
  refine ⟨fun z => by rw [e, if_pos z], fun z => ?_⟩
  rw [e, if_neg z]
  exact (h.fl2 q hM r1 r8).uu fun t1 h1 => h1.U
theorem nodN.fr {N : Nat} {κ p d : Int32} {S S1 : uS} (h : nodN N κ p d S) (i : ∀ f : Nat, S1.I (16 + 3 * N) f = S.I (16 + 3 * N) f) (g : ∀ f : Nat, S1.F (18 + 3 * N) f = S.F (18 + 3 * N) f) : nodN N κ p d S1 := by
  obtain ⟨h1, h2, h3, h4, h5, h6, h7, h8, h9, h10, h11⟩ := h
  exact ⟨(i _).trans h1, (i _).trans h2, (i _).trans h3, (i _).trans h4, (i _).trans h5, (i _).trans h6, (i _).trans h7, (i _).trans h8, (i _).trans h9, (i _).trans h10, fun l hl => (g l).trans (h11 l hl)⟩
theorem nodR.fr {M : Nat} {κ : Int32} {U U1 : uS} (h : nodR M κ U) (i : ∀ r : Nat, U1.F r M = U.F r M) : nodR M κ U1 := by
  obtain ⟨h1, h2, h3, h4, h5, h6, h7, h8, h9, h10, h11, h12, h13, h14, h15⟩ := h
  exact ⟨(i _).trans h1, (i _).trans h2, (i _).trans h3, (i _).trans h4, (i _).trans h5, (i _).trans h6, (i _).trans h7, (i _).trans h8, (i _).trans h9, (i _).trans h10, (i _).trans h11, (i _).trans h12, (i _).trans h13, (i _).trans h14, (i _).trans h15⟩
def sgI (N k _f : Nat) : Prop := k = 6 ∨ k = 16 + 3 * N
def sgF (N k _f : Nat) : Prop := k = 14 ∨ k = 15 ∨ k = 18 + 3 * N
/-- a new node with symbols over it -/
def nwN (σ : List (Nat × Nat)) (N cn ob rq : Nat) (κ p d : Int32) (s S : uS) : Prop := pm σ (N + 1) cn ob rq S ∧ nodN N κ p d S ∧ out (sgI N) (sgF N) s S
theorem nwN.ps {σ : List (Nat × Nat)} {N cn ob rq : Nat} {κ p d : Int32} {s S : uS} (h : nwN σ N cn ob rq κ p d s S) (a c : Nat) : nwN ((a, c) :: σ) N cn ob rq κ p d s (psh S σ.length (nI a) (nI c)) := by
  obtain ⟨h1, h2, h3⟩ := h
  exact ⟨h1.psh, h2.fr (fun f => psh_I (by omega)) (fun f => by rw [psh_F (by omega) (by omega)]), psh_o h3 (Or.inl rfl) (Or.inl rfl) (Or.inr (Or.inl rfl))⟩
theorem nwN.h5 {σ : List (Nat × Nat)} {N cn ob rq : Nat} {κ p d : Int32} {s S : uS} (h : nwN σ N cn ob rq κ p d s S) : S.I 6 5 = nI σ.length := h.1.1
theorem c_new {σ : List (Nat × Nat)} {N cn cn1 ob rq : Nat} {κ p d : Int32} {s S0 : uS} (h : pm σ N cn1 ob rq S0) (o : out (sgI N) (sgF N) s S0) (hN : N < 320) : ∃ S : uS, fn_X4_addNode κ p d S0 = some (S, nI N) ∧ nwN σ N cn1 ob rq κ p d s S := by
  obtain ⟨S, s1, s2, s3, s4⟩ := c_node (κ := κ) (p := p) (d := d) h.2.2.1 hN
  have i : ∀ f : Nat, f ≠ 2 → S.I 6 f = S0.I 6 f := fun f hf => s3.2.1 _ _ (by unfold anI; omega)
  have g : ∀ r f : Nat, r = 14 ∨ r = 15 → S.F r f = S0.F r f := fun r f hr => s3.2.2 _ _ (by unfold anF; omega)
  obtain ⟨h1, h2, h3, h4, h5, h6⟩ := h
  refine ⟨S, s1, ⟨(i _ (by omega)).trans h1, h2.fr (fun j hj => ⟨g 14 j (Or.inl rfl), g 15 j (Or.inr rfl)⟩), s2, (i _ (by omega)).trans h4, (i _ (by omega)).trans h5, (i _ (by omega)).trans h6⟩, s4, out_t o (out_w s3 (fun k f z => by unfold anI at z; unfold sgI; omega) (fun k f z => by unfold anF at z; unfold sgF; omega))⟩
theorem nI_11 {v : Nat} : (11 : Int32) + nI v = nI (11 + v) := (Int32.ofNat_add 11 v).symm
theorem c_stst {s : uS} {p v : Nat} {σ : List (Nat × Nat)} {N cn ob rq dp : Nat} (hm : pm ((5, p) :: σ) N cn ob rq s) (hp : p < 320) (hN : N < 320) (hl : σ.length < 100) (hd : s.I (16 + 3 * p) 2 = nI dp) (hdp : dp ≤ 8) (hcn : cn ≤ 100) (hrq : rq < 256) (hv : v ≤ 11) : ((v = 11 ∨ cn = 100 ∨ dp = 8 ∨ ¬ rq &&& NKn.getD (11 + v) 0 = NKn.getD (11 + v) 0) → fb_X4_startTest_23 (nI p) (if v = 11 then -1 else nI v) s = some (s, 0)) ∧ (¬ (v = 11 ∨ cn = 100 ∨ dp = 8 ∨ ¬ rq &&& NKn.getD (11 + v) 0 = NKn.getD (11 + v) 0) → ∃ S : uS, fb_X4_startTest_23 (nI p) (if v = 11 then -1 else nI v) s = some (S, 1) ∧ nwN (stT v N σ) N (cn + 1) ob rq (nI (11 + v)) (nI p) (nI (dp + 1)) s S) := by
  have e : fb_X4_startTest_23 (nI p) (if v = 11 then -1 else nI v) s = if v = 11 ∨ cn = 100 ∨ dp = 8 ∨ ¬ rq &&& NKn.getD (11 + v) 0 = NKn.getD (11 + v) 0 then some (s, 0) else ((fn_X4_addNode ((11 : Int32) + nI v) (nI p) (nI (dp + 1)) (wI (wI s 6 6 (nI (cn + 1))) 6 5 (nI σ.length))).bind fun r13 => if ((11 : Int32) + nI v) = 17 then ((fn_X4_push 6 r13.2 r13.1).bind fun s15 => (fn_X4_push 5 r13.2 s15).bind fun s17 => (fn_X4_push 13 40 s17).bind fun s19 => some (s19, (1 : Int32))) else (if ((11 : Int32) + nI v) = 18 then ((fn_X4_push 6 r13.2 r13.1).bind fun s21 => (fn_X4_push 5 r13.2 s21).bind fun s23 => (fn_X4_push 13 40 s23).bind fun s25 => some (s25, (1 : Int32))) else (if ((11 : Int32) + nI v) = 19 then ((fn_X4_push 7 r13.2 r13.1).bind fun s27 => (fn_X4_push 5 r13.2 s27).bind fun s29 => some (s29, (1 : Int32))) else (if ((11 : Int32) + nI v) = 20 then (some (r13.1, (1 : Int32))) else (if ((11 : Int32) + nI v) = 21 then (some (r13.1, (1 : Int32))) else ((fn_X4_pushPartsOfTest r13.2 ((11 : Int32) + nI v) r13.1).bind fun s31 => some (s31, (1 : Int32)))))))) := by
    unfold fb_X4_startTest_23
    rw [pgt_nod hp, Option.bind_some, if_pos (so_nod hp)]
    by_cases c1 : v = 11
    · rw [if_pos c1, if_pos (show (-1 : Int32) < 0 by decide), if_pos (Or.inl c1)]
    rw [if_neg c1, if_neg (show ¬ nI v < (0 : Int32) from nI_nlt (b := 0) (Nat.zero_le _) (by omega)), hm.2.2.2.1]
    by_cases c2 : cn = 100
    · rw [if_pos (show nI cn = 100 by rw [c2]; rfl), if_pos (Or.inr (Or.inl c2))]
    rw [if_neg (show ¬ nI cn = 100 by show ¬ nI cn = nI 100; rw [nI_eq (by omega) (by omega)]; exact c2), hd, nI_1 dp]
    by_cases c3 : dp = 8
    · rw [if_pos (show (8 : Int32) < nI (dp + 1) by rw [c3]; decide), if_pos (Or.inr (Or.inr (Or.inl c3)))]
    rw [if_neg (show ¬ (8 : Int32) < nI (dp + 1) from nI_nlt (a := 8) (b := dp + 1) (by omega) (by decide)), nI_11, tg_0 (v := 11 + v) (by omega), Option.bind_some, c_lack hm.2.2.2.2.2 hrq (NK_lt (by omega)), Option.bind_some]
    by_cases c4 : rq &&& NKn.getD (11 + v) 0 = NKn.getD (11 + v) 0
    · rw [decide_eq_false (fun z => z c4), if_neg (by decide), if_neg (by rintro (z | z | z | z); exact c1 z; exact c2 z; exact c3 z; exact z c4), nI_1 cn]
      have : (wI s 6 6 (nI (cn + 1))).I 6 5 - 1 = nI σ.length := by rw [wI_o (by omega)]; exact hm.h1
      rw [this]
    · rw [decide_eq_true c4, if_pos rfl, if_pos (Or.inr (Or.inr (Or.inr c4)))]
  rw [e]
  refine ⟨fun z => if_pos z, fun z => ?_⟩
  rw [if_neg z]
  have hm0 : pm σ N (cn + 1) ob rq (wI (wI s 6 6 (nI (cn + 1))) 6 5 (nI σ.length)) := by
    obtain ⟨h1, h2, h3, h4, h5, h6⟩ := hm
    refine ⟨wI_e _ _ _ _, stk.fr h2.2.2 (fun j hj => ⟨rfl, rfl⟩), ?_, ?_, ?_, ?_⟩
    · rw [wI_o (by omega), wI_o (by omega)]; exact h3
    · rw [wI_o (by omega), wI_e]
    · rw [wI_o (by omega), wI_o (by omega)]; exact h5
    · rw [wI_o (by omega), wI_o (by omega)]; exact h6
  obtain ⟨S, q1, q2⟩ := c_new (cn := cn) (κ := (11 : Int32) + nI v) (p := nI p) (d := nI (dp + 1)) (s := s) hm0 (out_I (out_I out_r (Or.inl rfl)) (Or.inl rfl)) hN
  rw [q1, Option.bind_some]
  rw [nI_11] at q2
  have h5 : S.I 6 5 = nI σ.length := q2.h5
  by_cases c : v ≤ 5
  · obtain ⟨S1, r1, r2⟩ := c_parts (N := N) c h5 hl
    have : v = 0 ∨ v = 1 ∨ v = 2 ∨ v = 3 ∨ v = 4 ∨ v = 5 := by omega
    have n17 : ¬ (11 : Int32) + nI v = 17 ∧ ¬ (11 : Int32) + nI v = 18 ∧ ¬ (11 : Int32) + nI v = 19 ∧ ¬ (11 : Int32) + nI v = 20 ∧ ¬ (11 : Int32) + nI v = 21 := by
      rcases this with z | z | z | z | z | z <;> rw [z] <;> decide
    dsimp only
    rw [if_neg n17.1, if_neg n17.2.1, if_neg n17.2.2.1, if_neg n17.2.2.2.1, if_neg n17.2.2.2.2, r1, Option.bind_some]
    refine ⟨S1, rfl, ?_⟩
    unfold stT
    by_cases d2 : v ≤ 2
    · rw [if_pos d2] at r2 ⊢; rw [r2]; exact ((q2.ps 11 (12 * N + 1)).ps 11 (12 * N + 0)).ps 8 N
    rw [if_neg d2] at r2 ⊢
    by_cases d3 : v = 3
    · rw [if_pos d3] at r2 ⊢; rw [r2]; exact (q2.ps 11 (12 * N + 1)).ps 8 N
    rw [if_neg d3] at r2 ⊢
    by_cases d4 : v = 4
    · rw [if_pos d4] at r2 ⊢; rw [r2]; exact q2.ps 11 (12 * N + 0)
    rw [if_neg d4] at r2 ⊢
    rw [if_pos (by omega), r2]; exact (q2.ps 9 N).ps 8 N
  · have : v = 6 ∨ v = 7 ∨ v = 8 ∨ v = 9 ∨ v = 10 := by omega
    have g1 := q2.ps 6 N
    have g2 := g1.ps 5 N
    have g3 := g2.ps 13 40
    have f1 := q2.ps 7 N
    have f2 := f1.ps 5 N
    dsimp only
    rcases this with z | z | z | z | z
    · rw [if_pos (by rw [z]; rfl), show fn_X4_push 6 (nI N) S = some (psh S σ.length (nI 6) (nI N)) from c_push h5 (by omega), Option.bind_some, show fn_X4_push 5 (nI N) (psh S σ.length (nI 6) (nI N)) = some (psh _ _ (nI 5) (nI N)) from c_push g1.h5 (by show σ.length + 1 < 120; omega), Option.bind_some, show fn_X4_push 13 40 (psh (psh S σ.length (nI 6) (nI N)) ((6, N) :: σ).length (nI 5) (nI N)) = some (psh _ _ (nI 13) (nI 40)) from c_push g2.h5 (by show σ.length + 1 + 1 < 120; omega), Option.bind_some]
      refine ⟨_, rfl, ?_⟩
      rw [show stT v N σ = (13, 40) :: (5, N) :: (6, N) :: σ by rw [z]; rfl]; exact g3
    · rw [if_neg (by rw [z]; decide), if_pos (by rw [z]; rfl), show fn_X4_push 6 (nI N) S = some (psh S σ.length (nI 6) (nI N)) from c_push h5 (by omega), Option.bind_some, show fn_X4_push 5 (nI N) (psh S σ.length (nI 6) (nI N)) = some (psh _ _ (nI 5) (nI N)) from c_push g1.h5 (by show σ.length + 1 < 120; omega), Option.bind_some, show fn_X4_push 13 40 (psh (psh S σ.length (nI 6) (nI N)) ((6, N) :: σ).length (nI 5) (nI N)) = some (psh _ _ (nI 13) (nI 40)) from c_push g2.h5 (by show σ.length + 1 + 1 < 120; omega), Option.bind_some]
      refine ⟨_, rfl, ?_⟩
      rw [show stT v N σ = (13, 40) :: (5, N) :: (6, N) :: σ by rw [z]; rfl]; exact g3
    · rw [if_neg (by rw [z]; decide), if_neg (by rw [z]; decide), if_pos (by rw [z]; rfl), show fn_X4_push 7 (nI N) S = some (psh S σ.length (nI 7) (nI N)) from c_push h5 (by omega), Option.bind_some, show fn_X4_push 5 (nI N) (psh S σ.length (nI 7) (nI N)) = some (psh _ _ (nI 5) (nI N)) from c_push f1.h5 (by show σ.length + 1 < 120; omega), Option.bind_some]
      refine ⟨_, rfl, ?_⟩
      rw [show stT v N σ = (5, N) :: (7, N) :: σ by rw [z]; rfl]; exact f2
    · rw [if_neg (by rw [z]; decide), if_neg (by rw [z]; decide), if_neg (by rw [z]; decide), if_pos (by rw [z]; rfl)]
      refine ⟨_, rfl, ?_⟩
      rw [show stT v N σ = σ by rw [z]; rfl]; exact q2
    · rw [if_neg (by rw [z]; decide), if_neg (by rw [z]; decide), if_neg (by rw [z]; decide), if_neg (by rw [z]; decide), if_pos (by rw [z]; rfl)]
      refine ⟨_, rfl, ?_⟩
      rw [show stT v N σ = σ by rw [z]; rfl]; exact q2
