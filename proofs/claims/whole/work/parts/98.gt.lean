/-! one recipient: what a plan needs of the strings -/
theorem s_data {s t : uS} {ts : List (List Nat)} {p : pl} {ir iv : Nat} (hR : rFR t ts p) (hS : sFR s t ts p ir iv) : ∃ (h : Nat) (hd : List Nat), stPl s ts p iv h hd ∧ sOk ts (pF p) ∧ (∀ j ∈ pDr p, (ts.getD j []).length ≤ 101) ∧ (0 < pvc p → rHd t (pnv p) h ∧ h < ts.length ∧ ts.getD h [] = hd ∧ hd.length ≤ 1000 ∧ bys hd) := by
  obtain ⟨r1, r2, r3, r4, r5, r6, r7⟩ := hR
  rcases hS with ⟨z1, z2, z3, z4⟩ | ⟨ts1, bg, z1, z2, z3, q1, q2, q3, q4⟩
  · refine ⟨0, [], Or.inl ⟨z1, z2, z4⟩, fun q hq j e => ?_, fun j hj => ?_, fun z => by omega⟩
    · rw [z1 q hq] at e; cases e
    · rw [z2] at hj; cases hj
  · have hso : sOk ts (pF p) := fun q hq j e => ⟨(q1 q hq j e).2.1, (q1 q hq j e).2.2.1⟩
    have hlb : ∀ j ∈ pDr p, (ts.getD j []).length ≤ 101 := fun j hj => adr_le (q2 j hj).2.2.1
    by_cases c : 0 < pvc p
    · obtain ⟨u, w, w1, w2, w3, w4, w5, w6⟩ := q4 c
      obtain ⟨dg, sj, f, m, hd, rs, v1, v2, v3, v4, v5, v6, v7, v8, v9, v10, v11, v12, v13, v14, v15, v16⟩ := va_dat w3
      have hl : hd < ts.length := by omega
      obtain ⟨bg2, s1, s2, s3, s4⟩ := r1
      obtain ⟨a, c1, c2, c3, c4, c5⟩ := s1 hd hl
      refine ⟨hd, ts.getD hd [], Or.inr ⟨ts1, bg, z1, fun q hq j e => ?_, fun j hj => ?_, fun _ => ?_⟩, hso, hlb, fun _ => ⟨⟨r7 c, w5, ?_⟩, hl, rfl, c4, s4 hd⟩⟩
      · obtain ⟨x1, x2, x3, x4⟩ := q1 q hq j e
        exact ⟨by omega, x3, x4⟩
      · obtain ⟨x1, x2, x3, x4⟩ := q2 j hj
        exact ⟨by omega, adr_le x3, x4⟩
      · refine ⟨by omega, w6 hd v12.1 v12.2, c4, rs, ?_, v13⟩
        rcases v11 with ⟨y1, y2, y3⟩ | ⟨y1, y2, y3⟩
        · exact Or.inl ⟨y1, y2⟩
        · exact Or.inr ⟨y1, y2⟩
      · rcases v11 with ⟨y1, y2, y3⟩ | ⟨y1, y2, y3⟩
        · exact Or.inl y3
        · exact Or.inr ⟨y3, by rw [v14, y2]⟩
    · refine ⟨0, [], Or.inr ⟨ts1, bg, z1, fun q hq j e => ?_, fun j hj => ?_, fun z => absurd z c⟩, hso, hlb, fun z => absurd z c⟩
      · obtain ⟨x1, x2, x3, x4⟩ := q1 q hq j e
        exact ⟨by omega, x3, x4⟩
      · obtain ⟨x1, x2, x3, x4⟩ := q2 j hj
        exact ⟨by omega, adr_le x3, x4⟩
theorem ntO.z {ns : List nT} {dy : Nat} (h : ntO ns dy) : ntZ ns := fun i hi => (h.2.2.2 i hi).2
/-- the notes stay in order -/
theorem ntO_A {ns : List nT} {dy : Nat} {snd hd : List Nat} (h : ntO ns dy) (h1 : snd.length ≤ 101) (h2 : bys snd) (h3 : hd.length ≤ 1000) (h4 : bys hd) : ntO (ntA ns (dy, snd, hd)) dy := by
  have app : ∀ ms : List nT, ms.length < 40 → ntO ms dy → ntO (ms ++ [(dy, snd, hd)]) dy := by
    intro ms hl ⟨a1, a2, a3, a4⟩
    have el : (ms ++ [((dy, snd, hd) : nT)]).length = ms.length + 1 := by rw [List.length_append]; rfl
    refine ⟨by omega, a2, fun i j hij hj => ?_, fun i hi => ?_⟩
    · rw [el] at hj
      by_cases c : j < ms.length
      · rw [getT_app c, getT_app (by omega)]; exact a3 i j hij c
      · rw [show j = ms.length by omega, getT_end]
        by_cases d : i < ms.length
        · rw [getT_app d]; exact (a4 i d).1
        · rw [show i = ms.length by omega, getT_end]
          exact Nat.le_refl _
    · rw [el] at hi
      by_cases c : i < ms.length
      · rw [getT_app c]; exact a4 i c
      · rw [show i = ms.length by omega, getT_end]
        exact ⟨Nat.le_refl _, h1, h2, h3, h4⟩
  unfold ntA
  by_cases c : ns.length = 40
  · rw [if_pos c]
    have dl : (ns.drop 1).length = 39 := by rw [List.length_drop]; omega
    refine app _ (by omega) ⟨by omega, h.2.1, fun i j hij hj => ?_, fun i hi => ?_⟩
    · rw [getT_d1, getT_d1]; exact h.2.2.1 _ _ (by omega) (by omega)
    · rw [getT_d1]; exact h.2.2.2 _ (by omega)
  · rw [if_neg c]
    exact app ns (by have := h.1; omega) h
theorem rBx.gn {t t1 : uS} {u v : Nat} {bx : List (List Nat)} (h : rBx t v bx) (o : ol gnI (gnF u) gnL t t1) (hne : v ≠ u) (ho : bxO bx) : rBx t1 v bx := by
  have h6 := ho.2.1
  refine ⟨(o.2.2.1 _ _ (by unfold gnF mbF gbF; omega)).trans h.1, fun b hb => ⟨(o.2.2.1 _ _ (by unfold gnF mbF gbF; omega)).trans (h.2 b hb).1, fun j hj => ?_⟩⟩
  have := (ho.2.2.2 b).2
  exact (o.2.2.1 _ _ (by unfold gnF mbF gbF; omega)).trans ((h.2 b hb).2 j hj)
theorem abx_len {bx ts : List (List Nat)} {F : List (Option Nat × Nat)} : (abxF bx ts F).length = bx.length + (nbsF bx ts F).length := by
  unfold abxF nmL
  rw [List.length_append, List.length_map]
theorem bxO_abx {bx ts : List (List Nat)} {F : List (Option Nat × Nat)} (h : bxO bx) (h6 : (abxF bx ts F).length ≤ 6) (hs : ∀ j ∈ nbsF bx ts F, bys (ts.getD j []) ∧ (ts.getD j []).length ≤ 20) : bxO (abxF bx ts F) := by
  have gen : ∀ (l : List Nat) (b0 : List (List Nat)), bxO b0 → (b0 ++ nmL ts l).length ≤ 6 → (∀ j ∈ l, bys (ts.getD j []) ∧ (ts.getD j []).length ≤ 20) → bxO (b0 ++ nmL ts l) := by
    intro l
    induction l with
    | nil =>
      intro b0 a _ _
      show bxO (b0 ++ [])
      rw [List.append_nil]
      exact a
    | cons j l ih =>
      intro b0 a b c
      have e : b0 ++ nmL ts (j :: l) = (b0 ++ [ts.getD j []]) ++ nmL ts l := by
        show b0 ++ (ts.getD j [] :: nmL ts l) = _
        simp
      have b' := b
      rw [List.length_append] at b'
      have : (nmL ts (j :: l)).length = (nmL ts l).length + 1 := rfl
      rw [e] at b ⊢
      obtain ⟨d1, d2⟩ := c j (List.mem_cons_self ..)
      exact ih _ (bxO_app a (by omega) d1 d2) b (fun i hi => c i (List.mem_cons_of_mem _ hi))
  exact gen _ bx h h6 hs
