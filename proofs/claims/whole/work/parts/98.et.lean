/-! the reference: a leaf test, ended -/
theorem fa_len : ∀ (x : List Nat) (a d : Nat) (q e : Bool) (cur : List Nat), 4 * (fa x a d q e cur).length ≤ cur.length + x.length + 1
  | [], a, d, q, e, cur => by
    have := (faF_len (a := a) (cur := cur)).1
    show 4 * (faF a cur).length ≤ _
    simp; omega
  | b :: x, a, d, q, e, cur => by
    have ih := fa_len x
    have f4 := (faF_len (a := a) (cur := cur)).1
    unfold fa
    simp only [List.length_cons]
    split
    · have := ih 0 d q e []
      rw [List.length_append]; simp at this; omega
    · split
      · have := ih a d q (!e) cur; omega
      · split
        · have := ih a d (decide (b ≠ 34)) e cur; omega
        · split
          · have := ih a (d + 1) q e cur; omega
          · split
            · have := ih a (d - 1) q e cur; omega
            · split
              · have := ih a d q e cur; omega
              · split
                · have := ih 1 d q e []; simp at this; omega
                · split
                  · have := ih 2 d q e cur; omega
                  · have := ih a d (decide (b = 34)) e (if a = 2 then cur else cur ++ [b])
                    split at this <;> rename_i z
                    · rw [if_pos z]; omega
                    · rw [if_neg z]; rw [List.length_append] at this; simp at this ⊢; omega
theorem hvs_len {κ : Nat} {l : List Nat → Bool} : ∀ fs : List (List Nat × List Nat), 4 * (hvs κ l fs).length ≤ tot fs
  | [] => by simp [hvs]
  | p :: fs => by
    have ih := hvs_len (κ := κ) (l := l) fs
    unfold hvs tot
    rw [List.length_append]
    split
    · split
      · simp; omega
      · have := fa_len p.2 0 0 false false []
        simp at this; omega
    · simp; omega
theorem flV_len (g : Nat) : (flV g).length ≤ 5 := by
  unfold flV
  simp only [List.length_append]
  have : ∀ (b : Bool) (x : List Nat), (if b = true then [x] else []).length ≤ 1 := by intro b x; cases b <;> simp
  have h0 := this (g.testBit 0) kW_137
  have h1 := this (g.testBit 1) kW_138
  have h2 := this (g.testBit 2) kW_139
  have h3 := this (g.testBit 3) kW_140
  have h4 := this (g.testBit 4) kW_141
  omega
theorem lvs_len {κ f a g : Nat} {ts : List (List Nat)} {fs : List (List Nat × List Nat)} {snd rcp : List Nat} (ho : fsO fs) : (lvs κ f a ts fs snd rcp g).length ≤ 1000 := by
  unfold lvs
  have h1 := hvs_len (κ := κ) (l := lsdB ts f a) fs
  have h2 := ho.1
  have h3 := flV_len g
  split
  · omega
  · split
    · rw [List.length_append]
      have : ∀ (b : Bool) (x : List Nat), (if b = true then [x] else []).length ≤ 1 := by intro b x; cases b <;> simp
      have h4 := this (evB ts f a kW_135) snd
      have h5 := this (evB ts f a kW_136) rcp
      omega
    · split
      · omega
      · simp
theorem r_env {n m r c p f L fN aN x : Nat} {ts : List (List Nat)} {t : uS} {snd rcp : List Nat} {b : Bool} (h : rCx t n m r c p f L ts) (h1 : t.F 1102 n = nI fN) (h2 : t.F 1103 n = nI aN) (hf : fN + aN ≤ ts.length) (hs : rTe t 93 1137 snd) (hr : rTe t 91 1136 rcp) (as_ : snd = [] ∨ (adr snd).isSome = true) (ar : rcp = [] ∨ (adr rcp).isSome = true) (ha : rAc t x b) : ∃ t1 : uS, fn_X12_envelope (nI n) t = some t1 ∧ rAc t1 (x + ((if evB ts fN aN kW_135 = true then [snd] else []) ++ (if evB ts fN aN kW_136 = true then [rcp] else [])).length) (b || vA m r c p ts f L ((if evB ts fN aN kW_135 = true then [snd] else []) ++ (if evB ts fN aN kW_136 = true then [rcp] else []))) ∧ out leI leF t t1 := by
  have hl := h.2.1
  obtain ⟨bg, -, -, l3, -⟩ := hl
  obtain ⟨t1, a1, a2⟩ := r_env0 h.1.1 hf aN 1000000 0 false false t (by omega) (by omega) h.2.1 h1 h2
  unfold fn_X12_envelope
  rw [show fn_X12_envelope_7 uFu (nI n) false false 0 t = evR (nI n) (evB ts fN aN kW_135) (evB ts fN aN kW_136) t1 from a1]
  have o1 := leO5 a2
  have c1 : rAc t1 x b := ⟨(a2.2.1 _ _ (by unfold onwI; omega)).trans ha.1, (a2.2.1 _ _ (by unfold onwI; omega)).trans ha.2⟩
  have e99 : ∀ (t2 : uS) (vs : List (List Nat)), out leI leF t t2 → rAc t2 (x + vs.length) (b || vA m r c p ts f L vs) → ∃ t3 : uS, fb_X12_envelope_99 (nI n) (evB ts fN aN kW_136) t2 = some t3 ∧ rAc t3 (x + (vs ++ (if evB ts fN aN kW_136 = true then [rcp] else [])).length) (b || vA m r c p ts f L (vs ++ (if evB ts fN aN kW_136 = true then [rcp] else []))) ∧ out leI leF t t3 := by
    intro t2 vs o2 g
    unfold fb_X12_envelope_99
    by_cases z : evB ts fN aN kW_136 = true
    · rw [if_pos z, if_pos z]
      obtain ⟨t3, w1, w2, w3⟩ := r_oneT (hr.o o2 (by unfold leI; omega) (fun _ => by unfold leF; omega))
      obtain ⟨t4, v1, v2, v3⟩ := r_addV (h.o o2) w3 w2 ar g
      rw [w1, Option.bind_some]
      refine ⟨t4, ?_, ?_, out_t o2 v3⟩
      · rw [← v1]
        congr 1; funext v4; congr 1; funext s6
        exact bind_id1 _
      · rw [vA_app, List.length_append, ← Bool.or_assoc]
        show rAc t4 (x + (vs.length + 1)) (b || vA m r c p ts f L vs || (vM m r (decide (c = 2)) (decide (c = 1)) ts f L (ptV p rcp) || false))
        rw [Bool.or_false]; exact v2
    · rw [if_neg z, if_neg z, List.append_nil]
      exact ⟨t2, rfl, g, o2⟩
  unfold evR
  by_cases z : evB ts fN aN kW_135 = true
  · rw [if_pos z, if_pos z]
    obtain ⟨t3, w1, w2, w3⟩ := r_oneF (hs.o o1 (by unfold leI; omega) (fun _ => by unfold leF; omega))
    obtain ⟨t4, v1, v2, v3⟩ := r_addV (h.o o1) w3 w2 as_ c1
    rw [w1, Option.bind_some]
    obtain ⟨t5, u1, u2, u3⟩ := e99 t4 [snd] (out_t o1 v3) (by
      show rAc t4 (x + 1) (b || (vM m r (decide (c = 2)) (decide (c = 1)) ts f L (ptV p snd) || false))
      rw [Bool.or_false]; exact v2)
    refine ⟨t5, ?_, u2, u3⟩
    rw [r_atOf (w := snd) (t := t3) w2, Option.bind_some] at v1 ⊢
    obtain ⟨t6, y1, y2⟩ := uu_ob v1
    rw [y1, Option.bind_some, y2, Option.bind_some]
    exact u1
  · rw [if_neg z, if_neg z]
    exact e99 t1 [] o1 (by show rAc t1 x (b || false); rw [Bool.or_false]; exact c1)
theorem bit5 : ∀ g i : Nat, g < 32 → i < 5 → ((nI g &&& nI (2 ^ i)) = 0 ↔ ¬ g.testBit i = true) := by
  have : ∀ g : Fin 32, ∀ i : Fin 5, ((nI g.1 &&& nI (2 ^ i.1)) = 0 ↔ ¬ g.1.testBit i.1 = true) := by decide +kernel
  exact fun g i hg hi => this ⟨g, hg⟩ ⟨i, hi⟩
def flw (i : Nat) : List Nat := if i = 0 then kW_137 else if i = 1 then kW_138 else if i = 2 then kW_139 else if i = 3 then kW_140 else kW_141
theorem flw_0 : flw 0 = kW_137 := rfl
theorem flw_1 : flw 1 = kW_138 := rfl
theorem flw_2 : flw 2 = kW_139 := rfl
theorem flw_3 : flw 3 = kW_140 := rfl
theorem flw_4 : flw 4 = kW_141 := rfl
theorem r_fl68 {n m r c p f L x i : Nat} {ts : List (List Nat)} {t : uS} {b : Bool} {K2 : Int32 → Int32 → uS → Option uS} (h : rCx t n m r c p f L ts) (hp : p = 0) (ha : rAc t x b) (hi : i < 5) : ∃ t1 : uS, fb_X12_flagsSet_68 K2 (nI n) (nI (2 ^ i)) (flw i) t = K2 (nI n) (nI (2 ^ (i + 1))) t1 ∧ rAc t1 (x + 1) (b || vA m r c p ts f L [flw i]) ∧ out leI leF t t1 := by
  have hW : (∀ c ∈ flw i, c < 128) ∧ (flw i).length ≤ 20 := by
    have : ∀ i : Fin 5, (∀ c ∈ flw i.1, c < 128) ∧ (flw i.1).length ≤ 20 := by decide
    exact this ⟨i, hi⟩
  have h2 : nI (2 ^ i) * 2 = nI (2 ^ (i + 1)) := by
    have : ∀ i : Fin 5, nI (2 ^ i.1) * 2 = nI (2 ^ (i.1 + 1)) := by decide +kernel
    exact this ⟨i, hi⟩
  obtain ⟨hW1, hW2⟩ := hW
  generalize flw i = W at *
  have hby : bys W := by
    intro j
    by_cases c : j < W.length
    · have := hW1 _ (getD_mem c); omega
    · rw [getDn_out (by omega)]; decide
  have o1 : out onI onF t (cpy (wI t 1079 21 (nI W.length)) 1093 0 0 W.length (fun j => nI (W.getD j 0))) := out_t (out_I out_r ⟨rfl, rfl⟩) (out_cpy (fun _ => rfl))
  obtain ⟨t1, q1, q2, q3⟩ := r_val1 (h.o (leO2 o1)) (r1_cpy (by omega) hby) (x := x) (b := b) ⟨(o1.2.1 _ _ (by unfold onI; omega)).trans ha.1, (o1.2.1 _ _ (by unfold onI; omega)).trans ha.2⟩
  refine ⟨t1, ?_, ?_, out_t (leO2 o1) (leO1 q3)⟩
  · unfold fb_X12_flagsSet_68
    have e : fn_X12_flagsSet_80 K2 uFu (nI n) (nI (2 ^ i)) W 0 (wI t 1079 21 (nI W.length)) = (fun s => (fn_X12_value (nI n) s).bind fun s2 => K2 (nI n) (nI (2 ^ i) * 2) s2) (cpy (wI t 1079 21 (nI W.length)) 1093 0 0 W.length (fun j => nI (W.getD j 0))) := by
      refine cpy0 (F := fun N x s => fn_X12_flagsSet_80 K2 N (nI n) (nI (2 ^ i)) W x s) (fin := fun s => (fn_X12_value (nI n) s).bind fun s2 => K2 (nI n) (nI (2 ^ i) * 2) s2) ?_ ?_ (by show _ < 1000000; omega)
      · intro N q hq
        show fb_X12_flagsSet_80 K2 (fn_X12_flagsSet_80 K2 N) _ _ W (nI q) _ = _
        unfold fb_X12_flagsSet_80
        rw [cpy_I, wI_e, if_neg (nI_ge (by omega) (by omega)), stget_n hq (by omega), Option.bind_some, p_1093 (by omega), Option.bind_some, nI_1 q, Nat.zero_add]
      · intro N
        show fb_X12_flagsSet_80 K2 (fn_X12_flagsSet_80 K2 N) _ _ W (nI W.length) _ = _
        unfold fb_X12_flagsSet_80
        rw [cpy_I, wI_e, if_pos (nI_le (Nat.le_refl _) (by omega))]
    rw [e, h2]
    dsimp only
    rw [q1, Option.bind_some]
  · show rAc t1 (x + 1) (b || (vM m r (decide (c = 2)) (decide (c = 1)) ts f L (ptV p W) || false))
    rw [Bool.or_false, hp]; exact q2
theorem r_flg {n m r c p f L g : Nat} {ts : List (List Nat)} (hp : p = 0) (hg : g < 32) {K2 : Int32 → Int32 → uS → Option uS} {i : Nat} (hi : i < 5) (t : uS) (x : Nat) (b : Bool) (h : rCx t n m r c p f L ts) (hI : t.I 1079 94 = nI g) (ha : rAc t x b) : ∃ t1 : uS, fb_X12_flagsSet_2 K2 (nI n) (nI (2 ^ i)) t = K2 (nI n) (nI (2 ^ (i + 1))) t1 ∧ rAc t1 (x + (if g.testBit i = true then [flw i] else []).length) (b || vA m r c p ts f L (if g.testBit i = true then [flw i] else [])) ∧ out leI leF t t1 := by
  have h2 : nI (2 ^ i) * 2 = nI (2 ^ (i + 1)) ∧ ¬ (32 : Int32) ≤ nI (2 ^ i) := by
    have : ∀ i : Fin 5, nI (2 ^ i.1) * 2 = nI (2 ^ (i.1 + 1)) ∧ ¬ (32 : Int32) ≤ nI (2 ^ i.1) := by decide +kernel
    exact this ⟨i, hi⟩
  unfold fb_X12_flagsSet_2
  rw [if_neg h2.2, hI]
  by_cases c : g.testBit i = true
  · rw [if_neg (fun z => (bit5 g i hg hi).mp z c), if_pos c]
    obtain ⟨t1, a1, a2, a3⟩ := r_fl68 (K2 := K2) h hp ha hi
    refine ⟨t1, ?_, a2, a3⟩
    rw [← a1]
    have : i = 0 ∨ i = 1 ∨ i = 2 ∨ i = 3 ∨ i = 4 := by omega
    rcases this with e | e | e | e | e <;> subst e
    · rw [if_pos (show nI (2 ^ 0) = 1 from rfl), flw_0]
    · rw [if_neg (show ¬ nI (2 ^ 1) = 1 by decide), if_pos (show nI (2 ^ 1) = 2 from rfl), flw_1]
    · rw [if_neg (show ¬ nI (2 ^ 2) = 1 by decide), if_neg (show ¬ nI (2 ^ 2) = 2 by decide), if_pos (show nI (2 ^ 2) = 4 from rfl), flw_2]
    · rw [if_neg (show ¬ nI (2 ^ 3) = 1 by decide), if_neg (show ¬ nI (2 ^ 3) = 2 by decide), if_neg (show ¬ nI (2 ^ 3) = 4 by decide), if_pos (show nI (2 ^ 3) = 8 from rfl), flw_3]
    · rw [if_neg (show ¬ nI (2 ^ 4) = 1 by decide), if_neg (show ¬ nI (2 ^ 4) = 2 by decide), if_neg (show ¬ nI (2 ^ 4) = 4 by decide), if_neg (show ¬ nI (2 ^ 4) = 8 by decide), flw_4]
  · rw [if_pos ((bit5 g i hg hi).mpr c), if_neg c, h2.1]
    refine ⟨t, rfl, ?_, out_r⟩
    show rAc t x (b || false)
    rw [Bool.or_false]; exact ha
theorem flV_w (g : Nat) : flV g = (if g.testBit 0 = true then [flw 0] else []) ++ (if g.testBit 1 = true then [flw 1] else []) ++ (if g.testBit 2 = true then [flw 2] else []) ++ (if g.testBit 3 = true then [flw 3] else []) ++ (if g.testBit 4 = true then [flw 4] else []) := by
  rw [flw_0, flw_1, flw_2, flw_3, flw_4]; rfl
theorem r_flagsM (M : Nat) {n m r c p f L g x : Nat} {ts : List (List Nat)} {t : uS} {b : Bool} (hp : p = 0) (hg : g < 32) (h : rCx t n m r c p f L ts) (hI : t.I 1079 94 = nI g) (ha : rAc t x b) : ∃ t1 : uS, fn_X12_flagsSet_2 (M + 6) (nI n) (nI (2 ^ 0)) t = some t1 ∧ rAc t1 (x + (flV g).length) (b || vA m r c p ts f L (flV g)) ∧ out leI leF t t1 := by
  have s0 := r_flg (K2 := fn_X12_flagsSet_2 (M + 5)) hp hg (i := 0) (by omega) t x b h hI ha
  obtain ⟨t1, a1, b1, c1⟩ := s0
  obtain ⟨t2, a2, b2, c2⟩ := r_flg (K2 := fn_X12_flagsSet_2 (M + 4)) hp hg (i := 1) (by omega) t1 _ _ (h.o c1) ((c1.2.1 _ _ (by unfold leI; omega)).trans hI) b1
  have o2 := out_t c1 c2
  obtain ⟨t3, a3, b3, c3⟩ := r_flg (K2 := fn_X12_flagsSet_2 (M + 3)) hp hg (i := 2) (by omega) t2 _ _ (h.o o2) ((o2.2.1 _ _ (by unfold leI; omega)).trans hI) b2
  have o3 := out_t o2 c3
  obtain ⟨t4, a4, b4, c4⟩ := r_flg (K2 := fn_X12_flagsSet_2 (M + 2)) hp hg (i := 3) (by omega) t3 _ _ (h.o o3) ((o3.2.1 _ _ (by unfold leI; omega)).trans hI) b3
  have o4 := out_t o3 c4
  obtain ⟨t5, a5, b5, c5⟩ := r_flg (K2 := fn_X12_flagsSet_2 (M + 1)) hp hg (i := 4) (by omega) t4 _ _ (h.o o4) ((o4.2.1 _ _ (by unfold leI; omega)).trans hI) b4
  refine ⟨t5, ?_, ?_, out_t o4 c5⟩
  · show fb_X12_flagsSet_2 (fn_X12_flagsSet_2 (M + 5)) (nI n) (nI (2 ^ 0)) t = _
    rw [a1]
    show fb_X12_flagsSet_2 (fn_X12_flagsSet_2 (M + 4)) (nI n) (nI (2 ^ 1)) t1 = _
    rw [a2]
    show fb_X12_flagsSet_2 (fn_X12_flagsSet_2 (M + 3)) (nI n) (nI (2 ^ 2)) t2 = _
    rw [a3]
    show fb_X12_flagsSet_2 (fn_X12_flagsSet_2 (M + 2)) (nI n) (nI (2 ^ 3)) t3 = _
    rw [a4]
    show fb_X12_flagsSet_2 (fn_X12_flagsSet_2 (M + 1)) (nI n) (nI (2 ^ 4)) t4 = _
    rw [a5]
    show fb_X12_flagsSet_2 (fn_X12_flagsSet_2 M) (nI n) (nI (2 ^ 5)) t5 = _
    unfold fb_X12_flagsSet_2
    rw [if_pos (by decide)]
  · have e : flV g = (if g.testBit 0 = true then [flw 0] else []) ++ (if g.testBit 1 = true then [flw 1] else []) ++ (if g.testBit 2 = true then [flw 2] else []) ++ (if g.testBit 3 = true then [flw 3] else []) ++ (if g.testBit 4 = true then [flw 4] else []) := flV_w g
    rw [e, vA_app, vA_app, vA_app, vA_app, List.length_append, List.length_append, List.length_append, List.length_append, ← Nat.add_assoc, ← Nat.add_assoc, ← Nat.add_assoc, ← Nat.add_assoc, ← Bool.or_assoc, ← Bool.or_assoc, ← Bool.or_assoc, ← Bool.or_assoc]
    exact b5
theorem r_flags {n m r c p f L g x : Nat} {ts : List (List Nat)} {t : uS} {b : Bool} (hp : p = 0) (hg : g < 32) (h : rCx t n m r c p f L ts) (hI : t.I 1079 94 = nI g) (ha : rAc t x b) : ∃ t1 : uS, fn_X12_flagsSet (nI n) t = some t1 ∧ rAc t1 (x + (flV g).length) (b || vA m r c p ts f L (flV g)) ∧ out leI leF t t1 := r_flagsM 999994 hp hg h hI ha
