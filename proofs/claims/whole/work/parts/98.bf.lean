/-! LISTSCRIPTS -/
theorem m1_ne {n : Nat} (h : n < 2 ^ 31) : ¬ (-1 : Int32) = nI n := fun e => by
  have : (-1 : Int32).toInt = (nI n).toInt := by rw [e]
  rw [nI_toInt h] at this
  have h1 : (-1 : Int32).toInt = -1 := rfl
  omega
theorem c_tellL {u : Nat} {w : List Nat} (hu : u < 5) (hw : w.length < 2 ^ 30) : ∀ (n i : Nat) (s : uS) (xs : List Int32), w.length < i + n → i ≤ w.length → cQ s u xs → ∃ s1 : uS, fn_X5_text_2 n (qk u) w (nI i) s = some s1 ∧ cQ s1 u (q_tell xs (w.drop i)) ∧ out (qC u) (qC u) s s1 := by
  intro n
  induction n with
  | zero => intro i s xs a b; omega
  | succ n ih =>
    intro i s xs a b h
    unfold fn_X5_text_2 fb_X5_text_2
    by_cases c : w.length ≤ i
    · rw [if_pos (nI_le c (by omega)), List.drop_eq_nil_of_le c]
      exact ⟨s, rfl, h, out_r⟩
    · obtain ⟨s1, a1, a2, a3⟩ := c_putO hu h (nI (w.getD i 0))
      obtain ⟨s2, b1, b2, b3⟩ := ih (i + 1) s1 _ (by omega) (by omega) a2
      refine ⟨s2, ?_, by rw [dropN (by omega), q_tell_c]; exact b2, out_t a3 b3⟩
      rw [if_neg (nI_ge (by omega) (by omega)), stget_c (by omega) (by omega), Option.bind_some, a1, Option.bind_some, nI_1]; exact b1
theorem c_lineO {u : Nat} {w : List Nat} {s : uS} {xs : List Int32} (hu : u < 5) (hw : w.length < 900000) (h : cQ s u xs) : ∃ s1 : uS, fn_X5_line (qk u) w s = some s1 ∧ cQ s1 u (q_line xs w) ∧ out (qC u) (qC u) s s1 := by
  obtain ⟨s1, a1, a2, a3⟩ := c_tellL hu (show w.length < 2 ^ 30 by omega) uFu 0 s xs (by show _ < 0 + 1000000; omega) (Nat.zero_le _) h
  rw [List.drop_zero] at a2
  obtain ⟨s2, b1, b2, b3⟩ := c_putO hu a2 13
  obtain ⟨s3, c1, c2, c3⟩ := c_putO hu b2 10
  refine ⟨s3, ?_, c2, out_t (out_t a3 b3) c3⟩
  have a1' : fn_X5_text_2 uFu (qk u) w 0 s = some s1 := a1
  unfold fn_X5_line fn_X5_text
  rw [a1', Option.bind_some, b1, Option.bind_some, c1, Option.bind_some]
theorem r_tellL {u : Nat} {w : List Nat} (hu : u < 5) (hw : w.length < 2 ^ 30) : ∀ (n i : Nat) (t : uS) (xs : List Int32), w.length < i + n → i ≤ w.length → rQ t u xs → ∃ t1 : uS, fn_X12_tell_2 n (nI u) w (nI i) t = some t1 ∧ rQ t1 u (q_tell xs (w.drop i)) ∧ out rNo (qR u) t t1 := by
  intro n
  induction n with
  | zero => intro i s xs a b; omega
  | succ n ih =>
    intro i s xs a b h
    unfold fn_X12_tell_2 fb_X12_tell_2
    by_cases c : w.length ≤ i
    · rw [if_pos (nI_le c (by omega)), List.drop_eq_nil_of_le c]
      exact ⟨s, rfl, h, out_r⟩
    · obtain ⟨s1, a1, a2, a3⟩ := r_sayO hu h (nI (w.getD i 0))
      obtain ⟨s2, b1, b2, b3⟩ := ih (i + 1) s1 _ (by omega) (by omega) a2
      refine ⟨s2, ?_, by rw [dropN (by omega), q_tell_c]; exact b2, out_t a3 b3⟩
      rw [if_neg (nI_ge (by omega) (by omega)), stget_c (by omega) (by omega), Option.bind_some, a1, Option.bind_some, nI_1]; exact b1
theorem r_lineO {u : Nat} {w : List Nat} {t : uS} {xs : List Int32} (hu : u < 5) (hw : w.length < 900000) (h : rQ t u xs) : ∃ t1 : uS, fn_X12_line (nI u) w t = some t1 ∧ rQ t1 u (q_line xs w) ∧ out rNo (qR u) t t1 := by
  obtain ⟨s1, a1, a2, a3⟩ := r_tellL hu (show w.length < 2 ^ 30 by omega) uFu 0 t xs (by show _ < 0 + 1000000; omega) (Nat.zero_le _) h
  rw [List.drop_zero] at a2
  obtain ⟨s2, b1, b2, b3⟩ := r_sayO hu a2 13
  obtain ⟨s3, c1, c2, c3⟩ := r_sayO hu b2 10
  refine ⟨s3, ?_, c2, out_t (out_t a3 b3) c3⟩
  have a1' : fn_X12_tell_2 uFu (nI u) w 0 t = some s1 := a1
  unfold fn_X12_line fn_X12_tell
  rw [a1', Option.bind_some, b1, Option.bind_some, c1, Option.bind_some]
def qb : List Nat → List Nat
  | [] => []
  | b :: x => if b = 34 ∨ b = 92 then 92 :: b :: qb x else b :: qb x
theorem q_tell_app (xs : List Int32) : ∀ a b : List Nat, q_tell xs (a ++ b) = q_tell (q_tell xs a) b := by
  intro a b
  unfold q_tell
  rw [List.foldl_append]
theorem c_quotedL {u k : Nat} {x : List Nat} (hu : u < 5) : ∀ (n i : Nat) (s : uS) (xs : List Int32), x.length < i + n → i ≤ x.length → cQ s u xs → cBn s k x → ∃ s1 : uS, fn_X5_quoted_8 n (qk u) k (nI i) s = some s1 ∧ cQ s1 u (q_add (q_tell xs (qb (x.drop i))) 34) ∧ out (qC u) (qC u) s s1 := by
  intro n
  induction n with
  | zero => intro i s xs a b; omega
  | succ n ih =>
    intro i s xs a b h hr
    have hl := hr.2.2.2.1
    have keep : ∀ s' : uS, out (qC u) (qC u) s s' → cBn s' k x := fun s' o => hr.fr (Nat.le_of_eq o.1.2.2.2.2.1.symm) (by rw [o.1.1]) (funext fun f => o.2.2 _ _ (by have := hr.2.1; have := (qk_lt hu).2; unfold qC; omega))
    unfold fn_X5_quoted_8 fb_X5_quoted_8 fb_X5_quoted_30 fb_X5_quoted_36
    rw [hr.len, Option.bind_some]
    by_cases c : x.length ≤ i
    · rw [if_pos (nI_le c (by omega)), List.drop_eq_nil_of_le c]
      obtain ⟨s1, a1, a2, a3⟩ := c_putO hu h 34
      exact ⟨s1, by rw [a1, Option.bind_some], a2, a3⟩
    · rw [if_neg (nI_ge (by omega) (by omega)), hr.get (by omega), Option.bind_some, Option.bind_some, dropN (by omega)]
      unfold qb
      have h8 := hr.2.2.2.2.1 i
      have e1 : sb (x.getD i 0) = (34 : Int32) ↔ x.getD i 0 = 34 := sb_e h8 (show 34 < 128 by decide)
      have e2 : sb (x.getD i 0) = (92 : Int32) ↔ x.getD i 0 = 92 := sb_e h8 (show 92 < 128 by decide)
      by_cases d : x.getD i 0 = 34 ∨ x.getD i 0 = 92
      · rw [if_pos d]
        obtain ⟨s1, a1, a2, a3⟩ := c_putO hu h 92
        obtain ⟨s2, b1, b2, b3⟩ := c_putO hu a2 (sb (x.getD i 0))
        rw [q_add_sb h8] at b2
        obtain ⟨s3, g1, g2, g3⟩ := ih (i + 1) s2 _ (by omega) (by omega) b2 (keep s2 (out_t a3 b3))
        refine ⟨s3, ?_, g2, out_t (out_t a3 b3) g3⟩
        have hp : ((fn_X5_put (qk u) 92 s).bind fun s1 => (iget 21 s1 k (nI i)).bind fun v1 => (fn_X5_put (qk u) v1 s1).bind fun s3 => fn_X5_quoted_8 n (qk u) k (nI i + 1) s3) = some s3 := by
          rw [a1, Option.bind_some, (keep s1 a3).get (by omega), Option.bind_some, b1, Option.bind_some, nI_1]
          exact g1
        by_cases d1 : sb (x.getD i 0) = 34
        · rw [if_pos d1]; exact hp
        · rw [if_neg d1, if_pos (e2.mpr (d.elim (fun z => absurd (e1.mpr z) d1) id))]; exact hp
      · rw [if_neg d, if_neg (fun z => d (Or.inl (e1.mp z))), if_neg (fun z => d (Or.inr (e2.mp z))), Option.bind_some]
        obtain ⟨s2, b1, b2, b3⟩ := c_putO hu h (sb (x.getD i 0))
        rw [q_add_sb h8] at b2
        obtain ⟨s3, g1, g2, g3⟩ := ih (i + 1) s2 _ (by omega) (by omega) b2 (keep s2 b3)
        refine ⟨s3, ?_, g2, out_t b3 g3⟩
        rw [b1, Option.bind_some, nI_1]
        exact g1
theorem r_quotedL {u i sl : Nat} {x : List Nat} (hu : u < 4) (hs : sl < 16) (hx : x.length ≤ 20) (h8 : bys x) (K2 : Int32 → Int32 → uS → Option (uS × Bool)) : ∀ (n j : Nat) (t : uS) (xs : List Int32), x.length < j + n → j ≤ x.length → rQ t u xs → t.F 1153 sl = nI x.length → (∀ j : Nat, j < x.length → t.F 1152 (20 * sl + j) = nI (x.getD j 0)) → ∃ t1 : uS, fn_X12_listScripts_33 K2 n (nI u) (nI i) (nI sl) (nI j) t = fb_X12_listScripts_113 K2 (nI u) (nI i) (if t.F 1150 u = nI sl then kW_210 else kW_203) (nI u) t1 ∧ rQ t1 u (q_tell xs (qb (x.drop j))) ∧ out rNo (qR u) t t1 := by
  have hu5 : u < 5 := by omega
  intro n
  induction n with
  | zero => intro j s xs a b; omega
  | succ n ih =>
    intro j t xs a b h f1 f2
    unfold fn_X12_listScripts_33 fb_X12_listScripts_33 fb_X12_listScripts_72 fb_X12_listScripts_79
    rw [g_1153 (by omega), Option.bind_some, f1]
    by_cases c : x.length ≤ j
    · rw [if_pos (nI_le c (by omega)), List.drop_eq_nil_of_le c, g_1150 hu, Option.bind_some]
      refine ⟨t, ?_, h, out_r⟩
      by_cases d : t.F 1150 u = nI sl
      · rw [if_pos d, if_pos d]
      · rw [if_neg d, if_neg d]
    · rw [if_neg (nI_ge (by omega) (by omega)), dropN (by omega)]
      unfold qb
      have h8' := h8 j
      simp (disch := omega) only [lit, nI_mul, nI_add, g_1152, Option.bind_some, f2 j (by omega), nI_eq]
      by_cases d : x.getD j 0 = 34 ∨ x.getD j 0 = 92
      · rw [if_pos d]
        obtain ⟨s1, a1, a2, a3⟩ := r_sayO hu5 h (nI 92)
        obtain ⟨s2, b1, b2, b3⟩ := r_sayO hu5 a2 (nI (x.getD j 0))
        obtain ⟨s3, g1, g2, g3⟩ := ih (j + 1) s2 _ (by omega) (by omega) b2 (by rw [b3.2.2 _ _ (by unfold qR; omega), a3.2.2 _ _ (by unfold qR; omega)]; exact f1) (fun j hj => by rw [b3.2.2 _ _ (by unfold qR; omega), a3.2.2 _ _ (by unfold qR; omega)]; exact f2 j hj)
        rw [b3.2.2 _ _ (by unfold qR; omega), a3.2.2 _ _ (by unfold qR; omega)] at g1
        refine ⟨s3, ?_, g2, out_t (out_t a3 b3) g3⟩
        rw [a1, Option.bind_some, b1, Option.bind_some]
        by_cases d1 : x.getD j 0 = 34
        · rw [if_pos d1]; exact g1
        · rw [if_neg d1, if_pos (d.elim (fun z => absurd z d1) id)]; exact g1
      · rw [if_neg d, if_neg (fun z => d (Or.inl z)), if_neg (fun z => d (Or.inr z))]
        obtain ⟨s2, b1, b2, b3⟩ := r_sayO hu5 h (nI (x.getD j 0))
        obtain ⟨s3, g1, g2, g3⟩ := ih (j + 1) s2 _ (by omega) (by omega) b2 (by rw [b3.2.2 _ _ (by unfold qR; omega)]; exact f1) (fun j hj => by rw [b3.2.2 _ _ (by unfold qR; omega)]; exact f2 j hj)
        rw [b3.2.2 _ _ (by unfold qR; omega)] at g1
        refine ⟨s3, ?_, g2, out_t b3 g3⟩
        rw [b1, Option.bind_some]
        exact g1
theorem m_list {u : Nat} (hu : u < 4) {s t : uS} {ps : List (Nat × List Nat)} {bg v : Nat} (h : cCx u s t ps bg v) : ∃ s1 t1 : uS, fn_X11_listScripts (nI u) s = some s1 ∧ fn_X12_listScripts (nI u) t = some (t1, true) ∧ cmdR u s t s1 t1 true := by
  obtain ⟨scs, ac, ⟨es, h4⟩, sl, h5⟩ := h.2.1.2.2.1
  have hu5 : u < 5 := by omega
  have hl := h4.2.1
  have key : ∀ (n i : Nat) (s' t' : uS), scs.length < i + n → i ≤ scs.length → pQo u s t s' t' → ∃ s1 t1 : uS, fn_X11_listScripts_9 n (nI u) (985 + 16 * u) (nI i) s' = some s1 ∧ fn_X12_listScripts_2 n (nI u) (nI i) t' = some (t1, true) ∧ cmdR u s t s1 t1 true := by
    intro n
    induction n with
    | zero => intro i s' t' a b; omega
    | succ n ih =>
      intro i s' t' a b hq
      obtain ⟨g1, g2, g3⟩ := h.2.1.q hu h.1.1 hq
      have oc' := hq.2.1
      have or' := hq.2.2
      have h4' : cSc s' u es scs ac := h4.fr (Nat.le_of_eq oc'.1.2.2.2.2.1.symm) (fun k _ => by rw [oc'.1.1]) (oc'.2.1 _ _ (by have := qk_u hu; unfold qC; omega)) (by rw [oc'.1.2.2.2.1]) (by rw [oc'.1.2.1]) (fun i hi => by rw [oc'.1.2.1]) (fun k hk _ => funext fun f => oc'.2.2 _ _ (by have := (qk_lt hu5).2; unfold qC; omega))
      have h5' : rSc t' u sl scs ac := h5.fr (or'.2.2 _ _ (by unfold qR; omega)) (or'.2.2 _ _ (by unfold qR; omega)) (fun f _ _ => ⟨or'.2.2 _ _ (by unfold qR; omega), or'.2.2 _ _ (by unfold qR; omega), or'.2.2 _ _ (by unfold qR; omega)⟩) (fun f _ _ => or'.2.2 _ _ (by unfold qR; omega)) (fun f _ _ => by rw [or'.1.2.2.1])
      unfold fn_X11_listScripts_9 fb_X11_listScripts_9 fn_X12_listScripts_2 fb_X12_listScripts_2 fb_X11_listScripts_63
      rw [h4'.2.2.1, g_1149 hu, Option.bind_some, h5'.2.2.1]
      by_cases c : scs.length ≤ i
      · rw [if_pos (nI_le c (by omega)), if_pos (nI_le c (by omega)), pgt_que hu5, Option.bind_some, if_pos (so_que hu5)]
        obtain ⟨s2, t2, l1, l2, l3⟩ := cmd_line hu (w := kW_3) (by decide) g1 h.1.1 (by omega) (by omega)
        exact ⟨s2, t2, by rw [l1, Option.bind_some], by rw [show kW_204 = kW_3 from rfl, l2, Option.bind_some], l3⟩
      · have hi : i < scs.length := by omega
        have hse := (h4'.2.2.2.1 i hi).2
        obtain ⟨nb, r1, r2, r3⟩ := hse.2.2.2.1
        obtain ⟨q1, q2, q3, ⟨⟨q4, q4'⟩, q5, q6, q7⟩, q8⟩ := h5'.2.2.2.1 i hi
        rw [if_neg (nI_ge hi (by omega)), if_neg (nI_ge hi (by omega)), h4'.at hu hi, Option.bind_some, pgt_que hu5, Option.bind_some, if_pos (so_que hu5), if_pos hse.is, r1, Option.bind_some, if_pos r2]
        simp (disch := omega) only [show (4 : Int32) = nI 4 from rfl, nI_mul, nI_add, g_1151, Option.bind_some, q1]
        obtain ⟨xs, x1, x2, x3⟩ := hq.1
        -- class: the quoted name
        obtain ⟨s1, c1, c2, c3⟩ := c_putO hu5 x1 34
        obtain ⟨s2, d1, d2, d3⟩ := c_quotedL (k := nb) hu5 uFu 0 s1 _ (by show _ < 0 + 1000000; omega) (Nat.zero_le _) c2 (r3.fr (Nat.le_of_eq c3.1.2.2.2.2.1.symm) (by rw [c3.1.1]) (funext fun f => c3.2.2 _ _ (by have := r3.2.1; have := (qk_lt hu5).2; unfold qC; omega)))
        rw [List.drop_zero] at d2
        -- reference
        obtain ⟨t1, e1, e2, e3⟩ := r_sayO hu5 x2 34
        obtain ⟨t2, f1, f2, f3⟩ := r_quotedL (i := i) (sl := sl.getD i 0) hu (by omega) q4' q5 (fn_X12_listScripts_2 n) uFu 0 t1 _ (by show _ < 0 + 1000000; omega) (Nat.zero_le _) e2 (by rw [e3.2.2 _ _ (by unfold qR; omega)]; exact q6) (fun j hj => by rw [e3.2.2 _ _ (by unfold qR; omega)]; exact q7 j hj)
        rw [List.drop_zero, e3.2.2 _ _ (by unfold qR; omega)] at *
        have f1' : fn_X12_listScripts_33 (fn_X12_listScripts_2 n) uFu (nI u) (nI i) (nI (sl.getD i 0)) 0 t1 = _ := f1
        have d1' : fn_X5_quoted_8 uFu (qk u) nb 0 s1 = some s2 := d1
        rw [e1, Option.bind_some, f1']
        unfold fn_X5_quoted
        rw [c1, Option.bind_some, d1', Option.bind_some, pgt_que hu5, Option.bind_some, if_pos (so_que hu5)]
        have hRs : s2.R (985 + 16 * u) 5 = s'.R (985 + 16 * u) 5 := by rw [d3.1.2.1, c3.1.2.1]
        rw [hRs]
        have fin : ∀ w : List Nat, w.length < 900 → ∃ s3 t3 : uS, ((fn_X5_line (qk u) w s2).bind fun s1 => fn_X11_listScripts_9 n (nI u) (985 + 16 * u) (nI i + 1) s1) = some s3 ∧ fb_X12_listScripts_113 (fn_X12_listScripts_2 n) (nI u) (nI i) (34 :: w) (nI u) t2 = some (t3, true) ∧ cmdR u s t s3 t3 true := by
          intro w hw
          obtain ⟨s3, k1, k2, k3⟩ := c_lineO (w := w) hu5 (by omega) d2
          obtain ⟨t3, m1, m2, m3⟩ := r_lineO (w := 34 :: w) hu5 (by rw [List.length_cons]; omega) f2
          have hQ : pQo u s t s3 t3 := ⟨⟨_, k2, m2, i8_add (i8_add (i8_tell _ (i8_add (i8_tell _ (i8_add x3)))))⟩, out_t oc' (out_t (out_t c3 d3) k3), out_t or' (out_t (out_t e3 f3) m3)⟩
          obtain ⟨s4, t4, z1, z2, z3⟩ := ih (i + 1) s3 t3 (by omega) (by omega) hQ
          refine ⟨s4, t4, ?_, ?_, z3⟩
          · rw [k1, Option.bind_some, nI_1]; exact z1
          · unfold fb_X12_listScripts_113
            rw [m1, Option.bind_some, nI_1]; exact z2
        have f6 := fin kW_6 (by decide)
        have f7 := fin kW_7 (by decide)
        rcases h4'.2.2.2.2.2 with ⟨b1, b2⟩ | ⟨j, b1, b2, b3⟩
        · rcases h5'.2.2.2.2.2 with ⟨-, w2⟩ | ⟨j', w1, -, -⟩
          · rw [b2, w2, if_neg (m1_ne (n := sl.getD i 0) (by omega))]
            show ∃ s1 t1 : uS, (if some (es.getD i 0) = none then _ else _) = some s1 ∧ _ ∧ _
            rw [if_neg (fun e => by cases e)]
            exact f7
          · rw [b1] at w1; cases w1
        · rcases h5'.2.2.2.2.2 with ⟨w1, -⟩ | ⟨j', w1, -, w3⟩
          · rw [b1] at w1; cases w1
          · have hjj : j' = j := by rw [b1] at w1; cases w1; rfl
            subst hjj
            obtain ⟨y1, y2, y3, y4⟩ := h5'.2.2.2.1 j' b2
            rw [b3, w3]
            show ∃ s1 t1 : uS, (if some (es.getD i 0) = some (es.getD j' 0) then _ else _) = some s1 ∧ _ ∧ _
            by_cases z : j' = i
            · subst z
              rw [if_pos rfl, if_pos rfl]
              exact f6
            · rw [if_neg (fun e => z (h4'.2.2.2.2.1 j' i b2 hi (Option.some.inj e).symm)), if_neg (show ¬ nI (sl.getD j' 0) = nI (sl.getD i 0) by rw [nI_eq (by omega) (by omega)]; exact fun e => z (h5'.2.2.2.2.1 j' i b2 hi e))]
              exact f7
  unfold fn_X11_listScripts fn_X12_listScripts
  rw [pgt_usr hu, Option.bind_some, if_pos (so_usr hu)]
  exact key uFu 0 s t (by show _ < 0 + 1000000; omega) (Nat.zero_le _) ⟨h.2.1.2.1, out_r, out_r⟩
