/-! the end of a run: the answer, if there is one -/
def fiaI (k f : Nat) : Prop := k = 1062 ∨ waI k f
def fiaF (k f : Nat) : Prop := tF 1062 k f ∨ waF k f
def raI (k f : Nat) : Prop := k = 1079 ∧ (f = 21 ∨ f = 23 ∨ f = 24 ∨ f = 25 ∨ f = 27 ∨ f = 109 ∨ f = 110 ∨ f = 112)
def raF (k _f : Nat) : Prop := k = 1093 ∨ k = 1094 ∨ k = 1095 ∨ k = 1141 ∨ k = 1142 ∨ k = 1143
theorem fa_1 {s s1 : uS} (h : out (tI 1062) (tF 1062) s s1) : out fiaI fiaF s s1 := out_w h (fun k f z => Or.inl z) (fun k f z => Or.inl z)
theorem fa_2 {s s1 : uS} (h : out waI waF s s1) : out fiaI fiaF s s1 := out_w h (fun k f z => Or.inr z) (fun k f z => Or.inr z)
theorem ra_1 {t t1 : uS} (h : out leI leF t t1) : out raI raF t t1 := out_w h (fun k f z => by unfold leI at z; unfold raI; omega) (fun k f z => by unfold leF at z; unfold raF; omega)
theorem ra_2 {t t1 : uS} (h : out wsI wsF t t1) : out raI raF t t1 := out_w h (fun k f z => by unfold wsI at z; unfold raI; omega) (fun k f z => by unfold wsF at z; unfold raF; omega)
theorem cFR.o {s s1 : uS} {u : Nat} {bx ts : List (List Nat)} {p : pl} {ir iv : Nat} (h : cFR s u bx ts p ir iv) (o : out fiaI fiaF s s1) : cFR s1 u bx ts p ir iv := by
  obtain ⟨h1, h2, h3, h4, h5, h6, h7, h8⟩ := h
  have I : ∀ f : Nat, f = 5 ∨ f = 6 ∨ f = 7 → s1.I 1070 f = s.I 1070 f := fun f z => o.2.1 _ _ (by unfold fiaI waI; omega)
  have F : ∀ k : Nat, 1071 ≤ k → k ≤ 1074 → s1.F k = s.F k := fun k a b => funext fun f => o.2.2 _ _ (by unfold fiaF tF waF; omega)
  exact ⟨h1.a (I _ (by omega)) (F _ (by omega) (by omega)) (F _ (by omega) (by omega)), h2.a (I _ (by omega)) (F _ (by omega) (by omega)), h3.a (I _ (by omega)) (F _ (by omega) (by omega)), by rw [o.1.2.1]; exact h4, by rw [o.1.2.1]; exact h5, by rw [o.1.2.1]; exact h6, h7, h8⟩
theorem rFR.o {t t1 : uS} {ts : List (List Nat)} {p : pl} (h : rFR t ts p) (o : out raI raF t t1) : rFR t1 ts p := by
  obtain ⟨h1, h2, h3, h4, h5, h6, h7⟩ := h
  have I : ∀ f : Nat, 94 ≤ f → f ≤ 106 → t1.I 1079 f = t.I 1079 f := fun f a b => o.2.1 _ _ (by unfold raI; omega)
  exact ⟨h1.fr (fun k j z => o.2.2 _ _ (by unfold raF; omega)), h2.o o (by unfold raI; omega) (fun k f z => by unfold raF; omega), h3.o o (by unfold raI; omega) (fun f => by unfold raF; omega), (I _ (by omega) (by omega)).trans h4, fun z => (I _ (by omega) (by omega)).trans (h5 z), (I _ (by omega) (by omega)).trans h6, fun z => (I _ (by omega) (by omega)).trans (h7 z)⟩
theorem sFR.o {s t s1 t1 : uS} {ts : List (List Nat)} {p : pl} {ir iv : Nat} (h : sFR s t ts p ir iv) (o : out fiaI fiaF s s1) (q : out raI raF t t1) (hir : ir < 320) (hiv : iv < 320) : sFR s1 t1 ts p ir iv := by
  rcases h with z | ⟨ts1, bg, z1, z2, z3, z4⟩
  · exact Or.inl z
  · refine Or.inr ⟨ts1, bg, z1.o o (fun f => by unfold fiaI waI; omega) (fun f => by unfold fiaF tF waF; omega) (fun f => by unfold fiaF tF waF; omega) (fun f => by unfold fiaF tF waF; omega), z2, z3, z4.fr (fun i hi => ⟨fun f => o.2.1 _ _ (by unfold fiaI waI; omega), fun f => o.2.2 _ _ (by unfold fiaF tF waF; omega), fun f => o.2.2 _ _ (by unfold fiaF tF waF; omega)⟩) (fun r f a b => q.2.2 _ _ (by unfold raF; omega)) hir hiv⟩
theorem ltT_len {snd sub rs : List Nat} (h1 : snd.length ≤ 101) (h2 : sub.length ≤ 4006) (h3 : rs.length ≤ 1000) : (ltT snd sub rs).length ≤ 5200 := by
  unfold ltT
  have hln : ∀ x y : List Nat, (x ++ y).length = x.length + y.length := fun x y => List.length_append
  rw [hln, hln, hln, hln, hln, hln]
  show 4 + _ + 11 + _ + 4 + _ + 2 ≤ _
  omega
theorem t_fin {S t : uS} {u ri : Nat} {bx ts : List (List Nat)} {p : pl} {ir iv : Nat} {fs : List (List Nat × List Nat)} {snd : List Nat} {rcs : List (List Nat)} {sz today : Nat} {ns : List nT} (hu : u < 4) (hC : cFR S u bx ts p ir iv) (hR : rFR t ts p) (hS : sFR S t ts p ir iv) (hfc : fcP bx ts p = false) (h8 : S.I 1070 8 = 0) (h12 : S.I 1070 12 = nI ri) (hM : cMs S fs snd rcs sz) (hs0 : cTz S 1043 101 1 [snd] snd.length []) (ho : fsO fs) (as_ : adO snd) (hri : ri < rcs.length) (hRM : rMs t fs snd (rcs.getD ri []) sz) (hN : cNt S u ns) (hRN : rNt t u ns) (hO : ntO ns today) (hd : t.I 1079 1 = nI today) (h89 : t.I 1079 89 = nI u) : ∃ (s1 t2 : uS) (an : Option (List Nat)) (aw : Bool), fb_X7_finish_27 (nI today) S = some s1 ∧ rAn t = fb_X12_deliver_146 aw an.isSome t2 ∧ anR s1 t2 an ∧ (aw = true → 0 < pvc p ∧ an.isSome = true) ∧ (an.isSome = true → aw = false → pvc p = 0) ∧ (∀ x : List Nat, an = some x → x.length ≤ 5200) ∧ cFR s1 u bx ts p ir iv ∧ rFR t2 ts p ∧ sFR s1 t2 ts p ir iv ∧ out fiaI fiaF S s1 ∧ out raI raF t t2 := by
  obtain ⟨q1, q2, q3, q4, q5⟩ := fcB_f.mp hfc
  obtain ⟨c1, c2, c3, c4, c5, c6, c7, c8⟩ := id hC
  obtain ⟨r1', r2', r3', r4', r5', r6', r7'⟩ := id hR
  obtain ⟨hfl, -, ⟨b4, hrc⟩, m4, m5⟩ := hM
  obtain ⟨n1, n2, n3, n4, n5⟩ := hRM
  have hsl : snd.length ≤ 101 := n2.2.1
  have hlen : fn_X9_lengthOf 1043 0 S = some (nI snd.length) := tz_len uTx_sn hs0 (i := 0) Nat.zero_lt_one
  have none_ : ∀ (s1 t2 : uS), fb_X7_finish_27 (nI today) S = some s1 → rAn t = fb_X12_deliver_146 false false t2 → out fiaI fiaF S s1 → out raI raF t t2 → s1.I 1070 8 = 0 → ∃ (s1 t2 : uS) (an : Option (List Nat)) (aw : Bool), fb_X7_finish_27 (nI today) S = some s1 ∧ rAn t = fb_X12_deliver_146 aw an.isSome t2 ∧ anR s1 t2 an ∧ (aw = true → 0 < pvc p ∧ an.isSome = true) ∧ (an.isSome = true → aw = false → pvc p = 0) ∧ (∀ x : List Nat, an = some x → x.length ≤ 5200) ∧ cFR s1 u bx ts p ir iv ∧ rFR t2 ts p ∧ sFR s1 t2 ts p ir iv ∧ out fiaI fiaF S s1 ∧ out raI raF t t2 := fun s1 t2 e1 e2 o q e8 => ⟨s1, t2, none, false, e1, e2, ⟨e8, fun x z => by cases z⟩, fun z => (by cases z), fun z => (by cases z), fun x z => (by cases z), hC.o o, hR.o q, hS.o o q c7 c8, o, q⟩
  have e146 : ∀ t2 : uS, fb_X12_deliver_120 false false t2 = fb_X12_deliver_146 false false t2 := by
    intro t2
    unfold fb_X12_deliver_120 fb_X12_deliver_134
    rw [if_neg (by decide), if_neg (by decide), if_neg (by decide)]
  by_cases hrj : prj p = 0
  · have R10 : S.R 1070 10 = none := by rw [c4, if_pos hrj]
    have h102 : t.I 1079 102 = nI 0 := by rw [r4', hrj]
    have hF27 : fb_X7_finish_27 (nI today) S = fb_X7_finish_59 (nI today) S := by
      unfold fb_X7_finish_27
      rw [R10]
      rfl
    have hA : rAn t = (fn_X12_answers t).bind fun r2 => if r2.2 = true then fb_X12_deliver_120 false true r2.1 else fb_X12_deliver_120 false false r2.1 := by
      unfold rAn fb_X12_deliver_100
      rw [h102, if_pos (by decide), if_pos (by decide)]
    by_cases hvc : pvc p = 0
    · have R9 : S.R 1070 9 = none := by rw [c5, if_pos hvc]
      refine none_ S t ?_ ?_ out_r out_r h8
      · rw [hF27]
        unfold fb_X7_finish_59
        rw [R9]
        rfl
      · rw [hA]
        unfold fn_X12_answers
        rw [r6', hvc, if_pos (by decide), Option.bind_some, if_neg (show ¬ (t, false).2 = true from Bool.false_ne_true)]
        exact e146 t
    · have hv1 : pvc p = 1 := by omega
      have R9 : S.R 1070 9 = some (16 + 3 * iv) := by rw [c5, if_neg hvc]
      obtain ⟨ts1, bg, z1, z2, z3, z4⟩ : ∃ (ts1 : List (List Nat)) (bg : Nat), cTz S 8 2000 301 ts1 bg [] ∧ ts1.length = ts.length ∧ (∀ j : Nat, (ts1.getD j []).length = (ts.getD j []).length) ∧ svP S t ts ts1 ts.length p ir iv := by
        rcases hS with ⟨-, -, -, z⟩ | z
        · exact absurd z hvc
        · exact z
      obtain ⟨u1, w1, w2, w3, hva, hk10, hnv, hsame⟩ := z4.2.2.2 (by omega)
      obtain ⟨dg, sj, f, m, hd', rs, A1, A2, A3, S1, S2, S3, O1, O2, O3, O4, H1, H2, K1, K2, K3, K4⟩ := va_dat hva
      have hl1 : ∀ j : Nat, (ts1.getD j []).length ≤ 1000 := by
        intro j
        rw [z3 j]
        by_cases c : j < ts.length
        · obtain ⟨bg', s1', -⟩ := r1'
          obtain ⟨a, -, -, -, al, -⟩ := s1' j c
          exact al
        · rw [List.getD_eq_getElem?_getD, List.getElem?_eq_none (by omega)]; simp
      have h105 : t.I 1079 105 = nI (pnv p) := r7' (by omega)
      have hpers := c_pers hfl ho hs0 as_
      have hme : rMe t (pnv p) f m ts (rcs.getD ri []) fs := by
        refine ⟨h105, hnv, r1', ?_, n3, n1⟩
        rcases O4 with ⟨a, b⟩ | ⟨a, b, c⟩
        · exact Or.inl ⟨a, b⟩
        · exact Or.inr ⟨b, c, by have := O1 a; omega, O3⟩
      have hmc : meB fs ts1 f m (rcs.getD ri []) = meB fs ts f m (rcs.getD ri []) := meB_c (fun k hk => hsame _ (by have := O1 (by omega); omega) (by have := O1 (by omega); omega))
      obtain ⟨sA, a1, a2⟩ := c_addrd (f := f) (m := m) c8 hfl ho z1 hrc hri (fun z => (O1 z).1) O2 (fun z => by rw [z2]; have := O1 z; omega) O3
      rw [hmc] at a1
      have oA := fa_1 a2
      have IA : ∀ k f : Nat, k ≠ 1062 → sA.I k f = S.I k f := fun k f z => a2.2.1 _ _ z
      have FA : ∀ k f : Nat, k < 1062 → sA.F k f = S.F k f := fun k f z => a2.2.2 _ _ (by unfold tF; omega)
      have RA : sA.R = S.R := a2.1.2.1
      have hasA : ∀ x : Int32, fn_X3_has (16 + 3 * iv) x sA = fn_X3_has (16 + 3 * iv) x S := fun x => by unfold fn_X3_has; rw [IA _ _ (by omega)]
      have hdl : fn_X3_handle (16 + 3 * iv) sA = some (nI hd') := by
        refine c_hdl (rs := rs) c8 ?_ ((FA _ _ (by omega)).trans K1)
        rcases H1 with ⟨x, y, -⟩ | ⟨x, y, -⟩
        · exact Or.inl ⟨(hasA _).trans x, (FA _ _ (by omega)).trans y⟩
        · exact Or.inr ⟨(hasA _).trans x, y⟩
      have hdays : fn_X7_daysOf (16 + 3 * iv) sA = some (nI (ddN dg)) := c_days ((hasA _).trans A1) (fun d z => ⟨(A2 d z).1, (IA _ _ (by omega)).trans (A2 d z).2⟩)
      have z1A : cTz sA 8 2000 301 ts1 bg [] := z1.o a2 (fun _ => by unfold tI; omega) (fun _ => by unfold tF; omega) (fun _ => by unfold tF; omega) (fun _ => by unfold tF; omega)
      have hs0A : cTz sA 1043 101 1 [snd] snd.length [] := hs0.o a2 (fun _ => by unfold tI; omega) (fun _ => by unfold tF; omega) (fun _ => by unfold tF; omega) (fun _ => by unfold tF; omega)
      have hflA : cFl sA fs := by
        obtain ⟨b1, b2, m1, m2⟩ := hfl
        exact ⟨b1, b2, m1.o a2 (fun _ => by unfold tI; omega) (fun _ => by unfold tF; omega) (fun _ => by unfold tF; omega) (fun _ => by unfold tF; omega), m2.o a2 (fun _ => by unfold tI; omega) (fun _ => by unfold tF; omega) (fun _ => by unfold tF; omega) (fun _ => by unfold tF; omega)⟩
      have hNA : cNt sA u ns := hN.o a2 hu (fun k f z => by unfold tI; omega) (fun k f z => by unfold tF; omega)
      have hhd : ts1.getD hd' [] = ts.getD hd' [] := hsame _ H2.1 H2.2
      obtain ⟨o, l1, l2⟩ := c_late (h := hd') hu hNA hs0A z1A (by rw [z2]; omega)
      rw [hhd] at l2
      have hanl := anB_l (snd := snd) (hd := ts.getD hd' []) (dd := ddN dg) hO
      have hdd := ddN_le dg
      -- the class writes
      obtain ⟨sW, v1, v2, v3, v4⟩ := c_wrA (κ := 10) (f := rs) (sj := sj) c8 (Or.inr rfl) ((IA _ _ (by omega)).trans hk10) z1A hl1 hs0A hflA ho ((FA _ _ (by omega)).trans K1) (by rw [z2]; omega) (fun _ => (hasA _).trans S1) (fun g _ z => ⟨(FA _ _ (by omega)).trans (S2 g z).2.2, by rw [z2]; have := S2 g z; omega⟩)
      have hrsS : ts1.getD rs [] = ts.getD rs [] := hsame _ K3 K4
      have hsbS : sbT 10 sj ts1 fs = sbT 10 sj ts fs := by
        unfold sbT
        rw [if_neg (by decide), if_neg (by decide)]
        cases hsj : sj with
        | none => rfl
        | some g => have := S2 g hsj; exact hsame _ this.1 this.2.1
      rw [hrsS, hsbS] at v2
      have h149 : fb_X7_finish_149 sA = some sW := by
        unfold fb_X7_finish_149
        rw [RA, R9, Option.elim_some, if_pos (so_nod c8), v1, Option.bind_some]
      have hcls : prsB fs snd = true → meB fs ts f m (rcs.getD ri []) = true → fb_X7_finish_59 (nI today) S = if anB ns snd (ts.getD hd' []) today (ddN dg) = true then some sA else some sW := by
        intro hp hm
        unfold fb_X7_finish_59
        rw [R9, Option.elim_some, if_pos (so_nod c8), hpers, Option.bind_some, if_pos hp, Option.elim_some, if_pos (so_nod c8), h12, a1, Option.bind_some]
        dsimp only
        rw [if_pos hm, RA, c6, Option.bind_some, if_pos (so_usr hu), R9, Option.elim_some, if_pos (so_nod c8), hdl, Option.bind_some, l1, Option.bind_some, hanl]
        rcases l2 with ⟨y1, y2⟩ | ⟨i, e, y1, y2, y3, y4⟩
        · rw [y1, y2]
          show fb_X7_finish_149 sA = if (false : Bool) = true then some sA else some sW
          rw [if_neg (show ¬ ((false : Bool) = true) by decide), h149]
        · rw [y1, y2, Option.elim_some, if_pos y3, Option.elim_some, if_pos (so_nod c8), hdays, Option.bind_some, y4, nI_add]
          dsimp only
          have hb := (hO.2.2.2 i (lasN_some y1).1).1
          by_cases z : today < (ns.getD i nt0).1 + ddN dg
          · rw [if_pos (nI_lt z (by have := hO.2.1; omega)), if_pos (decide_eq_true z)]
          · rw [if_neg (nI_nlt (by omega) (by have := hO.2.1; omega)), if_neg (by rw [decide_eq_true_eq]; exact z), h149]
      -- the reference
      let K : uS → Option (uS × Bool) := fun s => (fn_X12_isForMe s).bind fun r21 => if r21.2 = true then ((fn_X12_answered r21.1).bind fun v24 => if v24 = true then (some (r21.1, false)) else (some (r21.1, true))) else (some (r21.1, false))
      obtain ⟨tP, p1, p2⟩ := r_pers K n1 ho n2 as_
      have hAns : fn_X12_answers t = if prsB fs snd = true then K tP else some (tP, false) := by
        unfold fn_X12_answers
        rw [r6', hv1, if_neg (show ¬ nI 1 ≤ 0 by decide)]
        exact p1
      have qP := ra_1 (leO5 p2)
      obtain ⟨tF, g1, g2⟩ := r_forMe ho (hme.o (leO5 p2))
      have qF : out raI raF t tF := out_t qP (ra_1 g2)
      have FF : ∀ k : Nat, 1096 ≤ k → k ≤ 1140 → tF.F k = t.F k := fun k a b => funext fun f => qF.2.2 _ _ (by unfold raF; omega)
      have hansd : fn_X12_answered tF = some (anB ns snd (ts.getD hd' []) today (ddN dg)) := by
        refine r_answd (nv := pnv p) (h := hd') hu ((qF.2.1 _ _ (by unfold raI; omega)).trans h89) ?_ hO ((qF.2.1 _ _ (by unfold raI; omega)).trans hd) (n2.o qF (by unfold raI; omega) (fun f => by unfold raF; omega)) (r1'.fr (fun k j z => qF.2.2 _ _ (by unfold raF; omega))) ⟨(qF.2.1 _ _ (by unfold raI; omega)).trans h105, hnv, ?_⟩ (by omega) (by rw [FF _ (by decide) (by decide)]; exact A3) (fun d z => (A2 d z).1)
        · obtain ⟨x1, x2⟩ := hRN
          refine ⟨by rw [FF _ (by decide) (by decide)]; exact x1, fun i hi => ?_⟩
          obtain ⟨y1, y2, y3, y4, y5⟩ := x2 i hi
          refine ⟨by rw [FF _ (by decide) (by decide)]; exact y1, by rw [FF _ (by decide) (by decide)]; exact y2, fun j hj => by rw [FF _ (by decide) (by decide)]; exact y3 j hj, by rw [FF _ (by decide) (by decide)]; exact y4, fun j hj => ?_⟩
          have : hdb tF (40 * u + i) j = hdb t (40 * u + i) j := by unfold hdb; rw [qF.1.2.2.1]
          rw [this]
          exact y5 j hj
        · rcases H1 with ⟨-, -, x⟩ | ⟨-, x, y⟩
          · exact Or.inl (by rw [FF _ (by decide) (by decide)]; exact x)
          · exact Or.inr ⟨by rw [FF _ (by decide) (by decide)]; exact y, by rw [FF _ (by decide) (by decide), x]; exact K2⟩
      cases hp : prsB fs snd with
      | false =>
        rw [hp, if_neg (by decide)] at hAns
        refine none_ S tP ?_ ?_ out_r qP h8
        · rw [hF27]
          unfold fb_X7_finish_59
          rw [R9, Option.elim_some, if_pos (so_nod c8), hpers, hp, Option.bind_some, if_neg (by decide)]
        · rw [hA, hAns, Option.bind_some, if_neg (show ¬ (tP, false).2 = true from Bool.false_ne_true)]
          exact e146 tP
      | true =>
        rw [hp, if_pos rfl] at hAns
        have hAns' : fn_X12_answers t = if meB fs ts f m (rcs.getD ri []) = true then ((fn_X12_answered tF).bind fun v24 => if v24 = true then (some (tF, false)) else (some (tF, true))) else (some (tF, false)) := by
          rw [hAns]
          show ((fn_X12_isForMe tP).bind fun r21 => _) = _
          rw [g1, Option.bind_some]
        cases hm : meB fs ts f m (rcs.getD ri []) with
        | false =>
          rw [hm, if_neg (by decide)] at hAns'
          refine none_ sA tF ?_ ?_ oA qF ((IA _ _ (by omega)).trans h8)
          · rw [hF27]
            unfold fb_X7_finish_59
            rw [R9, Option.elim_some, if_pos (so_nod c8), hpers, hp, Option.bind_some, if_pos rfl, Option.elim_some, if_pos (so_nod c8), h12, a1, Option.bind_some]
            dsimp only
            rw [hm, if_neg (by decide)]
          · rw [hA, hAns', Option.bind_some, if_neg (show ¬ (tF, false).2 = true from Bool.false_ne_true)]
            exact e146 tF
        | true =>
          rw [hm, if_pos rfl, hansd, Option.bind_some] at hAns'
          have hcl := hcls hp hm
          cases han : anB ns snd (ts.getD hd' []) today (ddN dg) with
          | true =>
            rw [han, if_pos rfl] at hAns' hcl
            refine none_ sA tF (by rw [hF27]; exact hcl) ?_ oA qF ((IA _ _ (by omega)).trans h8)
            rw [hA, hAns', Option.bind_some, if_neg (show ¬ (tF, false).2 = true from Bool.false_ne_true)]
            exact e146 tF
          | false =>
            rw [han, if_neg (by decide)] at hAns' hcl
            obtain ⟨t2, x1, x2, x3⟩ := r_wrL (b := false) (f := rs) (nr := 0) (nv := pnv p) (sj := sj) (r1'.fr (fun k j z => qF.2.2 _ _ (by unfold raF; omega))) (n2.o qF (by unfold raI; omega) (fun f => by unfold raF; omega)) (n1.o qF (by unfold raI; omega) (fun k f _ _ => by unfold raF; omega)) ho (show rs < ts.length by omega) (fun z => by cases z) (fun _ => ⟨(qF.2.1 _ _ (by unfold raI; omega)).trans h105, hnv, by rw [FF _ (by decide) (by decide)]; exact K2, by rw [FF _ (by decide) (by decide)]; exact S3, fun g z => by have := S2 g z; omega⟩)
            have x2' : rLt t2 (ltT snd (sbT 10 sj ts fs) (ts.getD rs [])) := x2
            have oW := out_t oA (fa_2 v4)
            have q2' := out_t qF (ra_2 x3)
            have hrl : (ts.getD rs []).length ≤ 1000 := by rw [← hrsS]; exact hl1 rs
            have hsl2 : (sbT 10 sj ts fs).length ≤ 4006 := by
              unfold sbT
              rw [if_neg (by decide)]
              cases hsj : sj with
              | none =>
                have := sjT_len ho
                show (kW_63 ++ sjT fs).length ≤ _
                rw [List.length_append]
                show 6 + _ ≤ _
                omega
              | some g =>
                have z := S2 g hsj
                have z' := hl1 g
                rw [hsame _ z.1 z.2.1] at z'
                show (ts.getD g []).length ≤ _
                omega
            refine ⟨sW, t2, some (ltT snd (sbT 10 sj ts fs) (ts.getD rs [])), true, by rw [hF27]; exact hcl, ?_, ⟨v3, fun x z => by rw [← Option.some.inj z]; exact ⟨v2, x2'⟩⟩, fun _ => ⟨by omega, rfl⟩, fun _ z => (by cases z), fun x z => by rw [← Option.some.inj z]; exact ltT_len hsl hsl2 hrl, hC.o oW, hR.o q2', hS.o oW q2' c7 c8, oW, q2'⟩
            rw [hA, hAns', Option.bind_some, if_pos rfl]
            unfold fb_X12_deliver_120 fb_X12_deliver_134
            rw [if_neg (by decide), if_pos rfl, if_pos rfl, x1, Option.bind_some]
            rfl
  · have hr1 : prj p = 1 := by omega
    obtain ⟨hac0, hv0⟩ := q3 hr1
    have R10 : S.R 1070 10 = some (16 + 3 * ir) := by rw [c4, if_neg hrj]
    have R9 : S.R 1070 9 = none := by rw [c5, if_pos hv0]
    have h102 : t.I 1079 102 = nI 1 := by rw [r4', hr1]
    have h59 : ∀ s1 : uS, s1.R = S.R → fb_X7_finish_59 (nI today) s1 = some s1 := by
      intro s1 e
      unfold fb_X7_finish_59
      rw [e, R9]
      rfl
    have hA : ∀ B : Bool, fb_X12_deliver_100 B t = fb_X12_deliver_120 B false t := by
      intro B
      unfold fb_X12_deliver_100
      rw [h102, if_neg (by decide)]
    by_cases c0 : snd.length = 0
    · refine none_ S t ?_ ?_ out_r out_r h8
      · unfold fb_X7_finish_27
        rw [R10, Option.elim_some, if_pos (so_nod c7), hlen, Option.bind_some, if_pos (show nI snd.length ≤ 0 by rw [c0]; decide)]
        exact h59 S rfl
      · unfold rAn
        rw [h102, if_neg (show ¬ nI 1 ≤ 0 by decide), n2.1, if_pos (show nI snd.length ≤ 0 by rw [c0]; decide), hA]
        exact e146 t
    · obtain ⟨ts1, bg, z1, z2, z3, z4⟩ : ∃ (ts1 : List (List Nat)) (bg : Nat), cTz S 8 2000 301 ts1 bg [] ∧ ts1.length = ts.length ∧ (∀ j : Nat, (ts1.getD j []).length = (ts.getD j []).length) ∧ svP S t ts ts1 ts.length p ir iv := by
        rcases hS with ⟨-, -, z, -⟩ | z
        · exact absurd z hrj
        · exact z
      obtain ⟨u1, w1, w2, ⟨f, K3, K4, K5, -, K1, K2⟩, hk6, hnr, hsame⟩ := z4.2.2.1 (by omega)
      have hl1 : ∀ j : Nat, (ts1.getD j []).length ≤ 1000 := by
        intro j
        rw [z3 j]
        by_cases c : j < ts.length
        · obtain ⟨bg', s1', -⟩ := r1'
          obtain ⟨a, -, -, -, al, -⟩ := s1' j c
          exact al
        · rw [List.getD_eq_getElem?_getD, List.getElem?_eq_none (by omega)]; simp
      obtain ⟨sW, v1, v2, v3, v4⟩ := c_wrA (κ := 6) (f := f) (sj := none) c7 (Or.inl rfl) hk6 z1 hl1 hs0 hfl ho K1 (by rw [z2]; exact K5) (fun z => by cases z) (fun g z => by cases z)
      have hfS : ts1.getD f [] = ts.getD f [] := hsame _ K3 K4
      have v2' : cTz sW 1075 6000 1 [] 0 (ltT snd (sbT 6 none ts fs) (ts.getD f [])) := by rw [hfS] at v2; exact v2
      obtain ⟨t2, x1, x2, x3⟩ := r_wrL (b := true) (f := f) (nr := pnr p) (nv := 0) (sj := none) r1' n2 n1 ho K5 (fun _ => ⟨r5' (by omega), hnr, K2⟩) (fun z => by cases z)
      have x2' : rLt t2 (ltT snd (sbT 6 none ts fs) (ts.getD f [])) := x2
      have oW := fa_2 v4
      have q2' := ra_2 x3
      have hrl : (ts.getD f []).length ≤ 1000 := by rw [← hfS]; exact hl1 f
      refine ⟨sW, t2, some (ltT snd (sbT 6 none ts fs) (ts.getD f [])), false, ?_, ?_, ⟨v3, fun x z => by rw [← Option.some.inj z]; exact ⟨v2', x2'⟩⟩, fun z => by (cases z), fun _ _ => hv0, fun x z => by rw [← Option.some.inj z]; exact ltT_len hsl (by unfold sbT; rw [if_pos rfl]; decide) hrl, hC.o oW, hR.o q2', hS.o oW q2' c7 c8, oW, q2'⟩
      · unfold fb_X7_finish_27
        rw [R10, Option.elim_some, if_pos (so_nod c7), hlen, Option.bind_some, if_neg (nI_nle (by omega) (by omega)), Option.elim_some, if_pos (so_nod c7), v1, Option.bind_some]
        exact h59 sW v4.1.2.1
      · unfold rAn
        rw [h102, if_neg (show ¬ nI 1 ≤ 0 by decide), n2.1, if_neg (nI_nle (by omega) (by omega)), hA]
        unfold fb_X12_deliver_120 fb_X12_deliver_134
        rw [if_pos rfl, if_pos rfl, x1, Option.bind_some]
        rfl
