/-! a command begins: the reference; the joint step -/
def kc163 (R : uS → Option (uS × Int32)) (r1 : uS × Int32) : Option (uS × Int32) := (iget 20 r1.1 1098 r1.2).bind fun v3 => if v3 = 2 then ((fn_X12_next r1.1).bind fun s5 => fb_X12_command_389 R r1.2 s5) else (if v3 = 3 then ((fn_X12_next r1.1).bind fun s7 => fb_X12_command_389 R r1.2 s7) else (if v3 = 4 then ((fn_X12_next r1.1).bind fun s9 => (fn_X12_tags r1.2 s9).bind fun s11 => fb_X12_command_389 R r1.2 s11) else (if v3 = 5 then ((fn_X12_needs 1 r1.1).bind fun s13 => (fn_X12_next s13).bind fun s15 => (fn_X12_tags r1.2 s15).bind fun s17 => (fn_X12_file r1.2 s17).bind fun s19 => fb_X12_command_389 R r1.2 s19) else (if v3 = 6 then ((fn_X12_next r1.1).bind fun s21 => (fn_X12_tags r1.2 s21).bind fun s23 => (fn_X12_redirect r1.2 s23).bind fun s25 => fb_X12_command_389 R r1.2 s25) else (if v3 = 7 then ((fn_X12_needs 2 r1.1).bind fun s27 => (fn_X12_next s27).bind fun s29 => (fn_X12_taken s29).bind fun r31 => (iput 20 r31.1 1102 r1.2 r31.2).bind fun s33 => fb_X12_command_389 R r1.2 s33) else (if v3 = 8 then ((fn_X12_needs 16 r1.1).bind fun s35 => (fn_X12_next s35).bind fun s37 => (iput 20 s37 1102 r1.2 (s37.I 1079 61)).bind fun s39 => (fn_X12_list s39).bind fun r41 => (iput 20 r41.1 1103 r1.2 r41.2).bind fun s43 => fb_X12_command_389 R r1.2 s43) else (if v3 = 9 then ((fn_X12_needs 16 r1.1).bind fun s45 => (fn_X12_next s45).bind fun s47 => (iput 20 s47 1102 r1.2 (s47.I 1079 61)).bind fun s49 => (fn_X12_list s49).bind fun r51 => (iput 20 r51.1 1103 r1.2 r51.2).bind fun s53 => fb_X12_command_389 R r1.2 s53) else (if v3 = 10 then ((fn_X12_needs 16 r1.1).bind fun s55 => (fn_X12_next s55).bind fun s57 => (iput 20 s57 1102 r1.2 (s57.I 1079 61)).bind fun s59 => (fn_X12_list s59).bind fun r61 => (iput 20 r61.1 1103 r1.2 r61.2).bind fun s63 => fb_X12_command_389 R r1.2 s63) else (if v3 = 11 then ((fn_X12_needs 64 r1.1).bind fun s65 => (fn_X12_next s65).bind fun s67 => (fn_X12_absence r1.2 s67).bind fun s69 => fb_X12_command_389 R r1.2 s69) else (if 0 ≤ (r1.1.I 1079 40) then (fb_X12_command_378 R r1.2 (r1.1.I 1079 40) r1.1) else (fb_X12_command_378 R r1.2 (r1.1.I 1079 32) r1.1)))))))))))
theorem cm163_e {R : uS → Option (uS × Int32)} {c : Int32} {t : uS} : fb_X12_command_163 R c t = (fn_X12_counting c t).bind (kc163 R) := rfl
theorem fO.cm163 {p a : Nat} {R : uS → Option (uS × Int32)} {t : uS} (ha : a < 520) (h1 : fO p t) : FV p t (kc163 R (t, nI a)) := by
  have l1 : ∀ t : uS, fO p t → FV p t ((fn_X12_needs 16 t).bind fun s35 => (fn_X12_next s35).bind fun s37 => (iput 20 s37 1102 (nI a) (s37.I 1079 61)).bind fun s39 => (fn_X12_list s39).bind fun r41 => (iput 20 r41.1 1103 (nI a) r41.2).bind fun s43 => fb_X12_command_389 R (nI a) s43) :=
    fun t h => (h.ns _).uv fun t1 h1 => h1.nU.uv fun t2 h2 => (h2.p1102 ha).uv fun t3 h3 => h3.li.vv fun t4 v hv h4 => (h4.p1103 ha).uv fun t5 h5 => h5.c389 ha
  unfold kc163
  dsimp only
  rw [g_1098 ha, Option.bind_some]
  refine FV.ite ?_ ?_
  · exact h1.nU.uv fun t2 h2 => h2.c389 ha
  refine FV.ite ?_ ?_
  · exact h1.nU.uv fun t2 h2 => h2.c389 ha
  refine FV.ite ?_ ?_
  · exact h1.nU.uv fun t2 h2 => h2.tgs.uv fun t3 h3 => h3.c389 ha
  refine FV.ite ?_ ?_
  · exact (h1.ns _).uv fun t2 h2 => h2.nU.uv fun t3 h3 => h3.tgs.uv fun t4 h4 => (h4.fi ha).uv fun t5 h5 => h5.c389 ha
  refine FV.ite ?_ ?_
  · exact h1.nU.uv fun t3 h3 => h3.tgs.uv fun t4 h4 => (h4.re ha).uv fun t5 h5 => h5.c389 ha
  refine FV.ite ?_ ?_
  · exact (h1.ns _).uv fun t2 h2 => h2.nU.uv fun t3 h3 => h3.tn.vv fun t4 v hv h4 => (h4.p1102 ha).uv fun t5 h5 => h5.c389 ha
  refine FV.ite ?_ ?_
  · exact l1 t h1
  refine FV.ite ?_ ?_
  · exact l1 t h1
  refine FV.ite ?_ ?_
  · exact l1 t h1
  refine FV.ite ?_ ?_
  · exact (h1.ns _).uv fun t2 h2 => h2.nU.uv fun t3 h3 => (h3.ab0 ha).uv fun t4 h4 => h4.c389 ha
  · rw [if_pos h1.lt]
    unfold fb_X12_command_378
    rw [wI_self (s := t) (k := 1079) (f := 40) rfl]
    exact (h1.fU _).uv fun t2 h2 => h2.c389 ha
/-- what the reference does of a command behind its word -/
def cmK (R : uS → Option (uS × Int32)) (v : Nat) (x1 : Int32) (s : uS) : Option (uS × Int32) := if v ≤ 2 then fb_X12_command_389 R x1 s else if v = 3 then ((fn_X12_tags x1 s).bind fun s11 => fb_X12_command_389 R x1 s11) else if v = 4 then ((fn_X12_tags x1 s).bind fun s17 => (fn_X12_file x1 s17).bind fun s19 => fb_X12_command_389 R x1 s19) else if v = 5 then ((fn_X12_tags x1 s).bind fun s23 => (fn_X12_redirect x1 s23).bind fun s25 => fb_X12_command_389 R x1 s25) else if v = 6 then ((fn_X12_taken s).bind fun r31 => (iput 20 r31.1 1102 x1 r31.2).bind fun s33 => fb_X12_command_389 R x1 s33) else if v ≤ 9 then ((iput 20 s 1102 x1 (s.I 1079 61)).bind fun s39 => (fn_X12_list s39).bind fun r41 => (iput 20 r41.1 1103 x1 r41.2).bind fun s43 => fb_X12_command_389 R x1 s43) else ((fn_X12_absence x1 s).bind fun s69 => fb_X12_command_389 R x1 s69)
theorem fO.cmk {p a v : Nat} {R : uS → Option (uS × Int32)} {t : uS} (ha : a < 520) (h : fO p t) : FV p t (cmK R v (nI a) t) := by
  unfold cmK
  refine FV.ite (h.c389 ha) (FV.ite (h.tgs.uv fun t1 h1 => h1.c389 ha) (FV.ite (h.tgs.uv fun t1 h1 => (h1.fi ha).uv fun t2 h2 => h2.c389 ha) (FV.ite (h.tgs.uv fun t1 h1 => (h1.re ha).uv fun t2 h2 => h2.c389 ha) (FV.ite (h.tn.vv fun t1 v hv h1 => (h1.p1102 ha).uv fun t2 h2 => h2.c389 ha) (FV.ite ((h.p1102 ha).uv fun t1 h1 => h1.li.vv fun t2 v hv h2 => (h2.p1103 ha).uv fun t3 h3 => h3.c389 ha) ((h.ab0 ha).uv fun t1 h1 => h1.c389 ha))))))
def cmL : List (List Nat) := (spl kW_37).1 :: (spl kW_37).2
theorem cw_85 : wdAt cmL kW_85 0 := ⟨by decide, by decide, by decide, by decide, by decide⟩
theorem cw_86 : wdAt cmL kW_86 1 := ⟨by decide, by decide, by decide, by decide, by decide⟩
theorem cw_87 : wdAt cmL kW_87 2 := ⟨by decide, by decide, by decide, by decide, by decide⟩
theorem cw_88 : wdAt cmL kW_88 3 := ⟨by decide, by decide, by decide, by decide, by decide⟩
theorem cw_77 : wdAt cmL kW_77 4 := ⟨by decide, by decide, by decide, by decide, by decide⟩
theorem cw_89 : wdAt cmL kW_89 5 := ⟨by decide, by decide, by decide, by decide, by decide⟩
theorem cw_78 : wdAt cmL kW_78 6 := ⟨by decide, by decide, by decide, by decide, by decide⟩
theorem cw_90 : wdAt cmL kW_90 7 := ⟨by decide, by decide, by decide, by decide, by decide⟩
theorem cw_91 : wdAt cmL kW_91 8 := ⟨by decide, by decide, by decide, by decide, by decide⟩
theorem cw_92 : wdAt cmL kW_92 9 := ⟨by decide, by decide, by decide, by decide, by decide⟩
theorem cw_83 : wdAt cmL kW_83 10 := ⟨by decide, by decide, by decide, by decide, by decide⟩
theorem eta2 {A : Option (uS × Int32)} : (A.bind fun r => some (r.1, r.2)) = A := by cases A <;> rfl
theorem r_cmdW {R : uS → Option (uS × Int32)} {v : Nat} {t : uS} (hv : v ≤ 11) (w : ∀ (W : List Nat) (j : Nat), wdAt cmL W j → ∀ U : uS, ol rnJ rnK rNo t U → fn_X12_isWord W U = some (decide (v = j))) : fn_X12_command R t = if v = 0 then R t else fb_X12_command_163 R (if v = 11 then -1 else nI (v + 1)) t := by
  unfold fn_X12_command
  rw [w kW_85 0 cw_85 t ol_r, w kW_86 1 cw_86 t ol_r, w kW_87 2 cw_87 t ol_r, w kW_88 3 cw_88 t ol_r, w kW_77 4 cw_77 t ol_r, w kW_89 5 cw_89 t ol_r, w kW_78 6 cw_78 t ol_r, w kW_90 7 cw_90 t ol_r, w kW_91 8 cw_91 t ol_r, w kW_92 9 cw_92 t ol_r, w kW_83 10 cw_83 t ol_r]
  have : v = 0 ∨ v = 1 ∨ v = 2 ∨ v = 3 ∨ v = 4 ∨ v = 5 ∨ v = 6 ∨ v = 7 ∨ v = 8 ∨ v = 9 ∨ v = 10 ∨ v = 11 := by omega
  rcases this with z | z | z | z | z | z | z | z | z | z | z | z
  · rw [z]; exact eta2
  · rw [z]; rfl
  · rw [z]; rfl
  · rw [z]; rfl
  · rw [z]; rfl
  · rw [z]; rfl
  · rw [z]; rfl
  · rw [z]; rfl
  · rw [z]; rfl
  · rw [z]; rfl
  · rw [z]; rfl
  · rw [z]; rfl
theorem NK_c {v : Nat} (hv : v ≤ 10) : NKn.getD v 0 = (if v = 4 then 1 else if v = 6 then 2 else if 7 ≤ v ∧ v ≤ 9 then 16 else if v = 10 then 64 else 0) := by
  have : v = 0 ∨ v = 1 ∨ v = 2 ∨ v = 3 ∨ v = 4 ∨ v = 5 ∨ v = 6 ∨ v = 7 ∨ v = 8 ∨ v = 9 ∨ v = 10 := by omega
  rcases this with z | z | z | z | z | z | z | z | z | z | z <;> rw [z] <;> rfl
theorem r_163 {k fr : Nat} {x : List Nat} {ts : List (List Nat)} {bg b e : Nat} {σ : List (Nat × Nat)} {N M cn ob dp rq T : Nat} {s t V : uS} {R : uS → Option (uS × Int32)} {v : Nat} (h : pj k fr x ts bg b e σ N M cn ob dp rq T s t) (hv : 1 ≤ v ∧ v ≤ 10) (hM : M < 519) (qV : ol rnJ rnK rNo t V) (hr : pr ts bg (M + 1) (cn + 1) ob dp rq V) (hk : V.F 1098 M = nI (v + 1)) : (rq &&& NKn.getD v 0 = NKn.getD v 0 → kc163 R (V, nI M) = (fn_X12_next V).bind fun s1 => cmK R v (nI M) s1) ∧ (¬ rq &&& NKn.getD v 0 = NKn.getD v 0 → FV b t (kc163 R (V, nI M))) := by
  have hM5 : M < 520 := by omega
  have n0 := h.nds qV hr (by omega) (j := 0) (by decide)
  have n1 := h.nds qV hr (by omega) (j := 1) (by decide)
  have n4 := h.nds qV hr (by omega) (j := 4) (by decide)
  have n6 := h.nds qV hr (by omega) (j := 6) (by decide)
  have e : kc163 R (V, nI M) = (iget 20 V 1098 (nI M)).bind _ := rfl
  have l1 : ∀ t : uS, fO b t → FV b t ((fn_X12_next t).bind fun s37 => (iput 20 s37 1102 (nI M) (s37.I 1079 61)).bind fun s39 => (fn_X12_list s39).bind fun r41 => (iput 20 r41.1 1103 (nI M) r41.2).bind fun s43 => fb_X12_command_389 R (nI M) s43) :=
    fun t h1 => h1.nU.uv fun t2 h2 => (h2.p1102 hM5).uv fun t3 h3 => h3.li.vv fun t4 v hv h4 => (h4.p1103 hM5).uv fun t5 h5 => h5.c389 hM5
  rw [e, g_1098 hM5, Option.bind_some, hk]
  have : v = 1 ∨ v = 2 ∨ v = 3 ∨ v = 4 ∨ v = 5 ∨ v = 6 ∨ v = 7 ∨ v = 8 ∨ v = 9 ∨ v = 10 := by omega
  rcases this with z | z | z | z | z | z | z | z | z | z
  · subst z
    rw [if_pos (show nI (1 + 1) = 2 from rfl)]
    exact ⟨fun _ => rfl, fun y => absurd (Nat.and_zero _) y⟩
  · subst z
    rw [if_neg (show ¬ nI (2 + 1) = 2 by decide), if_pos (show nI (2 + 1) = 3 from rfl)]
    exact ⟨fun _ => rfl, fun y => absurd (Nat.and_zero _) y⟩
  · subst z
    rw [if_neg (show ¬ nI (3 + 1) = 2 by decide), if_neg (show ¬ nI (3 + 1) = 3 by decide), if_pos (show nI (3 + 1) = 4 from rfl)]
    exact ⟨fun _ => rfl, fun y => absurd (Nat.and_zero _) y⟩
  · subst z
    rw [if_neg (show ¬ nI (4 + 1) = 2 by decide), if_neg (show ¬ nI (4 + 1) = 3 by decide), if_neg (show ¬ nI (4 + 1) = 4 by decide), if_pos (show nI (4 + 1) = 5 from rfl)]
    refine ⟨fun y => ?_, fun y => ?_⟩
    · rw [show fn_X12_needs 1 V = some V from n0.1 y, Option.bind_some]; rfl
    · exact (n0.2 y).uv fun t1 h1 => (h1.nU.uv fun t3 h3 => h3.tgs.uv fun t4 h4 => (h4.fi hM5).uv fun t5 h5 => h5.c389 hM5)
  · subst z
    rw [if_neg (show ¬ nI (5 + 1) = 2 by decide), if_neg (show ¬ nI (5 + 1) = 3 by decide), if_neg (show ¬ nI (5 + 1) = 4 by decide), if_neg (show ¬ nI (5 + 1) = 5 by decide), if_pos (show nI (5 + 1) = 6 from rfl)]
    exact ⟨fun _ => rfl, fun y => absurd (Nat.and_zero _) y⟩
  · subst z
    rw [if_neg (show ¬ nI (6 + 1) = 2 by decide), if_neg (show ¬ nI (6 + 1) = 3 by decide), if_neg (show ¬ nI (6 + 1) = 4 by decide), if_neg (show ¬ nI (6 + 1) = 5 by decide), if_neg (show ¬ nI (6 + 1) = 6 by decide), if_pos (show nI (6 + 1) = 7 from rfl)]
    refine ⟨fun y => ?_, fun y => ?_⟩
    · rw [show fn_X12_needs 2 V = some V from n1.1 y, Option.bind_some]; rfl
    · exact (n1.2 y).uv fun t1 h1 => (h1.nU.uv fun t3 h3 => h3.tn.vv fun t4 v hv h4 => (h4.p1102 hM5).uv fun t5 h5 => h5.c389 hM5)
  · subst z
    rw [if_neg (show ¬ nI (7 + 1) = 2 by decide), if_neg (show ¬ nI (7 + 1) = 3 by decide), if_neg (show ¬ nI (7 + 1) = 4 by decide), if_neg (show ¬ nI (7 + 1) = 5 by decide), if_neg (show ¬ nI (7 + 1) = 6 by decide), if_neg (show ¬ nI (7 + 1) = 7 by decide), if_pos (show nI (7 + 1) = 8 from rfl)]
    refine ⟨fun y => ?_, fun y => ?_⟩
    · rw [show fn_X12_needs 16 V = some V from n4.1 y, Option.bind_some]; rfl
    · exact (n4.2 y).uv fun t1 h1 => (l1 t1 h1)
  · subst z
    rw [if_neg (show ¬ nI (8 + 1) = 2 by decide), if_neg (show ¬ nI (8 + 1) = 3 by decide), if_neg (show ¬ nI (8 + 1) = 4 by decide), if_neg (show ¬ nI (8 + 1) = 5 by decide), if_neg (show ¬ nI (8 + 1) = 6 by decide), if_neg (show ¬ nI (8 + 1) = 7 by decide), if_neg (show ¬ nI (8 + 1) = 8 by decide), if_pos (show nI (8 + 1) = 9 from rfl)]
    refine ⟨fun y => ?_, fun y => ?_⟩
    · rw [show fn_X12_needs 16 V = some V from n4.1 y, Option.bind_some]; rfl
    · exact (n4.2 y).uv fun t1 h1 => (l1 t1 h1)
  · subst z
    rw [if_neg (show ¬ nI (9 + 1) = 2 by decide), if_neg (show ¬ nI (9 + 1) = 3 by decide), if_neg (show ¬ nI (9 + 1) = 4 by decide), if_neg (show ¬ nI (9 + 1) = 5 by decide), if_neg (show ¬ nI (9 + 1) = 6 by decide), if_neg (show ¬ nI (9 + 1) = 7 by decide), if_neg (show ¬ nI (9 + 1) = 8 by decide), if_neg (show ¬ nI (9 + 1) = 9 by decide), if_pos (show nI (9 + 1) = 10 from rfl)]
    refine ⟨fun y => ?_, fun y => ?_⟩
    · rw [show fn_X12_needs 16 V = some V from n4.1 y, Option.bind_some]; rfl
    · exact (n4.2 y).uv fun t1 h1 => (l1 t1 h1)
  · subst z
    rw [if_neg (show ¬ nI (10 + 1) = 2 by decide), if_neg (show ¬ nI (10 + 1) = 3 by decide), if_neg (show ¬ nI (10 + 1) = 4 by decide), if_neg (show ¬ nI (10 + 1) = 5 by decide), if_neg (show ¬ nI (10 + 1) = 6 by decide), if_neg (show ¬ nI (10 + 1) = 7 by decide), if_neg (show ¬ nI (10 + 1) = 8 by decide), if_neg (show ¬ nI (10 + 1) = 9 by decide), if_neg (show ¬ nI (10 + 1) = 10 by decide), if_pos (show nI (10 + 1) = 11 from rfl)]
    refine ⟨fun y => ?_, fun y => ?_⟩
    · rw [show fn_X12_needs 64 V = some V from n6.1 y, Option.bind_some]; rfl
    · exact (n6.2 y).uv fun t1 h1 => (h1.nU.uv fun t3 h3 => (h3.ab0 hM5).uv fun t4 h4 => h4.c389 hM5)
