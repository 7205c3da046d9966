/-! the store of the reference: a whole plan -/
def gnI (k f : Nat) : Prop := k = 1079 ∧ (f = 21 ∨ f = 23 ∨ f = 69 ∨ f = 70 ∨ f = 71)
def gnF (u k f : Nat) : Prop := mbF u k f ∨ gbF k f ∨ (k = 1129 ∧ f = u) ∨ k = 1130 ∨ k = 1131 ∨ k = 1132 ∨ k = 1135
def gnL (k _f : Nat) : Prop := k = 1118 ∨ k = 1133 ∨ k = 1134
theorem gn_1 {t t1 : uS} {u : Nat} (h : ol geI (geF u) ga18 t t1) : ol gnI (gnF u) gnL t t1 := ol_w h (fun k f z => z) (fun k f z => z.elim Or.inl (fun z => Or.inr (Or.inl z))) (fun k f z => Or.inl z)
theorem rNe.ge {t t1 : uS} {q u : Nat} {x : nT} (h : rNe t q x) (o : ol geI (geF u) ga18 t t1) : rNe t1 q x := by
  obtain ⟨h1, h2, h3, h4, h5⟩ := h
  have F : ∀ k f : Nat, 1129 ≤ k → k ≤ 1135 → t1.F k f = t.F k f := fun k f a b => o.2.2.1 _ _ (by unfold geF mbF gbF; omega)
  have L : ∀ k f : Nat, k = 1133 ∨ k = 1134 → t1.L k f = t.L k f := fun k f a => o.2.2.2 _ _ (by unfold ga18; omega)
  refine ⟨(F _ _ (by omega) (by omega)).trans h1, (F _ _ (by omega) (by omega)).trans h2, fun j hj => (F _ _ (by omega) (by omega)).trans (h3 j hj), (F _ _ (by omega) (by omega)).trans h4, fun j hj => ?_⟩
  rw [hdb_S, L _ _ (Or.inl rfl), L _ _ (Or.inr rfl), ← hdb_S]
  exact h5 j hj
theorem rNt.ge {t t1 : uS} {u v : Nat} {ns : List nT} (h : rNt t v ns) (o : ol geI (geF u) ga18 t t1) : rNt t1 v ns := ⟨(o.2.2.1 _ _ (by unfold geF mbF gbF; omega)).trans h.1, fun i hi => (h.2 i hi).ge o⟩
theorem rHd.ge {t t1 : uS} {u nv h : Nat} (hh : rHd t nv h) (o : ol geI (geF u) ga18 t t1) : rHd t1 nv h := by
  obtain ⟨a, b, c⟩ := hh
  refine ⟨(o.2.1 _ _ (by unfold geI; omega)).trans a, b, ?_⟩
  rw [o.2.2.1 _ _ (by unfold geF mbF gbF; omega), o.2.2.1 _ _ (by unfold geF mbF gbF; omega)]
  exact c
theorem rMl.ng {t t1 : uS} {ms : List aM} {p : Nat} (h : rMl t ms p) (o : ol rNo ngF hdL4 t t1) : rMl t1 ms p := by
  obtain ⟨h1, h2, h3, h4, h5, h6, h7, h8⟩ := h
  have F : ∀ k f : Nat, 1119 ≤ k → k ≤ 1125 → t1.F k f = t.F k f := fun k f a b => o.2.2.1 _ _ (by unfold ngF; omega)
  have L : ∀ f : Nat, t1.L 1118 f = t.L 1118 f := fun f => o.2.2.2 _ _ (by unfold hdL4; omega)
  have I : ∀ f : Nat, t1.I 1079 f = t.I 1079 f := fun f => o.2.1 _ _ (fun z => z)
  refine ⟨h1, h2, h3, (I _).trans h4, (I _).trans h5, (I _).trans h6, fun i hi => ?_, fun k hk => ?_⟩
  · obtain ⟨a1, a2, a3, a4, a5, at_, a6, a7, a8⟩ := h7 i hi
    exact ⟨(F _ _ (by omega) (by omega)).trans a1, (F _ _ (by omega) (by omega)).trans a2, (F _ _ (by omega) (by omega)).trans a3, (F _ _ (by omega) (by omega)).trans a4, a5, at_, (F _ _ (by omega) (by omega)).trans a6, a7, fun j hj => by rw [pkb_S, L, ← pkb_S]; exact a8 j hj⟩
  · obtain ⟨q, q1, q2, q3, q4⟩ := h8 k hk
    exact ⟨q, q1, q2, (F _ _ (by omega) (by omega)).trans q3, fun j hj => (F _ _ (by omega) (by omega)).trans (q4 j hj)⟩
/-- notes of the others stay -/
def nOt (u : Nat) (t t1 : uS) : Prop := ∀ (v : Nat) (ns : List nT), v < 4 → v ≠ u → ntZ ns → ns.length ≤ 40 → rNt t v ns → rNt t1 v ns
theorem r_plan {t : uS} {u h p0 today : Nat} {bx ts : List (List Nat)} {p : pl} {an : Option (List Nat)} {aw : Bool} {snd tx hd : List Nat} {ms : List aM} {ns : List nT} (hu : u < 4) (hR : rFR t ts p) (hbx : bxO bx) (hds : dsF ts (pF p)) (h6 : (abxF bx ts (pF p)).length ≤ 6) (hso : sOk ts (pF p)) (hD4 : (pDr p).length ≤ 4) (hlb : ∀ j ∈ pDr p, (ts.getD j []).length ≤ 101) (hAn : ∀ x : List Nat, an = some x → rLt t x) (hT : rTt t tx) (hs : rTe t 93 1137 snd) (hB : rBx t u bx) (h89 : t.I 1079 89 = nI u) (hM : rMl t ms p0) (hN : rNt t u ns) (hz : ntZ ns) (hnl : ns.length ≤ 40) (hday : t.I 1079 1 = nI today) (hl : ms.length + (pF p).length + (pDr p).length + (lM snd an).length ≤ 400) (ho : oN ms + (pDr p).length + (lM snd an).length ≤ 100) (hp : p0 + (pF p).length * tx.length + (pDr p).length * tx.length + lS an ≤ 150400) (hw1 : aw = true → 0 < pvc p ∧ an.isSome = true) (hhd : 0 < pvc p → rHd t (pnv p) h ∧ h < ts.length ∧ ts.getD h [] = hd) : ∃ t1 : uS, fn_X12_deliver_255 uFu aw an.isSome 0 t = fb_X12_deliver_346 t1 ∧ rMl t1 (ms ++ flM u tx (cfF bx ts (pF p)) ++ sdM ts tx (pDr p) ++ lM snd an) (p0 + (pF p).length * tx.length + (pDr p).length * tx.length + lS an) ∧ rBx t1 u (abxF bx ts (pF p)) ∧ rNt t1 u (if aw = true then ntA ns (today, snd, hd) else ns) ∧ nOt u t t1 ∧ ol gnI (gnF u) gnL t t1 := by
  obtain ⟨r1, r2, r3, r4, r5, r6, r7⟩ := hR
  have hF6 : (pF p).length ≤ 6 := ds_len hbx.1 hbx.2.2.1 hds h6
  have hTl := hT.1
  obtain ⟨t1, a1, a2, a3, a4⟩ := r_255 (aw := aw) (b4 := an.isSome) hu hbx hds hso h6 (pF p).length uFu 0 p0 t ms (by omega) (by show _ ≤ 1000000; omega) (by rw [List.take_zero]; show rBx t u (bx ++ []); rw [List.append_nil]; exact hB) (by rw [List.take_zero]; show bxO (bx ++ []); rw [List.append_nil]; exact hbx) r1 r2 h89 hT hM (by omega) (by omega)
  rw [List.drop_zero] at a3
  have el3 : (ms ++ flM u tx (cfF bx ts (pF p))).length = ms.length + (pF p).length := by
    rw [List.length_append]
    unfold flM
    rw [List.length_map, cf_len]
  obtain ⟨t2, b1, b2, b3⟩ := r_303 (aw := aw) (b4 := an.isSome) (ts := ts) (D := pDr p) (tx := tx) hD4 hlb (pDr p).length uFu 0 (p0 + (pF p).length * tx.length) t1 (ms ++ flM u tx (cfF bx ts (pF p))) (by omega) (by show _ ≤ 1000000; omega) (r1.ge a4) (r3.ge a4) (hT.ge a4) a3 (by omega) (by rw [flM_oN hu]; omega) (by omega)
  rw [List.drop_zero] at b2
  have g12 : ol geI (geF u) ga18 t t2 := ol_t a4 (ge_2 b3)
  have el4 : (ms ++ flM u tx (cfF bx ts (pF p)) ++ sdM ts tx (pDr p)).length = ms.length + (pF p).length + (pDr p).length := by
    rw [List.length_append, el3]
    unfold sdM
    rw [List.length_map]
  have hBt : rBx t2 u (abxF bx ts (pF p)) := a2.fr (fun k j _ _ => b3.2.2.1 _ _ (by unfold gbF; omega))
  have nO : ∀ t' : uS, ol geI (geF u) ga18 t t' → nOt u t t' := fun t' o v ns' _ _ _ _ hh => hh.ge o
  -- the letter
  obtain ⟨t3, c1, c2, c3⟩ : ∃ t3 : uS, (if an.isSome = true then ((fn_X12_sendLetter t2).bind fun s3 => fb_X12_deliver_338 aw s3) else (fb_X12_deliver_338 aw t2)) = fb_X12_deliver_338 aw t3 ∧ rMl t3 (ms ++ flM u tx (cfF bx ts (pF p)) ++ sdM ts tx (pDr p) ++ lM snd an) (p0 + (pF p).length * tx.length + (pDr p).length * tx.length + lS an) ∧ ol gbI gbF ga18 t2 t3 := by
    cases an with
    | none =>
      refine ⟨t2, rfl, ?_, ol_r⟩
      rw [show lM snd none = [] from rfl, List.append_nil, show lS none = 0 from rfl, Nat.add_zero]
      exact b2
    | some x =>
      have hx := hAn x rfl
      have l1 : (lM snd (some x)).length = 1 := rfl
      have l2 : lS (some x) = x.length := rfl
      obtain ⟨t3, d1, d2, d3⟩ := r_sendLet b2 (by omega) (by rw [sdM_oN, flM_oN hu]; omega) ⟨(g12.2.1 _ _ (by unfold geI; omega)).trans hs.1, hs.2.1, hs.2.2.1, fun j hj => (g12.2.2.1 _ _ (by unfold geF mbF gbF; omega)).trans (hs.2.2.2 j hj)⟩ ⟨(g12.2.1 _ _ (by unfold geI; omega)).trans hx.1, hx.2.1, hx.2.2.1, fun j hj => (g12.2.2.1 _ _ (by unfold geF mbF gbF; omega)).trans (hx.2.2.2 j hj)⟩ (by omega)
      refine ⟨t3, ?_, d2, d3⟩
      show (fn_X12_sendLetter t2).bind _ = _
      rw [d1, Option.bind_some]
  have g13 : ol geI (geF u) ga18 t t3 := ol_t g12 (ge_2 c3)
  have hB3 : rBx t3 u (abxF bx ts (pF p)) := hBt.fr (fun k j _ _ => c3.2.2.1 _ _ (by unfold gbF; omega))
  have hN3 : rNt t3 u ns := hN.ge g13
  have run : fn_X12_deliver_255 uFu aw an.isSome 0 t = fb_X12_deliver_338 aw t3 := by
    rw [show fn_X12_deliver_255 uFu aw an.isSome 0 t = _ from a1, show fn_X12_deliver_303 uFu aw an.isSome 0 t1 = _ from b1]
    exact c1
  rw [run]
  cases aw with
  | false =>
    exact ⟨t3, rfl, c2, hB3, by rw [if_neg (by decide)]; exact hN3, nO t3 g13, gn_1 g13⟩
  | true =>
    obtain ⟨w1, w2⟩ := hw1 rfl
    obtain ⟨x1, x2, x3⟩ := hhd w1
    obtain ⟨t4, e1, e2, e3, e4, e5⟩ := r_addN (today := today) hu ((g13.2.1 _ _ (by unfold geI; omega)).trans h89) hN3 hz hnl ((g13.2.1 _ _ (by unfold geI; omega)).trans hday) ⟨(g13.2.1 _ _ (by unfold geI; omega)).trans hs.1, hs.2.1, hs.2.2.1, fun j hj => (g13.2.2.1 _ _ (by unfold geF mbF gbF; omega)).trans (hs.2.2.2 j hj)⟩ (r1.ge g13) (x1.ge g13) x2
    rw [x3] at e2
    refine ⟨t4, ?_, c2.ng e4, hB3.fr (fun k j a b => e4.2.2.1 _ _ (by unfold ngF; omega)), by rw [if_pos rfl]; exact e2, fun v ns' hv hne hz' hl' hh => ?_, ?_⟩
    · unfold fb_X12_deliver_338
      rw [if_pos rfl, e1, Option.bind_some]
    · have hh3 := hh.ge g13
      refine ⟨(e5 v hne).trans hh3.1, fun i hi => ?_⟩
      have zz := hz' i hi
      exact e3 _ _ (by omega) (by omega) zz.1 zz.2.2.1 (hh3.2 i hi)
    · obtain ⟨y0, y1, y2, y3⟩ := ol_t (gn_1 g13) (ol_w e4 (QI := gnI) (QF := fun k f => gnF u k f ∨ k = 1129) (QL := gnL) (fun _ _ z => z.elim) (fun k f z => by unfold ngF at z; unfold gnF; omega) (fun k f z => by unfold hdL4 at z; unfold gnL; omega) |> fun o => ⟨o.1, o.2.1, fun k f z => by
        by_cases d : k = 1129
        · subst d
          exact e5 f (fun w => z (by unfold gnF; omega))
        · exact o.2.2.1 k f (fun w => w.elim z d), o.2.2.2⟩)
      exact ⟨y0, y1, y2, y3⟩
