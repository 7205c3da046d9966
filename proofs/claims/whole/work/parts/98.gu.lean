/-! one recipient: the plan is stored, on both sides -/
theorem t_store {s t : uS} {u dy : Nat} {bx : List (List Nat)} {an : Option (List Nat)} {aw : Bool} {snd tx : List Nat} {ns : List nT} {ms : List aM} {p0 bgx : Nat} {ts : List (List Nat)} {p : pl} {ir iv : Nat} (hu : u < 4) (hn : 1171 ≤ s.n) (hn2 : s.n + 20 ≤ 600000) (hm2 : s.m + 11000 ≤ 7302250) (hw : wW dy s t) (hd : s.I 0 13 = nI dy) (hdt : t.I 1079 1 = nI dy) (h89 : t.I 1079 89 = nI u) (hbx : bxO bx) (hB : cTz s (988 + 16 * u) 120 6 bx bgx []) (hbg : bgx ≤ 20 * bx.length) (hRB : rBx t u bx) (hO : ntO ns dy) (hN : cNt s u ns) (hRN : rNt t u ns) (hM : cMl s ms p0) (hRM : rMl t ms p0) (hC : cFR s u bx ts p ir iv) (hR : rFR t ts p) (hS : sFR s t ts p ir iv) (hfc : fcP bx ts p = false) (hds : dsF ts (pF p)) (hA : anR s t an) (hw1 : aw = true → 0 < pvc p ∧ an.isSome = true) (hw2 : an.isSome = true → aw = false → pvc p = 0) (hAl : ∀ x : List Nat, an = some x → x.length ≤ 5200) (hT : cTxt s tx) (h3 : s.I 1042 3 = nI tx.length) (hs : cTz s 1043 101 1 [snd] snd.length []) (hbs : bys snd) (hRT : rTt t tx) (hRs : rTe t 93 1137 snd) (hfit : fitB ms p0 (pF p).length (pDr p).length tx.length an = true) : ∃ s1 t1 : uS, fn_X11_storePlan (nI u) s = some s1 ∧ fn_X12_deliver_255 uFu aw an.isSome 0 t = fb_X12_deliver_346 t1 ∧ wW dy s1 t1 ∧ oc (plI u) (plF u) rNo (plP u) s s1 ∧ ol gnI (gnF u) gnL t t1 ∧ s1.n ≤ s.n + 20 ∧ s1.m ≤ s.m + 11000 := by
  obtain ⟨q1, q2, q3, q4, q5⟩ := fcB_f.mp hfc
  obtain ⟨f1, f2, f3⟩ := of_decide_eq_true hfit
  obtain ⟨h, hd_, d1, d2, d3, d4⟩ := s_data hR hS
  have hon := oN_le ms
  have hlm : (lM snd an).length = if an.isSome = true then 1 else 0 := by cases an <;> rfl
  have h6 : (abxF bx ts (pF p)).length ≤ 6 := by rw [abx_len]; exact q5
  have hsl : snd.length ≤ 101 := hRs.2.1
  have hmul : ((pF p).length + (pDr p).length) * tx.length = (pF p).length * tx.length + (pDr p).length * tx.length := Nat.add_mul _ _ _
  have hl : ms.length + (pF p).length + (pDr p).length + (lM snd an).length ≤ 400 := by rw [hlm]; omega
  obtain ⟨s1, bg1, a1, a2, a3, a4, a5, a6, a7, a8⟩ := c_plan (today := dy) (tx := tx) (snd := snd) (an := an) hu hn hn2 hm2 hC hbx q5 d1 hA.1 (fun x hx => ⟨(hA.2 x hx).1, hAl x hx⟩) hT h3 hs hB hbg hM hN hd hl
  have hhd : 0 < pvc p → rHd t (pnv p) h ∧ h < ts.length ∧ ts.getD h [] = hd_ := fun z => ⟨(d4 z).1, (d4 z).2.1, (d4 z).2.2.1⟩
  obtain ⟨t1, b1, b2, b3, b4, b5, b6⟩ := r_plan (today := dy) (tx := tx) (snd := snd) (an := an) (aw := aw) (hd := hd_) hu hR hbx hds h6 d2 q1 d3 (fun x hx => (hA.2 x hx).2) hRT hRs hRB h89 hRM hRN hO.z hO.1 hdt hl (by rw [hlm]; omega) (by omega) hw1 hhd
  refine ⟨s1, t1, a1, b1, ⟨fun v hv => ?_, fun v hv => ?_, fun v hv => ?_, fun v hv => ?_, _, _, a2, b2, ?_, by omega⟩, a6, b6, a7, a8⟩
  · by_cases c : v = u
    · subst c
      refine ⟨_, bg1, bxO_abx hbx h6 (fun j hj => ?_), a3, a4, b3⟩
      unfold nbsF at hj
      rw [List.mem_filterMap] at hj
      obtain ⟨q, y1, y2⟩ := hj
      have e : q.1 = some j := by
        unfold nbf at y2
        split at y2
        · cases y2
        · exact y2
      obtain ⟨bg2, w1, w2, w3, w4⟩ := hR.1
      exact ⟨w4 j, (bxn_len (d2 q y1 j e).2).2⟩
    · obtain ⟨bx', bg', x1, x2, x3, x4⟩ := hw.1 v hv
      exact ⟨bx', bg', x1, x2.oc a6 (by omega) (fun f z => by unfold plI smI naI at z; omega) (fun j f y1 y2 z => by unfold plF tF at z; omega), x3, x4.gn b6 c x1⟩
  · by_cases c : v = u
    · subst c
      have e : (if an.isSome = true ∧ 0 < pvc p then ntA ns (dy, snd, hd_) else ns) = if aw = true then ntA ns (dy, snd, hd_) else ns := by
        cases aw with
        | true => rw [if_pos ⟨(hw1 rfl).2, (hw1 rfl).1⟩, if_pos rfl]
        | false =>
          rw [if_neg (fun z => by have := hw2 z.1 rfl; omega), if_neg (by decide)]
      rw [e] at a5
      refine ⟨_, ?_, a5, b4⟩
      cases aw with
      | true =>
        rw [if_pos rfl]
        obtain ⟨-, -, -, y1, y2⟩ := d4 (hw1 rfl).1
        exact ntO_A hO hsl hbs y1 y2
      | false => rw [if_neg (by decide)]; exact hO
    · obtain ⟨ns', x1, x2, x3⟩ := hw.2.1 v hv
      exact ⟨ns', x1, x2.oc a6 hv hn (fun k f y z => by have := plI_n hu z; omega) (fun k f y z => by have := plF_n hu z; omega) low_no (by unfold plI smI naI; omega) (fun f z => by unfold plP smP naP at z; omega), b5 v ns' hv c x1.z x1.1 x3⟩
  · obtain ⟨scs, ac, ⟨es, x1⟩, sl, x2⟩ := hw.2.2.1 v hv
    refine ⟨scs, ac, ⟨es, x1.fr a6.1 a6.2.1 (a6.2.2.2.1 _ _ (by omega) (by unfold plI smI naI; omega)) (a6.P (by omega) (fun f z => by unfold plP smP naP at z; omega)) (a6.2.2.2.2.2.1 _ _ (by omega) (fun z => z)) (fun i hi => ?_) (fun k y1 y2 => a6.F y2 (fun f z => by have := plF_n hu z; omega))⟩, sl, ?_⟩
    · obtain ⟨-, y⟩ := x1.2.2.2.1 i hi
      exact a6.R y.1 (fun f z => z)
    · exact x2.fr (b6.2.2.1 _ _ (by unfold gnF mbF gbF; omega)) (b6.2.2.1 _ _ (by unfold gnF mbF gbF; omega)) (fun f _ _ => ⟨b6.2.2.1 _ _ (by unfold gnF mbF gbF; omega), b6.2.2.1 _ _ (by unfold gnF mbF gbF; omega), b6.2.2.1 _ _ (by unfold gnF mbF gbF; omega)⟩) (fun f _ _ => b6.2.2.1 _ _ (by unfold gnF mbF gbF; omega)) (fun f _ _ => b6.2.2.2 _ _ (by unfold gnL; omega))
  · obtain ⟨xs, x1, x2, x3⟩ := hw.2.2.2.1 v hv
    have hq := qk_lt hv
    have hq2 : qk v ≠ 988 + 16 * u ∧ qk v ≠ 985 + 16 * u ∧ qk v + 1 ≠ 989 + 16 * u ∧ qk v + 1 ≠ 990 + 16 * u ∧ qk v + 1 ≠ 991 + 16 * u := by
      unfold qk
      split <;> omega
    exact ⟨xs, x1.fr (a6.I (by omega) (fun f z => by unfold plI smI naI at z; omega)) (a6.F (by omega) (fun f z => by unfold plF tF at z; omega)), x2.fr (funext fun f => b6.2.2.1 _ _ (by unfold gnF mbF gbF; omega)) (funext fun f => b6.2.2.1 _ _ (by unfold gnF mbF gbF; omega)), x3⟩
  · have e1 : oN (ms ++ flM u tx (cfF bx ts (pF p)) ++ sdM ts tx (pDr p) ++ lM snd an) = oN ms + (pDr p).length + (lM snd an).length := by
      cases an with
      | none =>
        rw [show lM snd none = [] from rfl, List.append_nil, sdM_oN, flM_oN hu]
        rfl
      | some x =>
        rw [show lM snd (some x) = [oMl snd x] from rfl, oN_o, sdM_oN, flM_oN hu]
        rfl
    have e2 : (ms ++ flM u tx (cfF bx ts (pF p)) ++ sdM ts tx (pDr p) ++ lM snd an).length = ms.length + (pF p).length + (pDr p).length + (lM snd an).length := by
      rw [List.length_append, List.length_append, List.length_append]
      unfold flM sdM
      rw [List.length_map, List.length_map, cf_len]
    rw [e1, e2]
    omega
