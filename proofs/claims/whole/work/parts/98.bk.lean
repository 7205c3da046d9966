/-! PUTSCRIPT: over an elder script, or a new one -/
theorem getG_app {α : Type} {l : List α} {x d : α} {i : Nat} (h : i < l.length) : (l ++ [x]).getD i d = l.getD i d := by
  rw [List.getD_eq_getElem?_getD, List.getD_eq_getElem?_getD, List.getElem?_append_left h]
theorem getG_end {α : Type} {l : List α} {x d : α} : (l ++ [x]).getD l.length d = x := by
  rw [List.getD_eq_getElem?_getD, List.getElem?_append_right (Nat.le_refl _), Nat.sub_self]
  rfl
theorem uIs_oc {PI PF PR PP : Nat → Nat → Prop} {s s1 : uS} {e : Nat} (o : oc PI PF PR PP s s1) (h : e < s.n) (h1 : 1171 ≤ e) (hc : (s.c e).1 = 1) : uIs s1 e 1 := by
  refine ⟨Or.inr (by have := o.1; omega), ?_⟩
  unfold uCl
  rw [if_neg (by omega), o.2.1 _ h]
  exact hc
theorem m_over {u : Nat} (hu : u < 4) {s t s1 t1 : uS} {ts : List (List Nat)} {bg : Nat} {scs : List (List Nat × List Nat)} {ac : Option Nat} {es sl : List Nat} {i : Nat} (hroom : 1171 ≤ s.n ∧ s.n + 3 ≤ 600000 ∧ s.m + 2030 ≤ 7302250) (hm : pMid u s t s1 t1) (hn : s1.n = s.n) (hmm : s1.m = s.m) (htz : cTz s1 (978 + 16 * u + 1) 6000 3 ts bg []) (hts : 1 < ts.length) (hx : (ts.getD 1 []).length ≤ 2000) (hgd : gdS (ts.getD 1 [])) (hscr : ∀ k : Nat, (∃ i : Nat, i < scs.length ∧ k = es.getD i 0) → isScr s u k) (h4 : cSc s1 u es scs ac) (h5 : rSc t1 u sl scs ac) (hi : i < scs.length) (hI : t1.I 1079 29 = nI (ts.getD 1 []).length) (hF : ∀ j : Nat, j < (ts.getD 1 []).length → t1.F 1096 j = nI ((ts.getD 1 []).getD j 0)) : ∃ s2 t2 : uS, ∃ b : Bool, fb_X11_takeScript_94 (nI u) (978 + 16 * u + 1) (some (es.getD i 0)) s1 = some s2 ∧ fb_X12_putScript_47 (nI u) (nI i) t1 = some (t2, b) ∧ cmdR u s t s2 t2 b := by
  have hu5 : u < 5 := by omega
  have hl := h4.2.1
  obtain ⟨q1, q2, q3, q4⟩ := h5.2.2.2.1 i hi
  unfold fb_X11_takeScript_94 fb_X12_putScript_47 fb_X12_putScript_78 fb_X12_putScript_120
  show ∃ s2 t2 : uS, ∃ b : Bool, ((fn_X11_commit s1).bind _) = some s2 ∧ _ ∧ _
  rcases mid_commit hu hm with ⟨a, b, c1, c2, c3⟩ | ⟨s2, t2, c1, c2, c3⟩
  · rw [c1, c2, Option.bind_some, Option.bind_some, if_pos rfl, if_pos rfl]
    simp only [if_pos (nI_pos' (show i < 2 ^ 31 by omega))]
    have h4' : cSc (wI (wI s1 0 15 a) 0 14 b) u es scs ac := h4.fr (Nat.le_refl _) (fun _ _ => rfl) ((wI_o (by omega)).trans (wI_o (by omega))) rfl rfl (fun _ _ => rfl) (fun _ _ _ => rfl)
    have htz' : cTz (wI (wI s1 0 15 a) 0 14 b) (978 + 16 * u + 1) 6000 3 ts bg [] := htz.fr ((wI_o (by omega)).trans (wI_o (by omega))) ((wI_o (by omega)).trans (wI_o (by omega))) ((wI_o (by omega)).trans (wI_o (by omega))) rfl rfl rfl
    have hn' : (wI (wI s1 0 15 a) 0 14 b).n = s.n := hn
    have hm' : (wI (wI s1 0 15 a) 0 14 b).m = s.m := hmm
    obtain ⟨s2, e1, e2, e3, e4, e5⟩ := c_copyOf (i := 1) (kOk_u hu).1 htz' hts (by omega) (by omega) (by omega)
    have e1' : fn_X9_copyOf (978 + 16 * u + 1) 1 (wI (wI s1 0 15 a) 0 14 b) = _ := e1
    have hse := (h4'.2.2.2.1 i hi).2
    have oce := e5 (cmI u) (cmF u) (cmR s u) (cmP u)
    have his : uIs s2 (es.getD i 0) 1 := uIs_oc oce hse.1 hse.2.1 hse.2.2.1
    simp (disch := omega) only [show (4 : Int32) = nI 4 from rfl, nI_mul, nI_add, g_1151, Option.bind_some]
    rw [show (wI (wI t1 1079 3 a) 1079 2 b).F 1151 (4 * u + i) = nI (sl.getD i 0) from q1]
    obtain ⟨t2, f1, f2, f3, f4⟩ := r_save (sl := sl.getD i 0) (t := wI (wI t1 1079 3 a) 1079 2 b) (x := ts.getD 1 []) (by omega) hx (by obtain ⟨fr, -, h⟩ := htz.2.2.2.2.2.2.2; exact (h 1 hts).1) (by rw [wI_o (by omega), wI_o (by omega)]; exact hI) hF
    rw [f1, Option.bind_some, pgt_usr hu, Option.bind_some, if_pos (so_usr hu)]
    unfold fn_X10_putScript
    show ∃ s2 t2 : uS, ∃ bb : Bool, (((fn_X9_copyOf (978 + 16 * u + 1) 1 (wI (wI s1 0 15 a) 0 14 b)).bind _).bind _) = some s2 ∧ _ ∧ _
    rw [e1', Option.bind_some, if_pos his, Option.bind_some, pgt_que hu5, Option.bind_some, if_pos (so_que hu5)]
    have hmid : pMid u s t (wR s2 (es.getD i 0) 1 (some s.n)) t2 := by
      obtain ⟨⟨dy, cm, ct, d1, d1'⟩, ⟨xs, x1, x2, x3⟩, -, d4, d5, d6⟩ := c3
      have hq := qk_u hu
      have kk : ∀ k f : Nat, k < 1171 → s2.I k f = (wI (wI s1 0 15 a) 0 14 b).I k f := fun k f hk => (e5 rNo rNo rNo rNo).2.2.2.1 k f (by omega) (fun z => z)
      have kf : ∀ k f : Nat, k < s.n → s2.F k f = (wI (wI s1 0 15 a) 0 14 b).F k f := fun k f hk => (e5 rNo rNo rNo rNo).2.2.2.2.1 k f (by omega) (fun z => z)
      have kr : ∀ k f : Nat, k < s.n → s2.R k f = (wI (wI s1 0 15 a) 0 14 b).R k f := fun k f hk => (e5 rNo rNo rNo rNo).2.2.2.2.2.1 k f (by omega) (fun z => z)
      have kp : ∀ k f : Nat, k < s.n → s2.P k f = (wI (wI s1 0 15 a) 0 14 b).P k f := fun k f hk => (e5 rNo rNo rNo rNo).2.2.2.2.2.2 k f (by omega) (fun z => z)
      have fF : ∀ k f : Nat, ¬ (k = 1155 ∧ f = sl.getD i 0) → t2.F k f = (wI (wI t1 1079 3 a) 1079 2 b).F k f := fun k f h => f4.2.2.1 k f h
      refine ⟨⟨dy, cm, ct, ?_, ?_⟩, ⟨xs, x1.fr ?_ ?_, ?_, x3⟩, ⟨scs.set i ((scs.getD i sc0).1, ts.getD 1 []), ac, ⟨es, ?_⟩, sl, ?_⟩, ?_, ?_, fun k hk z => d6 k hk (z.fr (kk _ _ (by omega)) (funext fun f => kp _ f (by omega)))⟩
      · obtain ⟨g1, g2, g3, g4, g5⟩ := d1
        exact ⟨(kk 0 _ (by decide)).trans g1, (kk 0 _ (by decide)).trans g2, (kk 0 _ (by decide)).trans g3, (kk 0 _ (by decide)).trans g4, g5⟩
      · obtain ⟨g1, g2, g3, g4, g5⟩ := d1'
        exact ⟨(f4.2.1 _ _ (fun z => z)).trans g1, (f4.2.1 _ _ (fun z => z)).trans g2, (f4.2.1 _ _ (fun z => z)).trans g3, (f4.2.1 _ _ (fun z => z)).trans g4, g5⟩
      · exact funext fun f => kk _ f (by omega)
      · exact funext fun f => kf _ f (by omega)
      · exact x2.fr (funext fun f => fF _ f (by omega)) (funext fun f => fF _ f (by omega))
      · refine cSc_set h4' hi (show _ ≤ s2.n by omega) (fun k hk => (e5 rNo rNo rNo rNo).2.1 k hk) (kk _ _ (by omega)) (funext fun f => kp _ f (by omega)) ?_ ?_ ?_ ?_
        · rw [wR_R, if_neg (by have := hse.2.1; omega)]; exact kr _ _ (by omega)
        · intro k hk hne
          funext f
          rw [wR_R, if_neg (fun z => hne z.1)]
          exact kr _ _ (by omega)
        · exact fun k _ hk => funext fun f => kf _ f (by omega)
        · obtain ⟨b2, b3, b4, ⟨nb, g1, g2, g3⟩, tb, z1, z2⟩ := hse
          refine ⟨show _ < s2.n by omega, b3, by show (s2.c _).1 = 1; rw [oce.2.1 _ b2]; exact b4, ⟨nb, ?_, g2, ?_⟩, s.n, by rw [wR_R, if_pos ⟨rfl, rfl⟩], by rw [hn'] at e4; exact e4⟩
          · rw [wR_R, if_neg (by omega), kr _ _ (by omega)]; exact g1
          · exact g3.fr (show _ ≤ s2.n by omega) (oce.2.1 _ g3.1) (funext fun f => kf _ f (by have := g3.1; omega))
      · refine rSc_set h5 hi ?_ ?_ ?_ ?_ ?_
        · exact fF _ _ (by omega)
        · exact fF _ _ (by omega)
        · exact funext fun f => fF _ f (by omega)
        · intro f hf
          refine ⟨fF _ _ (by omega), fF _ _ (by omega), fun j hj => fF _ _ (by omega), fun j hj => f4.2.2.2 _ _ (by unfold svL; omega)⟩
        · obtain ⟨⟨w1, w2, w3, w4⟩, -⟩ := q4
          refine ⟨⟨w1, w2, (fF _ _ (by omega)).trans w3, fun j hj => (fF _ _ (by omega)).trans (w4 j hj)⟩, ⟨hx, hgd⟩, (by obtain ⟨fr, -, h⟩ := htz.2.2.2.2.2.2.2; exact (h 1 hts).1), f2, f3⟩
      · exact oc_R (oc_t d4 oce) (Or.inl (Or.inr (Or.inr (hscr _ ⟨i, hi, rfl⟩))))
      · exact ol_t d5 (ol_w f4 (fun _ _ h => h.elim) (fun k f h => Or.inr (Or.inr (Or.inr (Or.inl ⟨Or.inr (Or.inr h.1), by omega, by omega⟩)))) (fun k f h => ⟨h.1, by unfold svL at h; omega, by unfold svL at h; omega⟩))
    obtain ⟨s3, t3, l1, l2, l3⟩ := cmd_line hu (w := kW_3) (by decide) hmid hroom.1 (show s2.n ≤ s.n + 3 by omega) (show s2.m ≤ s.m + 2030 by omega)
    refine ⟨s3, t3, true, ?_, by rw [show kW_204 = kW_3 from rfl, l2, Option.bind_some], l3⟩
    rw [hn', l1, Option.bind_some]
  · rw [c1, c2, Option.bind_some, Option.bind_some]
    exact ⟨s2, t2, false, rfl, rfl, cmdR.lost hm c3 (by omega) (by omega)⟩
