/-! require on both sides -/
theorem sh_bit : ∀ j : Fin 8, (1 : Int32) <<< (nI j.val &&& 31) = nI (2 ^ j.val) := by decide
theorem or_256 {g j : Nat} (hg : g < 256) (hj : j < 8) : g ||| 2 ^ j < 256 := Nat.or_lt_two_pow (n := 8) hg (Nat.pow_lt_pow_right (by decide) hj)
def rqL : List (List Nat) := (spl kW_41).1 :: (spl kW_41).2
theorem qw_77 : wdAt rqL kW_77 0 := ⟨by decide, by decide, by decide, by decide, by decide⟩
theorem qw_78 : wdAt rqL kW_78 1 := ⟨by decide, by decide, by decide, by decide, by decide⟩
theorem qw_79 : wdAt rqL kW_79 2 := ⟨by decide, by decide, by decide, by decide, by decide⟩
theorem qw_80 : wdAt rqL kW_80 3 := ⟨by decide, by decide, by decide, by decide, by decide⟩
theorem qw_81 : wdAt rqL kW_81 4 := ⟨by decide, by decide, by decide, by decide, by decide⟩
theorem qw_82 : wdAt rqL kW_82 5 := ⟨by decide, by decide, by decide, by decide, by decide⟩
theorem qw_83 : wdAt rqL kW_83 6 := ⟨by decide, by decide, by decide, by decide, by decide⟩
theorem qw_84 : wdAt rqL kW_84 7 := ⟨by decide, by decide, by decide, by decide, by decide⟩
/-- a string of require, and the token behind it, of the reference -/
def rqS (t : uS) : Option uS := (fn_X12_string t).bind fun r1 => if 0 ≤ (r1.1.I 1079 40) then fn_X12_next r1.1 else (fn_X12_require r1.2 r1.1).bind fun s4 => fn_X12_next s4
def rqK (K19 : Bool → Int32 → Bool → uS → Option uS) (b1 : Bool) (x2 : Int32) (s1 : uS) : Option uS := if b1 = true then ((fn_X12_isSign 44 s1).bind fun v4 => if v4 = true then (fb_X12_requires_101 K19 b1 (x2 + 1) true s1) else (fb_X12_requires_101 K19 b1 (x2 + 1) false s1)) else (fb_X12_requires_101 K19 b1 (x2 + 1) false s1)
theorem rqS_e {K : Bool → Int32 → Bool → uS → Option uS} {b1 : Bool} {x2 : Int32} {t : uS} : fb_X12_requires_56 K b1 x2 t = (rqS t).bind fun s1 => rqK K b1 x2 s1 := by
  unfold fb_X12_requires_56 rqS fb_X12_requires_75
  rw [Option.bind_assoc]
  congr 1
  funext r1
  by_cases z : 0 ≤ r1.1.I 1079 40
  · rw [if_pos z, if_pos z]; rfl
  · rw [if_neg z, if_neg z, Option.bind_assoc]; rfl
theorem fO.rqs {p : Nat} {t : uS} (h : fO p t) : FU p t (rqS t) := by
  unfold rqS
  refine h.st.vu fun t1 v hv h1 => ?_
  rw [if_pos h1.lt]; exact h1.nU
def r4 (x2 : Int32) (s : uS) : Option uS := (fb_X12_require_127 x2 s).bind fun s4 => fn_X12_next s4
def rqJ (k f : Nat) : Prop := (k = 6 ∧ (f = 5 ∨ f = 8)) ∨ k = 7 ∨ k = 8
def rqH (k f : Nat) : Prop := k = 9 ∨ k = 10 ∨ k = 11 ∨ k = 14 ∨ k = 15 ∨ ((k = 17 ∨ k = 18) ∧ f = 11)
def rrI (k f : Nat) : Prop := rLI k f ∨ (k = 1079 ∧ f = 64)
def rqG (k fr : Nat) (x : List Nat) (ts : List (List Nat)) (bg e : Nat) (σ : List (Nat × Nat)) (N M cn ob dp a : Nat) (s t : uS) (s1 : uS) (T1 : Nat) (t1 : uS) : Prop := ∃ (str : List Nat) (rq1 b1 e1 : Nat), e ≤ b1 ∧ pj k fr x (ts ++ [str]) (bg + str.length) b1 e1 σ N M cn ob dp rq1 T1 s1 t1 ∧ s1.F 18 11 = nI (a + 1) ∧ out rqJ rqH s s1 ∧ ol rrI (rLF ts.length bg) rNo t t1
theorem p_req1 {k fr : Nat} {x : List Nat} {ts : List (List Nat)} {bg b e : Nat} {σ : List (Nat × Nat)} {N M cn ob dp rq T y a : Nat} {s t : uS} (h : pj k fr x ts bg b e ((y, 11) :: σ) N M cn ob dp rq T s t) (ha : s.F 18 11 = nI a) (ha9 : a < 10) : RU x s t ((fn_X4_takeString (nI 11) s).bind fun r => fn_X4_parse_13 (999999 - T) r.2 (nI T + 1) r.1) (rqS t) (rqG k fr x ts bg e σ N M cn ob dp a s t) := by
  have hr := h.2.2.1
  have hk := h.2.2.2
  have hx := h.bl
  have hi : 0 < 320 := by decide
  have ha' : s.F (18 + 3 * 0) 11 = nI a := ha
  by_cases c3 : s.I 7 2 = 3
  · by_cases cl : 300 ≤ ts.length
    · have h83 : s.I 8 3 = nI (ts.length + 1) := by
        obtain ⟨a, str, -, -, g3, -⟩ := h.q c3
        rw [g3.1, List.length_append]; rfl
      have k3 := hk.2.2.1
      rw [show fn_X4_takeString (nI 11) s = some (s, 0) from c_tkm (i := 0) (l := 11) hi (by decide) c3 h83 cl (by omega), Option.bind_some]
      unfold rqS
      refine h.RU out_r ((h.strN (Or.inr cl)).vu fun t1 v hv h1 => ?_)
      rw [if_pos h1.lt]; exact h1.nU
    · obtain ⟨str, y1, y2, y3, y4, y5, y6, y7⟩ := h.str c3 (by omega)
      have hz := y2.2.2.1
      have hle : (ts ++ [str]).length = ts.length + 1 := by rw [List.length_append]; rfl
      obtain ⟨f0, a1, a2, a3, -⟩ := tz_rd uTx_str hz (i := ts.length) (by omega)
      rw [getD_last] at a2 a3
      have a1 : iget 20 s 10 (nI ts.length) = some (nI f0) := a1
      have a2 : iget 20 s 11 (nI ts.length) = some (nI (f0 + str.length)) := a2
      obtain ⟨v, v1, v2, v3⟩ := wds rqL str
      have hL : rqL.length = 8 := by decide
      rw [hL] at v1 v2
      have hV := rsW_o (t := t) (j := ts.length) (a := bg) (n := str.length)
      have sI : ∀ (W : List Nat) (j : Nat), wdAt rqL W j → fn_X12_stringIs (nI ts.length) W (rsW t ts.length bg str.length) = some (decide (v = j)) := by
        intro W j hW
        have := r_stringIs (j := ts.length) (w := W) y3.2.2.2.2.2.2.1 (by omega) (by omega) (by have := y2.2.2.2.2.2.2.2.2; have := y2.1.2.2.2.2.2.2.2; omega) (by rw [getD_last]; exact y7) hW.1 hW.2.1
        rw [this, getD_last, v3 W j hW]
      have t40 : (rsW t ts.length bg str.length).I 1079 40 = -1 := by
        rw [hV.2.1 _ _ (by unfold rnJ; omega), h.1.l.2.2.1]
      have ask : fn_X4_isAskedFor (16 + 3 * 0) (nI 11) (nI ts.length) s = (if v = 8 then some (wI s 6 8 (nI rq ||| 0), false) else some (wI s 6 8 (nI (rq ||| 2 ^ v)), true)) := by
        unfold fn_X4_isAskedFor fb_X4_isAskedFor_118
        rw [a1, Option.bind_some, a2, Option.bind_some, if_neg (show ¬ nI 11 = 2 by decide), if_neg (show ¬ nI 11 = 3 by decide), if_neg (show ¬ nI 11 = 4 by decide), if_neg (show ¬ nI 11 = 5 by decide), if_neg (show ¬ nI 11 = 6 by decide), if_neg (show ¬ nI 11 = 7 by decide), if_neg (show ¬ nI 11 = 8 by decide), if_neg (show ¬ nI 11 = 9 by decide), if_neg (show ¬ nI 11 = 10 by decide), if_pos (show nI 11 = 11 from rfl), c_place a3 (by decide) (by decide), Option.bind_some, plc_wix, show wix str ((spl kW_41).1 :: (spl kW_41).2) 0 = wix str rqL 0 from rfl, v2, h.2.1.2.2.2.2.2]
        by_cases z : v = 8
        · rw [if_pos z, if_pos z, if_neg (show ¬ (0 : Int32) ≤ -1 by decide), if_pos (show (-1 : Int32) < 0 by decide)]
        · rw [if_neg z, if_neg z, if_pos (show (0 : Int32) ≤ nI v from nI_le (a := 0) (Nat.zero_le _) (by omega)), if_neg (show ¬ nI v < 0 from nI_nlt (b := 0) (Nat.zero_le _) (by omega)), sh_bit ⟨v, by omega⟩, nI_or]
      unfold rqS
      rw [y1, Option.bind_some, if_neg (by dsimp only; rw [t40]; decide)]
      have chain : (fn_X12_require (nI ts.length) (rsW t ts.length bg str.length)).bind (fun s4 => fn_X12_next s4) = r4 (if v = 8 then 0 else nI (2 ^ v)) (rsW t ts.length bg str.length) := by
        unfold fn_X12_require r4
        rw [sI kW_77 0 qw_77, sI kW_78 1 qw_78, sI kW_79 2 qw_79, sI kW_80 3 qw_80, sI kW_81 4 qw_81, sI kW_82 5 qw_82, sI kW_83 6 qw_83, sI kW_84 7 qw_84]
        have : v = 0 ∨ v = 1 ∨ v = 2 ∨ v = 3 ∨ v = 4 ∨ v = 5 ∨ v = 6 ∨ v = 7 ∨ v = 8 := by omega
        rcases this with z | z | z | z | z | z | z | z | z <;> rw [z] <;> rfl
      refine Eq.mpr (congrArg (fun A => RU x s t _ A _) chain) ?_
      unfold r4 fb_X12_require_127 fb_X12_require_140
      by_cases z : v = 8
      · rw [if_pos z] at ask
        rw [show fn_X4_takeString (nI 11) s = some (_, 0) from c_tk3 (i := 0) (l := 11) hi (by decide) c3 y4 (by omega) ha' ha9 ask, Option.bind_some, if_pos z, if_pos rfl]
        refine h.RU (out_I out_r (Or.inl rfl)) ?_
        refine ((h.fl1 hV (wI_o (by omega)) y3.2.2.2.2.2.2.2).uu fun t1 h1 => ?_).uu fun t2 h2 => h2.nU
        exact FU.w (t := wI t1 1079 64 (t1.I 1079 64 ||| 0)) (ol_I ol_r (show rdI 1079 64 from ⟨rfl, by omega⟩)) ((h1.I (by decide) (by decide)).U)
      · rw [if_neg z] at ask
        have hp : 2 ^ v < 2 ^ 31 := Nat.pow_lt_pow_right (by decide) (by omega)
        have hp0 : 2 ^ v ≠ 0 := Nat.pos_iff_ne_zero.mp (Nat.pow_pos (by decide))
        rw [if_neg z, if_neg (show ¬ nI (2 ^ v) = 0 from nI_ne (b := 0) hp (by decide) hp0), Option.bind_some]
        have e64 : (rsW t ts.length bg str.length).I 1079 64 = nI rq := y3.2.2.2.2.1
        have h256 : rq ||| 2 ^ v < 256 := or_256 hk.2.2.2.2.2.2.2.2.2.2.2.1 (by omega)
        rw [e64, nI_or]
        have hpr : pr (ts ++ [str]) (bg + str.length) M cn ob dp (rq ||| 2 ^ v) (wI (rsW t ts.length bg str.length) 1079 64 (nI (rq ||| 2 ^ v))) := by
          obtain ⟨r1, r2, r3, r4, r5, r6, r7, r8⟩ := y3
          exact ⟨(wI_o (by omega)).trans r1, (wI_o (by omega)).trans r2, (wI_o (by omega)).trans r3, (wI_o (by omega)).trans r4, wI_e _ _ _ _, (wI_o (by omega)).trans r6, r7.out (fun _ _ => ⟨rfl, rfl⟩) (fun _ _ => rfl), r8⟩
        refine str_go (i := 0) (l := 11) (rq1 := rq ||| 2 ^ v) (S := wI s 6 8 (nI (rq ||| 2 ^ v))) (U := t) h hi (by decide) ha' ha9 c3 (by omega) y4 y2 y6 y5 ask (out_I out_r (Or.inr ⟨rfl, rfl⟩)) (wI_e _ _ _ _) h256 (ol_I hV ⟨rfl, by omega⟩) hpr ?_
        intro s1 t1 b1 e1 w1 w2 w3 w4
        refine ⟨str, rq ||| 2 ^ v, b1, e1, w1, w4, ?_, ?_, ?_⟩
        · rw [w2.2.2 _ _ (by unfold lqF; omega)]
          unfold tkc
          show ((wF _ (18 + 3 * 0) 11 (nI (a + 1))).F (18 + 3 * 0) 11) = _
          exact wF_e _ _ _ _
        · refine out_t (s1 := tkc (wI s 6 8 (nI (rq ||| 2 ^ v))) 0 11 a ts.length σ.length) ?_ (out_w w2 (fun k f z => by unfold lnI' at z; unfold rqJ; omega) (fun k f z => by unfold lqF at z; unfold rqH; omega))
          unfold tkc
          refine out_I (out_F ?_ (by unfold rqH; omega)) (by unfold rqJ; omega)
          split
          · exact out_F (out_I out_r (by unfold rqJ; omega)) (by unfold rqH; omega)
          · exact out_I out_r (by unfold rqJ; omega)
        · refine ol_t (ol_I (ol_I (ol_F (ol_F ol_r (Or.inr ⟨Or.inl rfl, Nat.le_refl _⟩)) (Or.inr ⟨Or.inr rfl, Nat.le_refl _⟩)) (Or.inl ⟨rfl, Or.inr (Or.inr rfl)⟩)) (Or.inr ⟨rfl, rfl⟩)) (ol_out (out_w w3 (fun k f z => by unfold rnI at z; unfold rrI rLI; omega) (fun k f z => by unfold rqP at z; exact Or.inl ⟨z.1, by omega⟩)))
  · rw [show fn_X4_takeString (nI 11) s = some (s, 0) from c_tk0 (i := 0) (l := 11) hi (by decide) c3, Option.bind_some]
    unfold rqS
    refine h.RU out_r ((h.strN (Or.inl c3)).vu fun t1 v hv h1 => ?_)
    rw [if_pos h1.lt]; exact h1.nU
