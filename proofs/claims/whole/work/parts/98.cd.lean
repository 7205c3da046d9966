/-! the lexers: words, texts; the next token -/
theorem isWs_x {x : List Nat} {q : Nat} (h : isWs (x.getD q 0) = true) : q < x.length := by
  apply Classical.byContradiction
  intro z
  rw [getDn_out (by omega)] at h
  exact absurd h (by decide)
theorem n_word {k fr : Nat} {x : List Nat} {ts : List (List Nat)} {bg q : Nat} {s t : uS} (h : tk0 k fr x ts bg q s t) (hw : isWs (x.getD q 0) = true) : ∃ (s1 t1 t2 : uS) (v : Int32) (e : Nat), ((fn_X2_readWord (nI (fr + q)) 0 s).bind fun s18 => (fn_X2_linesOfText s18).bind fun v20 => if v20 < 0 then (some s18) else ((fn_X2_readText v20 s18).bind fun s23 => some s23)) = some s1 ∧ fn_X12_word t = some (t1, v) ∧ fb_X12_next_34 v t1 = some t2 ∧ out lnI' lqF s s1 ∧ out rnI (rqP bg) t t2 ∧ tok k fr x ts bg q e s1 t2 := by
  obtain ⟨hg, h1, h2, h3, h4⟩ := h
  have hgg := hg
  obtain ⟨g1, g2, g3, g4, g5, g6, g7⟩ := hg
  have hx := g1.2.2.1
  have hfr := g1.2.2.2.1
  have hq := isWs_x hw
  have hb := g1.by
  have hle := we_le (x := x) (p := q) (by omega)
  have hlt : q < we x q := by
    have e1 : we x q = we x (q + 1) := by rw [we_s, if_pos ⟨hq, by unfold isWb; rw [hw]; rfl⟩]
    have := we_le (x := x) (p := q + 1) (by omega)
    omega
  generalize hE : we x q = e at *
  -- the word
  have c1 := c_wordL (kd := 0) uFu q (wI (wI s 7 7 (nI (fr + q))) 7 8 (nI (fr + q))) ((g1.I (by decide)).to (by omega)) (by show _ < q + 1000000; omega)
  rw [wI_wI, hE] at c1
  have c1' : fn_X2_readWord (nI (fr + q)) 0 s = some (wI (wI (wI s 7 7 (nI (fr + q))) 7 8 (nI (fr + e))) 7 2 0) := c1
  have r1 := r_wordL (a := q) uFu q (wI t 1079 33 (nI q)) (g2.fr (wI_o (by omega)) rfl ((wI_o (by omega)).trans g2.2.2.2.2.1) (by omega)) (wI_e _ _ _ _) (Nat.le_refl _) (by show _ < q + 1000000; omega)
  rw [hE] at r1
  have r1' : fn_X12_wordOf t = some (wI (wI (wI t 1079 33 (nI q)) 1079 30 (nI e)) 1079 34 (nI (e - q))) := by
    unfold fn_X12_wordOf
    rw [g2.2.2.2.2.1]
    exact r1
  have oS : out lnI' lqF s (wI (wI (wI s 7 7 (nI (fr + q))) 7 8 (nI (fr + e))) 7 2 0) := out_I (out_I (out_I out_r (Or.inl ⟨rfl, by omega⟩)) (Or.inl ⟨rfl, by omega⟩)) (Or.inl ⟨rfl, by omega⟩)
  have oT : out rnI (rqP bg) t (wI (wI (wI t 1079 33 (nI q)) 1079 30 (nI e)) 1079 34 (nI (e - q))) := out_I (out_I (out_I out_r ⟨rfl, by omega⟩) ⟨rfl, by omega⟩) ⟨rfl, by omega⟩
  have lS : lxC (wI (wI (wI s 7 7 (nI (fr + q))) 7 8 (nI (fr + e))) 7 2 0) k fr x e := ((g1.I (f := 7) (by decide)).to hle.2).I (by decide)
  have lT : lxR (wI (wI (wI t 1079 33 (nI q)) 1079 30 (nI e)) 1079 34 (nI (e - q))) x e := g2.fr ((wI_o (by omega)).trans ((wI_o (by omega)).trans (wI_o (by omega)))) rfl ((wI_o (by omega)).trans (wI_e _ _ _ _)) hle.2
  have hS77 : (wI (wI (wI s 7 7 (nI (fr + q))) 7 8 (nI (fr + e))) 7 2 0).I 7 7 = nI (fr + q) := (wI_o (by omega)).trans ((wI_o (by omega)).trans (wI_e _ _ _ _))
  have hS76 : (wI (wI (wI s 7 7 (nI (fr + q))) 7 8 (nI (fr + e))) 7 2 0).I 7 6 = nI (fr + q) := ((wI_o (by omega)).trans ((wI_o (by omega)).trans (wI_o (by omega)))).trans g6
  have hS72 : (wI (wI (wI s 7 7 (nI (fr + q))) 7 8 (nI (fr + e))) 7 2 0).I 7 2 = 0 := wI_e _ _ _ _
  have hT33 : (wI (wI (wI t 1079 33 (nI q)) 1079 30 (nI e)) 1079 34 (nI (e - q))).I 1079 33 = nI q := (wI_o (by omega)).trans ((wI_o (by omega)).trans (wI_e _ _ _ _))
  have hT34 : (wI (wI (wI t 1079 33 (nI q)) 1079 30 (nI e)) 1079 34 (nI (e - q))).I 1079 34 = nI (e - q) := wI_e _ _ _ _
  have hT37 : (wI (wI (wI t 1079 33 (nI q)) 1079 30 (nI e)) 1079 34 (nI (e - q))).I 1079 37 = nI bg := ((wI_o (by omega)).trans ((wI_o (by omega)).trans (wI_o (by omega)))).trans g4
  have hT40 : (wI (wI (wI t 1079 33 (nI q)) 1079 30 (nI e)) 1079 34 (nI (e - q))).I 1079 40 = -1 := ((wI_o (by omega)).trans ((wI_o (by omega)).trans (wI_o (by omega)))).trans g5
  have hT32 : (wI (wI (wI t 1079 33 (nI q)) 1079 30 (nI e)) 1079 34 (nI (e - q))).I 1079 32 = nI q := ((wI_o (by omega)).trans ((wI_o (by omega)).trans (wI_o (by omega)))).trans g7
  have hSz : cTz (wI (wI (wI s 7 7 (nI (fr + q))) 7 8 (nI (fr + e))) 7 2 0) 8 2000 301 ts bg [] := g3.fr ((wI_o (by omega)).trans ((wI_o (by omega)).trans (wI_o (by omega)))) ((wI_o (by omega)).trans ((wI_o (by omega)).trans (wI_o (by omega)))) ((wI_o (by omega)).trans ((wI_o (by omega)).trans (wI_o (by omega)))) rfl rfl rfl
  have hScl : (uCl (wI (wI (wI s 7 7 (nI (fr + q))) 7 8 (nI (fr + e))) 7 2 0) k).2 ≤ 10000 := h1
  rw [c1', Option.bind_some]
  unfold fn_X12_word fn_X2_linesOfText
  rw [r1', Option.bind_some]
  generalize wI (wI (wI s 7 7 (nI (fr + q))) 7 8 (nI (fr + e))) 7 2 0 = S at *
  generalize wI (wI (wI t 1079 33 (nI q)) 1079 30 (nI e)) 1079 34 (nI (e - q)) = T at *
  have hwi := r_wordIs (w := kW_75) lT hT33 hT34 (by omega) hle.2 (by unfold lwc; decide) (by decide)
  have hpl := c_place (W := kW_35) (lS.2.1.sub (show q ≤ e by omega) hle.2) (by decide) (by decide)
  rw [sub_len hle.2 (by omega), show fr + q + (e - q) = fr + e by omega, plc_wix] at hpl
  have hwx : wix (sub x q e) ((spl kW_35).1 :: (spl kW_35).2) 0 = if eqW (sub x q e) kW_75 = true then some 0 else none := rfl
  rw [hwx] at hpl
  have word : ∃ (s1 t1 t2 : uS) (v : Int32) (e' : Nat), some S = some s1 ∧ some (T, (1 : Int32)) = some (t1, v) ∧ fb_X12_next_34 v t1 = some t2 ∧ out lnI' lqF s s1 ∧ out rnI (rqP bg) t t2 ∧ tok k fr x ts bg q e' s1 t2 := by
    refine ⟨S, T, _, 1, e, rfl, rfl, r_fin (by decide), oS, out_I oT ⟨rfl, by omega⟩, Or.inr (Or.inl ⟨hlt, ⟨lS, lT.fr (wI_o (by omega)) rfl ((wI_o (by omega)).trans lT.2.2.2.2.1) hle.2, hSz, (wI_o (by omega)).trans hT37, (wI_o (by omega)).trans hT40, hS76, (wI_o (by omega)).trans hT32⟩, hS72, wI_e _ _ _ _, hS77, (wI_o (by omega)).trans hT33, (wI_o (by omega)).trans hT34⟩)⟩
  rw [lS.2.2.2.2.2.2.1, lS.byteAt (by omega), Option.bind_some, hS77, lS.1, Option.bind_some, hpl, Option.bind_some, hwi, Option.bind_some, lT.peek0, Option.bind_some]
  by_cases cw : eqW (sub x q e) kW_75 = true
  · rw [if_pos cw, if_pos cw, oI_s]
    by_cases ce : e < x.length ∧ x.getD e 0 = 58
    · have b58 : sb (x.getD e 0) = (58 : Int32) := (sb_e (hb e) (by decide)).mpr ce.2
      rw [if_pos ce.1, if_pos b58, if_pos (show nI 0 = 0 from rfl), if_pos ce.1, if_pos (show nI (x.getD e 0) = 58 by rw [ce.2]; rfl), nI_1, show fr + e + 1 = fr + (e + 1) by omega, c_lines lS (by omega), Option.bind_some]
      -- the reference
      have hbl : blx x uFu (e + 1) = bl x (e + 1) := by
        show blx x 1000000 (e + 1) = _
        rw [show 1000000 = x.length + (1000000 - x.length) by omega]
        exact blx_add _
      have hll := r_linesB uFu (e + 1) (wI T 1079 30 (nI (e + 1))) (lT.to (by omega)) (by show _ < e + 1 + 1000000; omega)
      rw [hbl, wI_wI, wI_wI, wI_o (show ¬ (1079 = 1079 ∧ 37 = 30) by decide), hT37] at hll
      have hlr : fn_X12_lines T = fn_X12_lines_10 uFu (wI T 1079 30 (nI (e + 1))) := by
        unfold fn_X12_lines
        rw [lT.2.2.2.2.1, nI_1]
      have hble : e + 1 ≤ bl x (e + 1) ∧ bl x (e + 1) ≤ x.length := blx_le (by omega)
      rw [bind_id, hlr, hll]
      unfold ltx
      have hev := eAt_v x (bl x (e + 1))
      by_cases c0 : eAt x (bl x (e + 1)) = 0
      · rw [if_pos c0, if_pos c0]
        dsimp only
        rw [if_pos (show (-1 : Int32) < 0 by decide)]
        refine ⟨S, _, _, 5, e, rfl, rfl, r_fin5 (q := q) (n := x.length) ((wI_o (by omega)).trans hT32) ((wI_o (by omega)).trans hT40) ((wI_o (by omega)).trans lT.1), oS, out_t oT (out_t (out_I out_r ⟨rfl, by omega⟩) (out_w rBad_out (fun _ _ z => z) (fun _ _ z => z.elim))), Or.inr (Or.inr (Or.inr (Or.inr (Or.inr (Or.inr ⟨by omega, lS.1, lS.2.1, lS.2.2.2.2.1, hS76, rBad_v.1, rBad_v.2, Or.inr ⟨hS72, hlt, lS, hS77, cw⟩⟩)))))⟩
      · rw [if_neg c0, if_neg c0]
        dsimp only
        rw [if_neg (nI_pos (by omega))]
        generalize hL : bl x (e + 1) + eAt x (bl x (e + 1)) = L at *
        have hc := c_txt h2 h3 uFu L (wI S 7 2 6) [] e (lS.I (by decide)) hScl (wI_e _ _ _ _) (hSz.fr (wI_o (by omega)) (wI_o (by omega)) (wI_o (by omega)) rfl rfl rfl) (by show _ < L + 1000000; omega) (by omega) (by show 0 ≤ 1000; omega) (by show bg + 0 ≤ L; omega)
        obtain ⟨s1, y1, y2, y3⟩ := hc
        have y1' : fn_X2_readText (nI (fr + L)) S = some s1 := y1
        have hr := r_txt (x := x) (bg := bg) uFu L (wI (wI T 1079 30 (nI L)) 1079 38 (nI bg)) [] ⟨lT.fr ((wI_o (by omega)).trans (wI_o (by omega))) rfl ((wI_o (by omega)).trans (wI_e _ _ _ _)) (by omega), ((wI_o (by omega)).trans (wI_o (by omega))).trans hT37, wI_e _ _ _ _, fun j hj => absurd hj (Nat.not_lt_zero j), by show 0 ≤ 1000; omega, by show bg + 0 ≤ L; omega⟩ (by show _ < L + 1000000; omega)
        obtain ⟨t1, z1, z2⟩ := hr
        have oS1 : out lnI' lqF s s1 := out_t oS (out_t (out_I out_r (Or.inl ⟨rfl, by omega⟩)) (lqW y2))
        have oT1 : out rnI (rqP bg) t t1 := out_t oT (out_t (out_I (out_I out_r ⟨rfl, by omega⟩) ⟨rfl, by omega⟩) (rqW z1.1 z1.2))
        have s76 : s1.I 7 6 = nI (fr + q) := by rw [y2.2.1 _ _ (by unfold lqI; omega), wI_o (by omega)]; exact hS76
        have t32 : t1.I 1079 32 = nI q := by rw [z1.1.2.1 _ _ (by unfold rqI; omega), wI_o (by omega), wI_o (by omega)]; exact hT32
        have t40 : t1.I 1079 40 = -1 := by rw [z1.1.2.1 _ _ (by unfold rqI; omega), wI_o (by omega), wI_o (by omega)]; exact hT40
        have t29 : t1.I 1079 29 = nI x.length := by rw [z1.1.2.1 _ _ (by unfold rqI; omega), wI_o (by omega), wI_o (by omega)]; exact lT.1
        rw [y1', Option.bind_some]
        cases hv : tl x uFu L [] with
        | none =>
          rw [hv] at y3 z2
          exact ⟨s1, t1, _, 5, q, rfl, z2, r_fin5 t32 t40 t29, oS1, out_t oT1 (out_w rBad_out (fun _ _ z => z) (fun _ _ z => z.elim)), hgg.B h2 oS1 (s76.trans g6.symm) y3 rBad_v.1 rBad_v.2⟩
        | some w =>
          obtain ⟨str, e'⟩ := w
          rw [hv] at y3 z2
          obtain ⟨w1, w2, w3⟩ := y3
          obtain ⟨v1, v2, v3, v4, v5, v6⟩ := z2
          obtain ⟨u1, u2, u3, u4, u5⟩ := tl_by hb bys_nil (by show 0 ≤ 1000; omega) (show L ≤ x.length by omega) hv
          rw [show ([] : List Nat).length = 0 from rfl] at u5
          refine ⟨s1, t1, _, 4, e', rfl, v1, r_fin (by decide), oS1, out_I oT1 ⟨rfl, by omega⟩, Or.inr (Or.inr (Or.inr (Or.inr (Or.inr (Or.inl ⟨by omega, str, ?_, ⟨?_, (wI_o (by omega)).trans v3, (wI_o (by omega)).trans v4, (wI_o (by omega)).trans v5, v6⟩, w3, by omega, u2, u1, (wI_o (by omega)).trans t40, s76, (wI_o (by omega)).trans t32, w1, wI_e _ _ _ _⟩)))))⟩
          · obtain ⟨k1, k2, k3, k4, k5, k6, k7, k8⟩ := g1
            refine ⟨by rw [oS1.1.2.1]; exact k1, k2.fr oS1.1.1 oS1.1.2.2.2.2.1 (funext fun f => oS1.2.2 _ _ (by unfold lqF; omega)), k3, k4, ?_, ?_, w2, u4⟩
            · rw [oS1.2.1 _ _ (by unfold lnI'; omega)]; exact k5
            · rw [oS1.2.1 _ _ (by unfold lnI'; omega)]; exact k6
          · exact v2.fr (wI_o (by omega)) rfl ((wI_o (by omega)).trans v2.2.2.2.2.1) u4
    · have n58 : ¬ (if e < x.length then sb (x.getD e 0) else -1) = (58 : Int32) := by
        by_cases z : e < x.length
        · rw [if_pos z]; exact fun y => ce ⟨z, (sb_e (hb e) (by decide)).mp y⟩
        · rw [if_neg z]; decide
      have n58' : ¬ (if e < x.length then nI (x.getD e 0) else -1) = (58 : Int32) := by
        by_cases z : e < x.length
        · have b1 := hb e
          rw [if_pos z]; exact fun y => ce ⟨z, (nI_eq (by omega) (by decide)).mp (show nI (x.getD e 0) = nI 58 from y)⟩
        · rw [if_neg z]; decide
      rw [if_neg n58, Option.bind_some, if_neg n58', if_pos (show (-1 : Int32) < 0 by decide)]
      exact word
  · rw [if_neg cw, if_neg cw, oI_n, if_neg (show ¬ (-1 : Int32) = 0 by decide), ite_self, Option.bind_some, if_pos (show (-1 : Int32) < 0 by decide)]
    exact word
