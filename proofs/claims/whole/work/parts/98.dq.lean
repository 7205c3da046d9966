/-! a choice on both sides -/
theorem nwN.pp {p0 : Nat × Nat} {σ : List (Nat × Nat)} {N cn ob rq : Nat} {κ p d : Int32} {s S : uS} (h : nwN (p0 :: σ) N cn ob rq κ p d s S) : nwN σ N cn ob rq κ p d s (wI S 6 5 (nI σ.length)) := by
  obtain ⟨h1, h2, h3⟩ := h
  exact ⟨h1.pop, h2.fr (fun f => wI_o (by omega)) (fun _ => rfl), out_I h3 (Or.inl rfl)⟩
theorem c_els {s : uS} {σ : List (Nat × Nat)} {N cn ob rq : Nat} (hm : pm ((4, 0) :: σ) N cn ob rq s) (hN : N < 320) (hl : σ.length < 100) : (∃ S : uS, fb_X4_startElse_23 (nI 0) s = some (S, 1) ∧ nwN ((5, N) :: (2, N) :: (4, 0) :: σ) N cn ob rq (nI 22) (nI 0) (nI 0) s S) ∧ (∃ S : uS, fb_X4_startElse_23 (nI 1) s = some (S, 1) ∧ nwN ((2, N) :: σ) N cn ob rq (nI 23) (nI 0) (nI 0) s S) ∧ fb_X4_startElse_23 (-1) s = some (wI s 6 5 (nI σ.length), 2) := by
  refine ⟨?_, ?_, ?_⟩
  · obtain ⟨S, q1, q2⟩ := c_new (cn := cn) (κ := 22) (p := 0) (d := 0) (s := s) hm out_r hN
    have g1 := q2.ps 2 N
    have g2 := g1.ps 5 N
    unfold fb_X4_startElse_23 fb_X4_startElse_46 fb_X4_startElse_67
    rw [if_pos (show (0 : Int32) ≤ nI 0 by decide), if_pos (show nI 0 = 0 from rfl), q1, Option.bind_some, if_neg (show ¬ nI 0 = 1 by decide)]
    dsimp only
    rw [show fn_X4_push 2 (nI N) S = some (psh S _ (nI 2) (nI N)) from c_push q2.h5 (by simp only [List.length_cons]; omega), Option.bind_some, if_pos (show nI 0 = 0 from rfl), show fn_X4_push 5 (nI N) (psh S ((4, 0) :: σ).length (nI 2) (nI N)) = some (psh _ _ (nI 5) (nI N)) from c_push g1.h5 (by simp only [List.length_cons]; omega), Option.bind_some]
    exact ⟨_, rfl, g2⟩
  · obtain ⟨S, q1, q2⟩ := c_new (cn := cn) (κ := 23) (p := 0) (d := 0) (s := s) hm out_r hN
    have g0 := q2.pp
    have g1 := g0.ps 2 N
    unfold fb_X4_startElse_23 fb_X4_startElse_46 fb_X4_startElse_67
    rw [if_pos (show (0 : Int32) ≤ nI 1 by decide), if_neg (show ¬ nI 1 = 0 by decide), q1, Option.bind_some, if_pos (show nI 1 = 1 from rfl)]
    dsimp only
    rw [q2.1.h1, show fn_X4_push 2 (nI N) (wI S 6 5 (nI σ.length)) = some (psh _ _ (nI 2) (nI N)) from c_push g0.h5 (by omega), Option.bind_some, if_neg (show ¬ nI 1 = 0 by decide)]
    exact ⟨_, rfl, g1⟩
  · unfold fb_X4_startElse_23
    rw [if_neg (by decide), c_pop hm, Option.bind_some]
theorem bhK_e {R1 R2 : uS → Option (uS × Int32)} {fu : Nat} {n a c : Int32} {t t2 : uS} (h : ((fn_X12_node 1 t).bind fun r9 => (iput 20 r9.1 1102 r9.2 a).bind fun s11 => (iput 20 s11 1104 r9.2 c).bind fun s13 => fn_X12_put n r9.2 s13) = some t2) : bhK R1 R2 fu n a c t = (fn_X12_isWord kW_93 t2).bind fun v18 => fn_X12_choice_8 R1 R2 fu n v18 t2 := by
  have e : bhK R1 R2 fu n a c t = (((fn_X12_node 1 t).bind fun r9 => (iput 20 r9.1 1102 r9.2 a).bind fun s11 => (iput 20 s11 1104 r9.2 c).bind fun s13 => fn_X12_put n r9.2 s13)).bind fun s15 => (fn_X12_isWord kW_93 s15).bind fun v18 => fn_X12_choice_8 R1 R2 fu n v18 s15 := by
    unfold bhK
    simp only [Option.bind_assoc]
  rw [e, h, Option.bind_some]
theorem elK_e {n a c : Int32} {t t2 : uS} (h : ((fn_X12_node 1 t).bind fun r9 => (iput 20 r9.1 1102 r9.2 a).bind fun s11 => (iput 20 s11 1104 r9.2 c).bind fun s13 => fn_X12_put n r9.2 s13) = some t2) : ((fn_X12_node 1 t).bind fun r9 => (iput 20 r9.1 1102 r9.2 a).bind fun s11 => (iput 20 s11 1104 r9.2 c).bind fun s13 => (fn_X12_put n r9.2 s13).bind fun s15 => some (s15, n)) = some (t2, n) := by
  have e : ((fn_X12_node 1 t).bind fun r9 => (iput 20 r9.1 1102 r9.2 a).bind fun s11 => (iput 20 s11 1104 r9.2 c).bind fun s13 => (fn_X12_put n r9.2 s13).bind fun s15 => some (s15, n)) = (((fn_X12_node 1 t).bind fun r9 => (iput 20 r9.1 1102 r9.2 a).bind fun s11 => (iput 20 s11 1104 r9.2 c).bind fun s13 => fn_X12_put n r9.2 s13)).bind fun s15 => some (s15, n) := by
    simp only [Option.bind_assoc]
  rw [e, h, Option.bind_some]
theorem fO.elk {p n c : Nat} {t : uS} {a : Int32} (hn : n < 520) (h : fO p t) : FV p t ((fn_X12_node 1 t).bind fun r9 => (iput 20 r9.1 1102 r9.2 a).bind fun s11 => (iput 20 s11 1104 r9.2 (nI c)).bind fun s13 => (fn_X12_put (nI n) r9.2 s13).bind fun s15 => some (s15, nI n)) :=
  (h.nd _).vv fun _ _ hv h1 => (h1.p1102 hv).uv fun _ h2 => (h2.p1104 hv).uv fun _ h3 => (h3.pt hn hv).uv fun _ h4 => h4.V hn
theorem brS.cn {B : Nat} {ts : List (List Nat)} {s t : uS} {z : Bool} {n i0 i M u w : Nat} (h : brS B ts s t z n i0 i M u w) (h0 : t.F 1098 n = nI 0) : cnR (B + 1) ts s t i0 i n M u w := by
  obtain ⟨L, h1, h2, h3⟩ := h
  have := brsR.lt h3
  exact ⟨by omega, by omega, by omega, 0, by omega, h3.k, Or.inr ⟨rfl, h0, L, h1, h3.tt⟩⟩
