/-! the calls that only look, and every call as one -/
theorem bx_all {dy : Nat} {s t : uS} (h : wW dy s t) : ∃ bxs : Nat → List (List Nat), ∀ u : Nat, u < 4 → bxO (bxs u) ∧ (∃ bg : Nat, cTz s (988 + 16 * u) 120 6 (bxs u) bg []) ∧ rBx t u (bxs u) := by
  have key : ∀ u : Nat, ∃ bx : List (List Nat), u < 4 → bxO bx ∧ (∃ bg : Nat, cTz s (988 + 16 * u) 120 6 bx bg []) ∧ rBx t u bx := by
    intro u
    by_cases hu : u < 4
    · obtain ⟨bx, bg, a, b, c, d⟩ := h.1 u hu
      exact ⟨bx, fun _ => ⟨a, ⟨bg, b⟩, d⟩⟩
    · exact ⟨[], fun z => absurd z hu⟩
  exact ⟨fun u => Classical.choose (key u), fun u => Classical.choose_spec (key u)⟩
def mbs (bx : List (List Nat)) : List (List Int32) := bx.map (List.map sb)
theorem mbs_len (bx : List (List Nat)) : (mbs bx).length = bx.length := List.length_map ..
theorem mbs_at {bx : List (List Nat)} {b : Nat} (h : b < bx.length) : (mbs bx).getD b [] = (bx.getD b []).map sb := by
  unfold mbs
  rw [getD_ge _ _ (by rw [List.length_map]; exact h), List.getElem_map, getD_ge _ _ h]
theorem cX_of {s : uS} {u bg : Nat} {bx : List (List Nat)} (ho : bxO bx) (h : cTz s (988 + 16 * u) 120 6 bx bg []) : cX s u (mbs bx) := by
  obtain ⟨h1, h2, h3, h4, h5, h6, h7, fr, f1, f2⟩ := h
  refine ⟨by rw [mbs_len]; exact h2, by rw [mbs_len]; exact h1, fun b hb => ?_⟩
  rw [mbs_len] at hb
  obtain ⟨a1, a2, a3, a4, a5⟩ := f2 b hb
  rw [mbs_at hb, List.length_map]
  have hend := fr_end (fun i hi => (f2 i hi).2.2.2.1) hb
  rw [f1] at hend
  have h5' : bg + 0 ≤ 120 := h5
  refine ⟨(ho.2.2.2 b).2, fr b, by omega, by rw [show 990 + 16 * u = 988 + 16 * u + 2 by omega]; exact a2, by rw [show 991 + 16 * u = 988 + 16 * u + 3 by omega]; exact a3, fun j hj => ?_⟩
  rw [getD_msb hj, show 989 + 16 * u = 988 + 16 * u + 1 by omega]
  exact a5 j hj
theorem rX_of {t : uS} {u : Nat} {bx : List (List Nat)} (ho : bxO bx) (h : rBx t u bx) : rX t u (mbs bx) := by
  refine ⟨by rw [mbs_len]; exact ho.2.1, by rw [mbs_len]; exact h.1, fun b hb => ?_⟩
  rw [mbs_len] at hb
  obtain ⟨a1, a2⟩ := h.2 b hb
  rw [mbs_at hb, List.length_map]
  refine ⟨(ho.2.2.2 b).2, a1, fun j hj => ?_⟩
  rw [getD_msb hj, sb_and ((ho.2.2.2 b).1 j)]
  exact a2 j hj
theorem g_q {j : Nat} {s : uS} (h : gJ j s s) : ∃ (ms : List aM) (ns : Nat → List (List Int32)), cM s ms ∧ rM s ms ∧ rO s ms ∧ (∀ u : Nat, u < 4 → cX s u (ns u)) ∧ ∀ u : Nat, u < 4 → rX s u (ns u) := by
  obtain ⟨dy, κ, τ, pw, bs, w, hK, -⟩ := h
  obtain ⟨bxs, hb⟩ := bx_all hK.1
  obtain ⟨-, -, -, -, ms, p, h5, h6, h7⟩ := hK.1
  exact ⟨ms, fun u => mbs (bxs u), h5.cM, h6.rM, h6.rO, fun u hu => by obtain ⟨a, ⟨bg, b⟩, c⟩ := hb u hu; exact cX_of a b, fun u hu => by obtain ⟨a, ⟨bg, b⟩, c⟩ := hb u hu; exact rX_of a c⟩
theorem g_count {j : Nat} {s : uS} (h : gJ j s s) (x : Int32) : ∃ v : Int32, fn_X11_count x s = some v ∧ fn_X12_count x s = some v := by
  obtain ⟨dy, κ, τ, pw, bs, w, hK, hD, hP, -⟩ := h
  obtain ⟨hw, ⟨cm, ct, ⟨a1, a2, a3, a4, a5⟩, b1, b2, b3, b4, b5⟩, h3, h4, h5, h6, h7⟩ := hK
  obtain ⟨p1, p2, p3, p4, p5, p6⟩ := hP
  obtain ⟨bxs, hb⟩ := bx_all hw
  obtain ⟨-, hN, hT, -, ms, p, m1, m2, -⟩ := hw
  have s7 : ∃ b : Bool, s.I 1042 4 = bI b ∧ s.I 1079 113 = bI b := by
    rcases h6 with ⟨z1, z2⟩ | ⟨z1, z2, -⟩
    · exact ⟨false, z1, z2⟩
    · exact ⟨true, z1, z2⟩
  obtain ⟨b7, z1, z2⟩ := s7
  have bb : ∀ b : Bool, bI b = 0 ∨ bI b = 1 := fun b => by cases b; exact Or.inl rfl; exact Or.inr rfl
  obtain ⟨c, hc⟩ : ∃ c : Nat → Int32, c = fun n => if n = 0 then nI ms.length else if n = 1 then nI (oN ms) else if n = 2 then nI p else if n = 3 then nI dy else if n = 4 then nI cm else if n = 5 then nI bs.length else if n = 6 then bI pw else bI b7 := ⟨_, rfl⟩
  obtain ⟨g, hg⟩ : ∃ g : Nat → Nat → Int32, g = fun k u => if k = 1 then s.I (985 + 16 * u) 3 else if k = 2 then s.I (985 + 16 * u) 4 else s.I (988 + 16 * u) 3 := ⟨_, rfl⟩
  have e0 : c 0 = nI ms.length := by rw [hc]; rfl
  have e1 : c 1 = nI (oN ms) := by rw [hc]; rfl
  have e2 : c 2 = nI p := by rw [hc]; rfl
  have e3 : c 3 = nI dy := by rw [hc]; rfl
  have e4 : c 4 = nI cm := by rw [hc]; rfl
  have e5 : c 5 = nI bs.length := by rw [hc]; rfl
  have e6 : c 6 = bI pw := by rw [hc]; rfl
  have e7 : c 7 = bI b7 := by rw [hc]; rfl
  have g1 : ∀ u : Nat, g 1 u = s.I (985 + 16 * u) 3 := fun u => by rw [hg]; rfl
  have g2 : ∀ u : Nat, g 2 u = s.I (985 + 16 * u) 4 := fun u => by rw [hg]; rfl
  have g3 : ∀ u : Nat, g 3 u = s.I (988 + 16 * u) 3 := fun u => by rw [hg]; rfl
  refine ⟨a_cnt c g x, c_count ⟨by rw [e0]; exact m1.2.1, by rw [e1]; exact m1.2.2.1, by rw [e2]; exact m1.2.2.2.1, by rw [e3]; exact a2, by rw [e4]; exact a3, by rw [e5]; exact p3, ⟨by rw [e6]; exact a1, by rw [e6]; exact bb pw⟩, by rw [e7]; exact z1, by rw [e7]; exact bb b7⟩ (fun u _ => (g1 u).symm) (fun u _ => (g2 u).symm) (fun u _ => (g3 u).symm) x, r_count ⟨by rw [e0]; exact m2.rM.sum, by rw [e1]; exact m2.2.2.2.2.1, by rw [e2]; exact m2.2.2.2.1, by rw [e3]; exact b2, by rw [e4]; exact b3, by rw [e5]; exact p4, ⟨by rw [e6]; exact b1, by rw [e6]; exact bb pw⟩, by rw [e7]; exact z2, by rw [e7]; exact bb b7⟩ (fun u hu => ?_) (fun u hu => ?_) (fun u hu => ?_) x⟩
  · obtain ⟨scs, ac, ⟨es, y1⟩, sl, y2⟩ := hT u hu
    rw [g1, y1.2.2.1]; exact y2.2.2.1
  · obtain ⟨ns, y0, y1, y2⟩ := hN u hu
    rw [g2, y1.2.1]; exact y2.1
  · obtain ⟨y0, ⟨bg, y1⟩, y2⟩ := hb u hu
    rw [g3, y1.1]; exact y2.1
theorem sim_all {j : Nat} (hj : j < 512) : sm_all (fun s => gJ j s s) (fun s => gJ (j + 1) s s) := by
  have hj' : j ≤ 512 := Nat.le_of_lt hj
  refine ⟨fun s h => h.up, fun a b c d e => ?_, ?_, fun x => ?_, fun x y => ?_, fun x => ?_, ?_, fun x => ?_, ?_, fun x y s h => ?_, fun x y k w s h => ?_, fun x y s h => ?_, fun x y z s h => ?_, fun x s h => ?_⟩
  · exact glue (F := fn_X11_feed a b c d e) (G := fn_X12_feed a b c d e) (fun s t h => g_feed h a b c d e) (fun s s1 v e1 hn => (zc_X11_feed e1).t hn (by decide)) (fun s s1 v e1 hn => (zc_X12_feed e1).s hn (by decide))
  · exact glue (F := fn_X11_connect) (G := fn_X12_connect) (fun s t h => by obtain ⟨s1, t1, v, a, b, c⟩ := g_connect h; exact ⟨s1, t1, v, a, b, c.up⟩) (fun s s1 v e1 hn => (zc_X11_connect e1).t hn (by decide)) (fun s s1 v e1 hn => (zc_X12_connect e1).s hn (by decide))
  · exact glue (F := fn_X11_mail x) (G := fn_X12_mail x) (fun s t h => by obtain ⟨s1, t1, v, a, b, c⟩ := g_mail hj' h x; exact ⟨s1, t1, v, a, b, c.up⟩) (fun s s1 v e1 hn => (zc_X11_mail e1).t hn (by decide)) (fun s s1 v e1 hn => (zc_X12_mail e1).s hn (by decide))
  · exact glue (F := fn_X11_manage x y) (G := fn_X12_manage x y) (fun s t h => by obtain ⟨s1, t1, v, a, b, c⟩ := g_manage hj' h x y; exact ⟨s1, t1, v, a, b, c.up⟩) (fun s s1 v e1 hn => (zc_X11_manage e1).t hn (by decide)) (fun s s1 v e1 hn => (zc_X12_manage e1).s hn (by decide))
  · exact glue (F := fn_X11_reply x) (G := fn_X12_reply x) (fun s t h => by obtain ⟨s1, t1, v, a, b, c⟩ := g_reply h x; exact ⟨s1, t1, v, a, b, c.up⟩) (fun s s1 v e1 hn => (zc_X11_reply e1).t hn (by decide)) (fun s s1 v e1 hn => (zc_X12_reply e1).s hn (by decide))
  · exact glue (F := fn_X11_tick) (G := fn_X12_tick) (fun s t h => g_tick hj' h) (fun s s1 v e1 hn => (zc_X11_tick e1).t hn (by decide)) (fun s s1 v e1 hn => (zc_X12_tick e1).s hn (by decide))
  · exact glue (F := fn_X11_cut x) (G := fn_X12_cut x) (fun s t h => by obtain ⟨s1, t1, v, a, b, c⟩ := g_cut h x; exact ⟨s1, t1, v, a, b, c.up⟩) (fun s s1 v e1 hn => (zc_X11_cut e1).t hn (by decide)) (fun s s1 v e1 hn => (zc_X12_cut e1).s hn (by decide))
  · exact glue (F := fn_X11_start) (G := fn_X12_start) (fun s t h => by obtain ⟨s1, t1, v, a, b, c⟩ := g_start h; exact ⟨s1, t1, v, a, b, c.up⟩) (fun s s1 v e1 hn => (zc_X11_start e1).t hn (by decide)) (fun s s1 v e1 hn => (zc_X12_start e1).s hn (by decide))
  · obtain ⟨ms, ns, q1, q2, q3, q4, q5⟩ := g_q h
    exact ⟨_, c_messages (nb := fun u => (ns u).length) q1 (fun u hu => (q4 u hu).2.1) x y, r_messages q2 (fun u hu => (q5 u hu).2.1) x y, h.up⟩
  · obtain ⟨ms, ns, q1, q2, q3, q4, q5⟩ := g_q h
    exact ⟨_, c_message (nb := fun u => (ns u).length) q1 (fun u hu => (q4 u hu).2.1) x y k w, r_message q2 (fun u hu => (q5 u hu).2.1) x y k w, h.up⟩
  · obtain ⟨ms, ns, q1, q2, q3, q4, q5⟩ := g_q h
    exact ⟨_, c_bytes q1 x y, r_bytes q2 x y, h.up⟩
  · obtain ⟨ms, ns, q1, q2, q3, q4, q5⟩ := g_q h
    exact ⟨_, c_name q1 q4 x y z, r_name q3 q5 x y z, h.up⟩
  · obtain ⟨v, a, b⟩ := g_count h x
    exact ⟨v, a, b, h.up⟩
