/-! the store of the reference: a message filed, one sent on, a letter -/
def bMl (u b : Nat) (fl : Int32) (tx : List Nat) : aM := (nI u, nI b, fl, [], tx.map sb)
def oMl (lb tx : List Nat) : aM := (-1, 0, 0, lb.map sb, tx.map sb)
theorem map_sb (x : List Nat) (j : Nat) : (x.map sb).getD j 0 = sb (x.getD j 0) := by
  rw [List.getD_eq_getElem?_getD, List.getElem?_map, List.getD_eq_getElem?_getD]
  cases x[j]? <;> rfl
def gbI (k f : Nat) : Prop := k = 1079 ∧ (f = 69 ∨ f = 70 ∨ f = 71)
def gbF (k _f : Nat) : Prop := 1119 ≤ k ∧ k ≤ 1125
theorem ol_gb {t t1 : uS} (h : ol ga69 rNo ga18 t t1) : ol gbI gbF ga18 t t1 := ol_w h (fun k f z => ⟨z.1, Or.inl z.2⟩) (fun _ _ z => z.elim) (fun _ _ z => z)
theorem rTt.gb {t t1 : uS} {tx : List Nat} (h : rTt t tx) (o : ol gbI gbF ga18 t t1) : rTt t1 tx := ⟨h.1, h.2.1, (o.2.1 _ _ (by unfold gbI; omega)).trans h.2.2.1, fun j hj => (o.2.2.1 _ _ (by unfold gbF; omega)).trans (h.2.2.2 j hj)⟩
def bg5 (t : uS) (i p : Nat) (x1 x2 x3 : Int32) : uS := wF (wF (wF (wF (wF t 1119 i x1) 1120 i x2) 1121 i (nI p)) 1122 i 0) 1123 i x3
theorem bg5_run {t : uS} {i p : Nat} (x1 x2 x3 : Int32) (es : t.I 1079 70 + t.I 1079 71 = nI i) (h69 : t.I 1079 69 = nI p) (hi : i < 401) : fn_X12_beginMail x1 x2 x3 t = if (4 : Int32) ≤ x1 then some (bg5 t i p x1 x2 x3, nI i) else some (wI (bg5 t i p x1 x2 x3) 1079 70 ((bg5 t i p x1 x2 x3).I 1079 70 + 1), nI i) := by
  unfold fn_X12_beginMail
  have h69' : (wF (wF t 1119 i x1) 1120 i x2).I 1079 69 = nI p := h69
  rw [es, p_1119 hi, Option.bind_some, p_1120 hi, Option.bind_some, h69', p_1121 hi, Option.bind_some, p_1122 hi, Option.bind_some, p_1123 hi, Option.bind_some]
  rfl
theorem bg5_1 {t : uS} {i p : Nat} {x1 x2 x3 : Int32} : (bg5 t i p x1 x2 x3).F 1119 i = x1 := by
  unfold bg5
  rw [wF_o (by omega), wF_o (by omega), wF_o (by omega), wF_o (by omega), wF_e]
theorem bg5_2 {t : uS} {i p : Nat} {x1 x2 x3 : Int32} : (bg5 t i p x1 x2 x3).F 1120 i = x2 := by
  unfold bg5
  rw [wF_o (by omega), wF_o (by omega), wF_o (by omega), wF_e]
theorem bg5_3 {t : uS} {i p : Nat} {x1 x2 x3 : Int32} : (bg5 t i p x1 x2 x3).F 1121 i = nI p := by
  unfold bg5
  rw [wF_o (by omega), wF_o (by omega), wF_e]
theorem bg5_4 {t : uS} {i p : Nat} {x1 x2 x3 : Int32} : (bg5 t i p x1 x2 x3).F 1123 i = x3 := by
  unfold bg5
  exact wF_e _ _ _ _
theorem bg5_I {t : uS} {i p : Nat} {x1 x2 x3 : Int32} : (bg5 t i p x1 x2 x3).I = t.I := rfl
theorem wI_Fe (s : uS) (k f : Nat) (v : Int32) : (wI s k f v).F = s.F := rfl
def bgI (k f : Nat) : Prop := k = 1079 ∧ f = 70
def bgF (i k f : Nat) : Prop := 1119 ≤ k ∧ k ≤ 1123 ∧ f = i
theorem bg5_o {t : uS} {i p : Nat} {x1 x2 x3 : Int32} : out bgI (bgF i) t (bg5 t i p x1 x2 x3) := by
  unfold bg5
  exact out_F (out_F (out_F (out_F (out_F out_r ⟨by decide, by decide, rfl⟩) ⟨by decide, by decide, rfl⟩) ⟨by decide, by decide, rfl⟩) ⟨by decide, by decide, rfl⟩) ⟨by decide, by decide, rfl⟩
theorem r_begM {t : uS} {ms : List aM} {p : Nat} (h : rMl t ms p) (hl : ms.length < 400) (x1 x2 x3 : Int32) : ∃ t1 : uS, fn_X12_beginMail x1 x2 x3 t = some (t1, nI ms.length) ∧ t1.F 1119 ms.length = x1 ∧ t1.F 1120 ms.length = x2 ∧ t1.F 1121 ms.length = nI p ∧ t1.F 1123 ms.length = x3 ∧ t1.I 1079 70 = (if (4 : Int32) ≤ x1 then nI (ms.length - oN ms) else nI (ms.length - oN ms + 1)) ∧ out bgI (bgF ms.length) t t1 := by
  obtain ⟨h1, h2, h3, h4, h5, h6, h7, h8⟩ := h
  have hon := oN_le ms
  have es : t.I 1079 70 + t.I 1079 71 = nI ms.length := by rw [h5, h6, nI_add, Nat.sub_add_cancel hon]
  rw [bg5_run x1 x2 x3 es h4 (by omega)]
  have e1 := bg5_1 (t := t) (i := ms.length) (p := p) (x1 := x1) (x2 := x2) (x3 := x3)
  have e2 := bg5_2 (t := t) (i := ms.length) (p := p) (x1 := x1) (x2 := x2) (x3 := x3)
  have e3 := bg5_3 (t := t) (i := ms.length) (p := p) (x1 := x1) (x2 := x2) (x3 := x3)
  have e4 := bg5_4 (t := t) (i := ms.length) (p := p) (x1 := x1) (x2 := x2) (x3 := x3)
  have o := bg5_o (t := t) (i := ms.length) (p := p) (x1 := x1) (x2 := x2) (x3 := x3)
  have h70 : (bg5 t ms.length p x1 x2 x3).I 1079 70 = nI (ms.length - oN ms) := by rw [bg5_I]; exact h6
  generalize bg5 t ms.length p x1 x2 x3 = t1 at *
  by_cases c : (4 : Int32) ≤ x1
  · rw [if_pos c, if_pos c]
    exact ⟨t1, rfl, e1, e2, e3, e4, h70, o⟩
  · rw [if_neg c, if_neg c]
    rw [h70, nI_1]
    refine ⟨wI t1 1079 70 (nI (ms.length - oN ms + 1)), rfl, ?_, ?_, ?_, ?_, wI_e _ _ _ _, out_I o ⟨rfl, rfl⟩⟩
    · rw [wI_Fe]; exact e1
    · rw [wI_Fe]; exact e2
    · rw [wI_Fe]; exact e3
    · rw [wI_Fe]; exact e4
theorem r_copyM {t : uS} {tx : List Nat} {p L : Nat} (h : rTt t tx) (h69 : t.I 1079 69 = nI p) (hp : p + tx.length ≤ 150400) (hL : L < 401) : ∃ t1 : uS, fn_X12_copyMail (nI L) t = some t1 ∧ t1.I 1079 69 = nI (p + tx.length) ∧ (∀ j : Nat, j < tx.length → pkb t1 (p + j) = nI (tx.getD j 0)) ∧ (∀ j : Nat, j < p → pkb t1 j = pkb t j) ∧ t1.F 1122 L = nI tx.length ∧ ol ga69 (fun k f => k = 1122 ∧ f = L) ga18 t t1 := by
  have hl := h.1
  obtain ⟨t1, a1, a2, a3, a4, a5⟩ := st_loop h.2.1 (F := fun N x s => fn_X12_copyMail_2 N (nI L) x s) (fin := fun s => some (wF s 1122 L (nI tx.length))) (Pr := fun s => rTt s tx) (fun s s1 z o => z.gb (ol_gb o)) (fun n i s z hi => by
    show fb_X12_copyMail_2 (fn_X12_copyMail_2 n) (nI L) (nI i) s = _
    unfold fb_X12_copyMail_2
    rw [z.2.2.1, if_neg (nI_ge hi (by omega)), g_1087 (by omega), Option.bind_some, z.2.2.2 i hi]) (fun n s z => by
    show fb_X12_copyMail_2 (fn_X12_copyMail_2 n) (nI L) (nI tx.length) s = _
    unfold fb_X12_copyMail_2
    rw [z.2.2.1, if_pos (nI_le (Nat.le_refl _) (by omega)), p_1122 hL, Option.bind_some]) tx.length uFu 0 p t (by omega) (by show _ ≤ 1000000; omega) h h69 hp
  refine ⟨wF t1 1122 L (nI tx.length), a1, a2, fun j hj => ?_, a4, wF_e _ _ _ _, ol_F (ol_w a5 (fun _ _ z => z) (fun _ _ z => z.elim) (fun _ _ z => z)) ⟨rfl, rfl⟩⟩
  have := a3 j hj
  rw [Nat.zero_add] at this
  exact this
theorem rU_n {u : Nat} (hu : u < 4) : rU (nI u) = nI u := by
  have : ∀ v : Nat, v < 4 → rU (nI v) = nI v := by decide
  exact this u hu
theorem bMl_in {u b : Nat} {fl : Int32} {tx : List Nat} (hu : u < 4) : inB (-1) 0 (bMl u b fl tx) = false := by
  have : ∀ v : Nat, v < 4 → ¬ nI v = -1 := by decide
  exact decide_eq_false (fun z => this u hu z.1)
theorem oMl_in {lb tx : List Nat} : inB (-1) 0 (oMl lb tx) = true := decide_eq_true ⟨rfl, rfl⟩
theorem oN_b {ms : List aM} {u b : Nat} {fl : Int32} {tx : List Nat} (hu : u < 4) : oN (ms ++ [bMl u b fl tx]) = oN ms := by
  unfold oN
  rw [List.countP_append, List.countP_cons, List.countP_nil, bMl_in hu]
  rfl
theorem oN_o {ms : List aM} {lb tx : List Nat} : oN (ms ++ [oMl lb tx]) = oN ms + 1 := by
  unfold oN
  rw [List.countP_append, List.countP_cons, List.countP_nil, oMl_in]
  rfl
/-- a message filed -/
theorem r_fileM {t : uS} {ms : List aM} {p u b : Nat} {fl : Int32} {tx : List Nat} (h : rMl t ms p) (hl : ms.length < 400) (hu : u < 4) (hb : b < 2 ^ 30) (ht : rTt t tx) (hp : p + tx.length ≤ 150400) : ∃ t1 : uS, ((fn_X12_beginMail (nI u) (nI b) fl t).bind fun r8 => fn_X12_copyMail r8.2 r8.1) = some t1 ∧ rMl t1 (ms ++ [bMl u b fl tx]) (p + tx.length) ∧ ol gbI gbF ga18 t t1 := by
  obtain ⟨t1, a1, a2, a3, a4, a5, a6, a7⟩ := r_begM h hl (nI u) (nI b) fl
  have g1 : ol gbI gbF ga18 t t1 := ol_out (out_w a7 (fun k f z => ⟨z.1, by have := z.2; omega⟩) (fun k f z => by unfold bgF at z; unfold gbF; omega))
  have h69 : t1.I 1079 69 = nI p := (a7.2.1 _ _ (by unfold bgI; omega)).trans h.2.2.2.1
  obtain ⟨t2, b1, b2, b3, b4, b5, b6⟩ := r_copyM (ht.gb g1) h69 hp (show ms.length < 401 by omega)
  have g2 : ol gbI gbF ga18 t1 t2 := ol_w b6 (fun k f z => ⟨z.1, Or.inl z.2⟩) (fun k f z => ⟨by omega, by omega⟩) (fun _ _ z => z)
  refine ⟨t2, by rw [a1, Option.bind_some]; exact b1, ?_, ol_t g1 g2⟩
  have hlen : (bMl u b fl tx).2.2.2.2.length = tx.length := List.length_map ..
  have hne : ¬ (4 : Int32) ≤ nI u := nI_ge (a := u) (b := 4) hu (by decide)
  rw [if_neg hne] at a6
  have hon := oN_le ms
  have key := rMl_app (t1 := t2) (m := bMl u b fl tx) h hl (by rw [oN_b hu]; exact h.2.1) (by rw [hlen]; exact hp) (by rw [hlen]; exact b2) (by rw [oN_b hu, b6.2.1 _ _ (by unfold ga69; omega), a7.2.1 _ _ (by unfold bgI; omega)]; exact h.2.2.2.2.1) (by rw [oN_b hu, b6.2.1 _ _ (by unfold ga69; omega), a6]; congr 1; omega) (fun k i x y z => by rw [b6.2.2.1 _ _ (by omega), a7.2.2 _ _ (by unfold bgF; omega)]) (fun j hj => by
    rw [b4 j hj, pkb_S, pkb_S, a7.1.2.2.1]) ⟨by rw [b6.2.2.1 _ _ (by omega), a2]; exact (rU_n hu).symm, by rw [b6.2.2.1 _ _ (by omega), a3]; rfl, by rw [b6.2.2.1 _ _ (by omega), a5]; rfl, by rw [hlen]; exact b5, by rw [hlen]; have := ht.1; omega, p, by rw [b6.2.2.1 _ _ (by omega), a4], by rw [hlen]; exact Nat.le_refl _, fun j hj => by
      rw [hlen] at hj
      rw [b3 j hj]
      show _ = (tx.map sb).getD j 0 &&& 255
      rw [map_sb, sb_and (ht.2.1 j)]⟩ (fun k hk => ⟨by rw [b6.2.2.1 _ _ (by omega), a7.2.2 _ _ (by unfold bgF; omega)], fun j hj => by rw [b6.2.2.1 _ _ (by omega), a7.2.2 _ _ (by unfold bgF; omega)]⟩) (fun z => by rw [bMl_in hu] at z; cases z)
  rw [hlen] at key
  exact key
