/-! the store of the reference: what a plan files and sends on -/
def geI (k f : Nat) : Prop := k = 1079 ∧ (f = 21 ∨ f = 23 ∨ f = 69 ∨ f = 70 ∨ f = 71)
def geF (u k f : Nat) : Prop := mbF u k f ∨ gbF k f
theorem ge_1 {t t1 : uS} {u : Nat} (h : out onwI (mbF u) t t1) : ol geI (geF u) ga18 t t1 := ol_out (out_w h (fun k f z => by unfold onwI at z; unfold geI; omega) (fun k f z => Or.inl z))
theorem ge_2 {t t1 : uS} {u : Nat} (h : ol gbI gbF ga18 t t1) : ol geI (geF u) ga18 t t1 := ol_w h (fun k f z => by unfold gbI at z; unfold geI; omega) (fun k f z => Or.inr z) (fun _ _ z => z)
theorem rTt.ge {t t1 : uS} {tx : List Nat} {u : Nat} (h : rTt t tx) (o : ol geI (geF u) ga18 t t1) : rTt t1 tx := ⟨h.1, h.2.1, (o.2.1 _ _ (by unfold geI; omega)).trans h.2.2.1, fun j hj => (o.2.2.1 _ _ (by unfold geF mbF gbF; omega)).trans (h.2.2.2 j hj)⟩
theorem rSt.ge {t t1 : uS} {ts : List (List Nat)} {u : Nat} (h : rSt t ts) (o : ol geI (geF u) ga18 t t1) : rSt t1 ts := h.fr (fun k j z => o.2.2.1 _ _ (by unfold geF mbF gbF; omega))
theorem rFi.ge {t t1 : uS} {ts : List (List Nat)} {F : List (Option Nat × Nat)} {u : Nat} (h : rFi t ts F) (o : ol geI (geF u) ga18 t t1) : rFi t1 ts F := ⟨(o.2.1 _ _ (by unfold geI; omega)).trans h.1, fun k hk => ⟨(o.2.2.1 _ _ (by unfold geF mbF gbF; omega)).trans (h.2 k hk).1, (o.2.2.1 _ _ (by unfold geF mbF gbF; omega)).trans (h.2 k hk).2.1, (h.2 k hk).2.2⟩⟩
theorem rDi.ge {t t1 : uS} {ts : List (List Nat)} {D : List Nat} {u : Nat} (h : rDi t ts D) (o : ol geI (geF u) ga18 t t1) : rDi t1 ts D := ⟨(o.2.1 _ _ (by unfold geI; omega)).trans h.1, fun k hk => ⟨(o.2.2.1 _ _ (by unfold geF mbF gbF; omega)).trans (h.2 k hk).1, (h.2 k hk).2⟩⟩
theorem rMl.on {t t1 : uS} {ms : List aM} {p u : Nat} (h : rMl t ms p) (o : out onwI (mbF u) t t1) : rMl t1 ms p := by
  obtain ⟨h1, h2, h3, h4, h5, h6, h7, h8⟩ := h
  have F : ∀ k f : Nat, 1119 ≤ k → k ≤ 1125 → t1.F k f = t.F k f := fun k f a b => o.2.2 _ _ (by unfold mbF; omega)
  have hL : t1.L = t.L := o.1.2.2.1
  refine ⟨h1, h2, h3, (o.2.1 _ _ (by unfold onwI; omega)).trans h4, (o.2.1 _ _ (by unfold onwI; omega)).trans h5, (o.2.1 _ _ (by unfold onwI; omega)).trans h6, fun i hi => ?_, fun k hk => ?_⟩
  · obtain ⟨a1, a2, a3, a4, a5, at_, a6, a7, a8⟩ := h7 i hi
    exact ⟨(F _ _ (by omega) (by omega)).trans a1, (F _ _ (by omega) (by omega)).trans a2, (F _ _ (by omega) (by omega)).trans a3, (F _ _ (by omega) (by omega)).trans a4, a5, at_, (F _ _ (by omega) (by omega)).trans a6, a7, fun j hj => by rw [pkb_S, hL, ← pkb_S]; exact a8 j hj⟩
  · obtain ⟨q, q1, q2, q3, q4⟩ := h8 k hk
    exact ⟨q, q1, q2, (F _ _ (by omega) (by omega)).trans q3, fun j hj => (F _ _ (by omega) (by omega)).trans (q4 j hj)⟩
/-- the messages that a plan files -/
def flM (u : Nat) (tx : List Nat) (cf : List (Nat × Nat)) : List aM := cf.map (fun c => bMl u c.1 (nI c.2) tx)
theorem flM_oN {u : Nat} {tx : List Nat} (hu : u < 4) : ∀ (cf : List (Nat × Nat)) (ms : List aM), oN (ms ++ flM u tx cf) = oN ms
  | [], ms => by show oN (ms ++ []) = _; rw [List.append_nil]
  | c :: cf, ms => by
    show oN (ms ++ (bMl u c.1 (nI c.2) tx :: flM u tx cf)) = _
    rw [show ms ++ (bMl u c.1 (nI c.2) tx :: flM u tx cf) = (ms ++ [bMl u c.1 (nI c.2) tx]) ++ flM u tx cf by simp, flM_oN hu cf, oN_b hu]
theorem r_255 {u : Nat} {bx ts : List (List Nat)} {F : List (Option Nat × Nat)} {tx : List Nat} {aw b4 : Bool} (hu : u < 4) (hbx : bxO bx) (hd : dsF ts F) (hso : sOk ts F) (h6 : (abxF bx ts F).length ≤ 6) : ∀ (d N k p : Nat) (t : uS) (ms : List aM), k + d = F.length → d + 1 ≤ N → rBx t u (abxF bx ts (F.take k)) → bxO (abxF bx ts (F.take k)) → rSt t ts → rFi t ts F → t.I 1079 89 = nI u → rTt t tx → rMl t ms p → ms.length + d ≤ 400 → p + d * tx.length ≤ 150400 → ∃ t1 : uS, fn_X12_deliver_255 N aw b4 (nI k) t = fn_X12_deliver_303 uFu aw b4 0 t1 ∧ rBx t1 u (abxF bx ts F) ∧ rMl t1 (ms ++ flM u tx ((cfF bx ts F).drop k)) (p + d * tx.length) ∧ ol geI (geF u) ga18 t t1 := by
  have hFl : F.length ≤ 6 := ds_len hbx.1 hbx.2.2.1 hd h6
  intro d
  induction d with
  | zero =>
    intro N k p t ms h1 h2 hB hO hS hF h89 hT hM hl hp
    obtain ⟨M, rfl⟩ : ∃ M, N = M + 1 := ⟨N - 1, by omega⟩
    refine ⟨t, ?_, ?_, ?_, ol_r⟩
    · show fb_X12_deliver_255 (fn_X12_deliver_255 M) aw b4 (nI k) t = _
      unfold fb_X12_deliver_255
      rw [hF.1, if_pos (nI_le (by omega) (by omega))]
    · rw [List.take_of_length_le (by omega)] at hB
      exact hB
    · rw [List.drop_eq_nil_of_le (by rw [cf_len]; omega), show flM u tx [] = [] from rfl, List.append_nil, Nat.zero_mul, Nat.add_zero]
      exact hM
  | succ d ih =>
    intro N k p t ms h1 h2 hB hO hS hF h89 hT hM hl hp
    obtain ⟨M, rfl⟩ : ∃ M, N = M + 1 := ⟨N - 1, by omega⟩
    have hk : k < F.length := by omega
    obtain ⟨f1, f2, f3⟩ := hF.2 k hk
    have hmem := getDp_mem hk
    obtain ⟨x1, x2⟩ := abx_t (bx := bx) hk hd
    obtain ⟨mm, hmm⟩ := abx_pre (bx := bx) (ts := ts) (F := F) (k + 1)
    have hmml : (abxF bx ts (F.take (k + 1))).length ≤ 6 := by rw [hmm, List.length_append] at h6; omega
    have hnew : bxN (abxF bx ts (F.take k)) (fky ts (F.getD k (none, 0)).1) = none → (abxF bx ts (F.take k)).length < 6 := by
      intro z
      obtain ⟨j, j1, j2, j3⟩ := x2 z
      rw [j2, List.length_append] at hmml
      have : [ts.getD j []].length = 1 := rfl
      omega
    obtain ⟨t1, a1, a2, a3, a4⟩ := r_boxMade (x := (F.getD k (none, 0)).1) hu hB hO hS (fun j z => hso _ hmem j z) h89 hnew
    have g1 := ge_1 a4
    have hB1 : rBx t1 u (abxF bx ts (F.take (k + 1))) ∧ bxO (abxF bx ts (F.take (k + 1))) := by
      cases c : bxN (abxF bx ts (F.take k)) (fky ts (F.getD k (none, 0)).1) with
      | some b => rw [x1 b c]; exact ⟨a2 b c, hO⟩
      | none =>
        obtain ⟨j, j1, j2, j3⟩ := x2 c
        rw [j2]
        obtain ⟨bg, s1, s2, s3, s4⟩ := hS
        exact ⟨a3 j j1 c, bxO_app hO (hnew c) (s4 j) (bxn_len (hso _ hmem j j1).2).2⟩
    rw [abx_ix hk hd] at a1
    have hixl : (bxN (abxF bx ts F) (fky ts (F.getD k (none, 0)).1)).getD 0 < 2 ^ 30 := by
      obtain ⟨b, b1, b2⟩ := fky_res (bx := bx) (ts := ts) hbx.1 hmem
      rw [b1]
      show b < 2 ^ 30
      omega
    have f2' : t1.F 1139 k = nI (F.getD k (none, 0)).2 := (a4.2.2 _ _ (by unfold mbF; omega)).trans f2
    obtain ⟨t2, b1, b2, b3⟩ := r_fileM (b := (bxN (abxF bx ts F) (fky ts (F.getD k (none, 0)).1)).getD 0) (fl := nI (F.getD k (none, 0)).2) (hM.on a4) (by omega) hu hixl (hT.ge g1) (by have : (d + 1) * tx.length = d * tx.length + tx.length := Nat.succ_mul _ _; omega)
    have g2 := ge_2 (u := u) b3
    have g12 := ol_t g1 g2
    obtain ⟨t3, c1, c2, c3, c4⟩ := ih M (k + 1) (p + tx.length) t2 (ms ++ [bMl u ((bxN (abxF bx ts F) (fky ts (F.getD k (none, 0)).1)).getD 0) (nI (F.getD k (none, 0)).2) tx]) (by omega) (by omega) (hB1.1.fr (fun kk j _ _ => b3.2.2.1 _ _ (by unfold gbF; omega))) hB1.2 (hS.ge g12) (hF.ge g12) ((g12.2.1 _ _ (by unfold geI; omega)).trans h89) (hT.ge g12) b2 (by rw [List.length_append]; show ms.length + 1 + d ≤ 400; omega) (by have : (d + 1) * tx.length = d * tx.length + tx.length := Nat.succ_mul _ _; omega)
    refine ⟨t3, ?_, c2, ?_, ol_t g12 c4⟩
    · show fb_X12_deliver_255 (fn_X12_deliver_255 M) aw b4 (nI k) t = _
      unfold fb_X12_deliver_255
      rw [hF.1, if_neg (nI_ge hk (by omega)), g_1138 (by omega), Option.bind_some, f1, a1, Option.bind_some]
      dsimp only
      rw [g_1139 (by omega), Option.bind_some, f2', h89]
      obtain ⟨r8, hr8⟩ : ∃ r8, fn_X12_beginMail (nI u) (nI ((bxN (abxF bx ts F) (fky ts (F.getD k (none, 0)).1)).getD 0)) (nI (F.getD k (none, 0)).2) t1 = some r8 := by
        cases z : fn_X12_beginMail (nI u) (nI ((bxN (abxF bx ts F) (fky ts (F.getD k (none, 0)).1)).getD 0)) (nI (F.getD k (none, 0)).2) t1 with
        | none => rw [z] at b1; cases b1
        | some r => exact ⟨r, rfl⟩
      rw [hr8, Option.bind_some] at b1 ⊢
      rw [b1, Option.bind_some, nI_1]
      exact c1
    · have e : (cfF bx ts F).drop k = ((bxN (abxF bx ts F) (fky ts (F.getD k (none, 0)).1)).getD 0, (F.getD k (none, 0)).2) :: (cfF bx ts F).drop (k + 1) := by
        have hk' : k < (cfF bx ts F).length := by rw [cf_len]; exact hk
        rw [← cf_get hk, List.getD_eq_getElem?_getD, List.getElem?_eq_getElem hk', List.drop_eq_getElem_cons hk']
        rfl
      rw [e]
      have e2 : p + (d + 1) * tx.length = p + tx.length + d * tx.length := by rw [Nat.succ_mul]; omega
      rw [e2]
      rw [List.append_assoc] at c3
      exact c3
/-- what goes on to others -/
def sdM (ts : List (List Nat)) (tx : List Nat) (D : List Nat) : List aM := D.map (fun j => oMl (ts.getD j []) tx)
theorem sdM_oN {ts : List (List Nat)} {tx : List Nat} : ∀ (D : List Nat) (ms : List aM), oN (ms ++ sdM ts tx D) = oN ms + D.length
  | [], ms => by show oN (ms ++ []) = _; rw [List.append_nil]; rfl
  | c :: D, ms => by
    show oN (ms ++ (oMl (ts.getD c []) tx :: sdM ts tx D)) = _
    rw [show ms ++ (oMl (ts.getD c []) tx :: sdM ts tx D) = (ms ++ [oMl (ts.getD c []) tx]) ++ sdM ts tx D by simp, sdM_oN D, oN_o, List.length_cons]
    omega
theorem r_303 {ts : List (List Nat)} {D : List Nat} {tx : List Nat} {aw b4 : Bool} (hD4 : D.length ≤ 4) (hlb : ∀ j ∈ D, (ts.getD j []).length ≤ 101) : ∀ (d N k p : Nat) (t : uS) (ms : List aM), k + d = D.length → d + 1 ≤ N → rSt t ts → rDi t ts D → rTt t tx → rMl t ms p → ms.length + d ≤ 400 → oN ms + d ≤ 100 → p + d * tx.length ≤ 150400 → ∃ t1 : uS, fn_X12_deliver_303 N aw b4 (nI k) t = (if b4 = true then ((fn_X12_sendLetter t1).bind fun s3 => fb_X12_deliver_338 aw s3) else (fb_X12_deliver_338 aw t1)) ∧ rMl t1 (ms ++ sdM ts tx (D.drop k)) (p + d * tx.length) ∧ ol gbI gbF ga18 t t1 := by
  intro d
  induction d with
  | zero =>
    intro N k p t ms h1 h2 hS hF hT hM hl ho hp
    obtain ⟨M, rfl⟩ : ∃ M, N = M + 1 := ⟨N - 1, by omega⟩
    refine ⟨t, ?_, ?_, ol_r⟩
    · show fb_X12_deliver_303 (fn_X12_deliver_303 M) aw b4 (nI k) t = _
      unfold fb_X12_deliver_303
      rw [hF.1, if_pos (nI_le (by omega) (by omega))]
    · rw [List.drop_eq_nil_of_le (by omega), show sdM ts tx [] = [] from rfl, List.append_nil, Nat.zero_mul, Nat.add_zero]
      exact hM
  | succ d ih =>
    intro N k p t ms h1 h2 hS hF hT hM hl ho hp
    obtain ⟨M, rfl⟩ : ∃ M, N = M + 1 := ⟨N - 1, by omega⟩
    have hk : k < D.length := by omega
    obtain ⟨f1, f2⟩ := hF.2 k hk
    have hgk : D.getD k 0 = D[k] := by rw [List.getD_eq_getElem?_getD, List.getElem?_eq_getElem hk]; rfl
    have hmem : D.getD k 0 ∈ D := by rw [hgk]; exact List.getElem_mem hk
    have em : (d + 1) * tx.length = d * tx.length + tx.length := Nat.succ_mul _ _
    obtain ⟨t2, b1, b2, b3⟩ := r_sendTo hM (by omega) (by omega) hT (by omega) hS f2 (hlb _ hmem)
    have hF2 : rDi t2 ts D := ⟨(b3.2.1 _ _ (by unfold gbI; omega)).trans hF.1, fun i hi => ⟨(b3.2.2.1 _ _ (by unfold gbF; omega)).trans (hF.2 i hi).1, (hF.2 i hi).2⟩⟩
    obtain ⟨t3, c1, c2, c3⟩ := ih M (k + 1) (p + tx.length) t2 (ms ++ [oMl (ts.getD (D.getD k 0) []) tx]) (by omega) (by omega) (hS.gb b3) hF2 (hT.gb b3) b2 (by rw [List.length_append]; show ms.length + 1 + d ≤ 400; omega) (by rw [oN_o]; omega) (by omega)
    refine ⟨t3, ?_, ?_, ol_t b3 c3⟩
    · show fb_X12_deliver_303 (fn_X12_deliver_303 M) aw b4 (nI k) t = _
      unfold fb_X12_deliver_303
      rw [hF.1, if_neg (nI_ge hk (by omega)), g_1140 (by omega), Option.bind_some, f1, b1, Option.bind_some, nI_1]
      exact c1
    · have e : D.drop k = D.getD k 0 :: D.drop (k + 1) := by rw [hgk, List.drop_eq_getElem_cons hk]
      rw [e, em, show p + (d * tx.length + tx.length) = p + tx.length + d * tx.length by omega]
      rw [List.append_assoc] at c2
      exact c2
