/-! the store of the reference: a message sent on, a letter sent -/
theorem bnd_sm {α : Type} (o : Option α) : (o.bind fun x => some x) = o := by cases o <;> rfl
/-- a message for the outside is begun, its label is there -/
def rMo (t t3 : uS) (ms : List aM) (p : Nat) (lb : List Nat) : Prop := t3.F 1119 ms.length = 4 ∧ t3.F 1120 ms.length = 0 ∧ t3.F 1121 ms.length = nI p ∧ t3.F 1123 ms.length = 0 ∧ t3.I 1079 70 = nI (ms.length - oN ms) ∧ t3.I 1079 71 = nI (oN ms + 1) ∧ t3.I 1079 69 = nI p ∧ t3.F 1125 (oN ms) = nI lb.length ∧ (∀ j : Nat, j < lb.length → t3.F 1124 (101 * oN ms + j) = nI (lb.getD j 0)) ∧ (∀ k i : Nat, 1119 ≤ k → k ≤ 1123 → i < ms.length → t3.F k i = t.F k i) ∧ (∀ k : Nat, k < oN ms → t3.F 1125 k = t.F 1125 k ∧ ∀ j : Nat, j < 101 → t3.F 1124 (101 * k + j) = t.F 1124 (101 * k + j)) ∧ t3.L = t.L ∧ out gbI gbF t t3
theorem rMo_end {t t3 t4 : uS} {ms : List aM} {p : Nat} {lb tx : List Nat} (h : rMl t ms p) (hl : ms.length < 400) (ho : oN ms < 100) (hlb : lb.length ≤ 101) (hbl : bys lb) (hbt : bys tx) (hx : tx.length ≤ 10000) (hp : p + tx.length ≤ 150400) (hm : rMo t t3 ms p lb) (b2 : t4.I 1079 69 = nI (p + tx.length)) (b3 : ∀ j : Nat, j < tx.length → pkb t4 (p + j) = nI (tx.getD j 0)) (b4 : ∀ j : Nat, j < p → pkb t4 j = pkb t3 j) (b5 : t4.F 1122 ms.length = nI tx.length) (b6 : ol ga69 (fun k f => k = 1122 ∧ f = ms.length) ga18 t3 t4) : rMl t4 (ms ++ [oMl lb tx]) (p + tx.length) ∧ ol gbI gbF ga18 t t4 := by
  obtain ⟨m1, m2, m3, m4, m5, m6, m7, m8, m9, m10, m11, m12, m13⟩ := hm
  have g2 : ol gbI gbF ga18 t3 t4 := ol_w b6 (fun k f z => ⟨z.1, Or.inl z.2⟩) (fun k f z => by unfold gbF; omega) (fun _ _ z => z)
  refine ⟨?_, ol_t (ol_out m13) g2⟩
  have hlen : (oMl lb tx).2.2.2.2.length = tx.length := List.length_map ..
  have hlen2 : (oMl lb tx).2.2.2.1.length = lb.length := List.length_map ..
  have hon := oN_le ms
  have key := rMl_app (t1 := t4) (m := oMl lb tx) h hl (by rw [oN_o]; omega) (by rw [hlen]; exact hp) (by rw [hlen]; exact b2) (by rw [oN_o, b6.2.1 _ _ (by unfold ga69; omega)]; exact m6) (by rw [oN_o, b6.2.1 _ _ (by unfold ga69; omega), m5]; congr 1; omega) (fun k i x y z => by rw [b6.2.2.1 _ _ (by omega)]; exact m10 k i x y z) (fun j hj => by rw [b4 j hj, pkb_S, pkb_S, m12]) ⟨by rw [b6.2.2.1 _ _ (by omega), m1]; rfl, by rw [b6.2.2.1 _ _ (by omega), m2]; rfl, by rw [b6.2.2.1 _ _ (by omega), m4]; rfl, by rw [hlen]; exact b5, by rw [hlen]; exact hx, p, by rw [b6.2.2.1 _ _ (by omega), m3], by rw [hlen]; exact Nat.le_refl _, fun j hj => by
      rw [hlen] at hj
      rw [b3 j hj]
      show _ = (tx.map sb).getD j 0 &&& 255
      rw [map_sb, sb_and (hbt j)]⟩ (fun k hk => ⟨by rw [b6.2.2.1 _ _ (by omega)]; exact (m11 k hk).1, fun j hj => by rw [b6.2.2.1 _ _ (by omega)]; exact (m11 k hk).2 j hj⟩) (fun z => ⟨by rw [hlen2]; exact hlb, by rw [hlen2, b6.2.2.1 _ _ (by omega)]; exact m8, fun j hj => by
      rw [hlen2] at hj
      rw [b6.2.2.1 _ _ (by omega), m9 j hj]
      show _ = (lb.map sb).getD j 0 &&& 255
      rw [map_sb, sb_and (hbl j)]⟩)
  rw [hlen] at key
  exact key
theorem rSt.gb {t t1 : uS} {ts : List (List Nat)} (h : rSt t ts) (o : ol gbI gbF ga18 t t1) : rSt t1 ts := h.fr (fun k j z => o.2.2.1 _ _ (by unfold gbF; omega))
/-- the label of a message that goes out -/
theorem rMo_beg {t : uS} {ms : List aM} {p : Nat} {lb : List Nat} (h : rMl t ms p) (hl : ms.length < 400) (ho : oN ms < 100) (hlb : lb.length ≤ 101) : ∃ t1 : uS, fn_X12_beginMail 4 0 0 t = some (t1, nI ms.length) ∧ t1.I 1079 71 = nI (oN ms) ∧ out gbI gbF t t1 ∧ rMo t (wI (cpy (wF t1 1125 (oN ms) (nI lb.length)) 1124 (101 * oN ms) 0 lb.length (fun j => nI (lb.getD j 0))) 1079 71 (nI (oN ms + 1))) ms p lb := by
  obtain ⟨t1, a1, a2, a3, a4, a5, a6, a7⟩ := r_begM h hl 4 0 0
  rw [if_pos (by decide)] at a6
  have g1 : out gbI gbF t t1 := out_w a7 (fun k f z => ⟨z.1, by have := z.2; omega⟩) (fun k f z => by unfold bgF at z; unfold gbF; omega)
  have h71 : t1.I 1079 71 = nI (oN ms) := (a7.2.1 _ _ (by unfold bgI; omega)).trans h.2.2.2.2.1
  have h69 : t1.I 1079 69 = nI p := (a7.2.1 _ _ (by unfold bgI; omega)).trans h.2.2.2.1
  have hL : t1.L = t.L := a7.1.2.2.1
  have hF : ∀ k i : Nat, k ≠ 1124 → (k ≠ 1125 ∨ i ≠ oN ms) → (wI (cpy (wF t1 1125 (oN ms) (nI lb.length)) 1124 (101 * oN ms) 0 lb.length (fun j => nI (lb.getD j 0))) 1079 71 (nI (oN ms + 1))).F k i = t1.F k i := by
    intro k i hk hi
    rw [wI_Fe, cpy_Fo hk, wF_o (by omega)]
  have h25 : (wI (cpy (wF t1 1125 (oN ms) (nI lb.length)) 1124 (101 * oN ms) 0 lb.length (fun j => nI (lb.getD j 0))) 1079 71 (nI (oN ms + 1))).F 1125 (oN ms) = nI lb.length := by
    rw [wI_Fe, cpy_Fo (by decide)]
    exact wF_e _ _ _ _
  have h24 : ∀ j : Nat, j < lb.length → (wI (cpy (wF t1 1125 (oN ms) (nI lb.length)) 1124 (101 * oN ms) 0 lb.length (fun j => nI (lb.getD j 0))) 1079 71 (nI (oN ms + 1))).F 1124 (101 * oN ms + j) = nI (lb.getD j 0) := by
    intro j hj
    rw [wI_Fe]
    exact cpy_Fe (Nat.zero_le _) hj
  have h24' : ∀ k j : Nat, k < oN ms → j < 101 → (wI (cpy (wF t1 1125 (oN ms) (nI lb.length)) 1124 (101 * oN ms) 0 lb.length (fun j => nI (lb.getD j 0))) 1079 71 (nI (oN ms + 1))).F 1124 (101 * k + j) = t1.F 1124 (101 * k + j) := by
    intro k j hk hj
    rw [wI_Fe, cpy_F, if_neg (by omega), wF_o (by omega)]
  have hI : ∀ f : Nat, f ≠ 71 → (wI (cpy (wF t1 1125 (oN ms) (nI lb.length)) 1124 (101 * oN ms) 0 lb.length (fun j => nI (lb.getD j 0))) 1079 71 (nI (oN ms + 1))).I 1079 f = t1.I 1079 f := by
    intro f hf
    rw [wI_o (by omega)]
    rfl
  refine ⟨t1, a1, h71, g1, ?_, ?_, ?_, ?_, ?_, wI_e _ _ _ _, ?_, h25, h24, fun k i x y z => ?_, fun k hk => ⟨?_, fun j hj => ?_⟩, hL, out_t g1 (out_I ?_ ⟨rfl, by omega⟩)⟩
  · rw [hF _ _ (by omega) (by omega)]; exact a2
  · rw [hF _ _ (by omega) (by omega)]; exact a3
  · rw [hF _ _ (by omega) (by omega)]; exact a4
  · rw [hF _ _ (by omega) (by omega)]; exact a5
  · rw [hI _ (by omega)]; exact a6
  · rw [hI _ (by omega)]; exact h69
  · rw [hF _ _ (by omega) (by omega), a7.2.2 _ _ (by unfold bgF; omega)]
  · rw [hF _ _ (by omega) (by omega), a7.2.2 _ _ (by unfold bgF; omega)]
  · rw [h24' k j hk hj, a7.2.2 _ _ (by unfold bgF; omega)]
  · have o1 : out gbI gbF t1 (wF t1 1125 (oN ms) (nI lb.length)) := out_F out_r ⟨by omega, by omega⟩
    refine out_t o1 ⟨⟨rfl, rfl, rfl, rfl, rfl, rfl⟩, fun _ _ _ => rfl, fun k f z => ?_⟩
    rw [cpy_F, if_neg (fun e => z ⟨by omega, by omega⟩)]
theorem r_sendTo {t : uS} {ms : List aM} {p j : Nat} {ts : List (List Nat)} {tx : List Nat} (h : rMl t ms p) (hl : ms.length < 400) (ho : oN ms < 100) (ht : rTt t tx) (hp : p + tx.length ≤ 150400) (hs : rSt t ts) (hj : j < ts.length) (hlb : (ts.getD j []).length ≤ 101) : ∃ t1 : uS, fn_X12_sendTo (nI j) t = some t1 ∧ rMl t1 (ms ++ [oMl (ts.getD j []) tx]) (p + tx.length) ∧ ol gbI gbF ga18 t t1 := by
  obtain ⟨t1, a1, a2, a3, a4⟩ := rMo_beg h hl ho hlb
  obtain ⟨bg, s1, s2, s3, s4⟩ := hs.gb (ol_out a3)
  obtain ⟨a, c1, c2, c3, c4, c5⟩ := s1 j hj
  have hbl := s4 j
  generalize ts.getD j [] = lb at *
  have hg : ol gbI gbF ga18 t (wI (cpy (wF t1 1125 (oN ms) (nI lb.length)) 1124 (101 * oN ms) 0 lb.length (fun j => nI (lb.getD j 0))) 1079 71 (nI (oN ms + 1))) := ol_out a4.2.2.2.2.2.2.2.2.2.2.2.2
  obtain ⟨t4, b1, b2, b3, b4, b5, b6⟩ := r_copyM (ht.gb hg) a4.2.2.2.2.2.2.1 hp (show ms.length < 401 by omega)
  have fin := rMo_end h hl ho hlb hbl ht.2.1 (by have := ht.1; omega) hp a4 b2 b3 b4 b5 b6
  refine ⟨t4, ?_, fin.1, fin.2⟩
  unfold fn_X12_sendTo
  rw [a1, Option.bind_some]
  dsimp only
  rw [g_1117 (by omega), Option.bind_some, c3, a2, p_1125 (by omega), Option.bind_some]
  have e := cpy0 (F := fun N x s => fn_X12_sendTo_25 N (nI j) (nI ms.length) x s) (fin := fun s => fn_X12_copyMail (nI ms.length) (wI s 1079 71 (nI (oN ms + 1)))) (K := 1124) (off := 101 * oN ms) (L := lb.length) (g := fun j => nI (lb.getD j 0)) (s := wF t1 1125 (oN ms) (nI lb.length)) ?_ ?_ (by show _ < 1000000; omega)
  · exact e.trans b1
  · intro n i hi
    show fb_X12_sendTo_25 (fn_X12_sendTo_25 n) (nI j) (nI ms.length) (nI i) _ = _
    unfold fb_X12_sendTo_25
    have e17 : (cpy (wF t1 1125 (oN ms) (nI lb.length)) 1124 (101 * oN ms) 0 i (fun j => nI (lb.getD j 0))).F 1117 j = nI lb.length := by rw [cpy_Fo (by decide), wF_o (by omega)]; exact c3
    have e16 : (cpy (wF t1 1125 (oN ms) (nI lb.length)) 1124 (101 * oN ms) 0 i (fun j => nI (lb.getD j 0))).F 1116 j = nI a := by rw [cpy_Fo (by decide), wF_o (by omega)]; exact c2
    have e97 : (cpy (wF t1 1125 (oN ms) (nI lb.length)) 1124 (101 * oN ms) 0 i (fun j => nI (lb.getD j 0))).F 1097 (a + i) = nI (lb.getD i 0) := by rw [cpy_Fo (by decide), wF_o (by omega)]; exact c5 i hi
    have e71 : (cpy (wF t1 1125 (oN ms) (nI lb.length)) 1124 (101 * oN ms) 0 i (fun j => nI (lb.getD j 0))).I 1079 71 = nI (oN ms) := a2
    rw [g_1117 (by omega), Option.bind_some, e17, if_neg (nI_ge hi (by omega)), g_1116 (by omega), Option.bind_some, e16, nI_add, g_1097 (by omega), Option.bind_some, e97, e71, show (101 : Int32) = nI 101 from rfl, nI_mul, nI_add, p_1124 (by omega), Option.bind_some, nI_1]
  · intro n
    show fb_X12_sendTo_25 (fn_X12_sendTo_25 n) (nI j) (nI ms.length) (nI lb.length) _ = _
    unfold fb_X12_sendTo_25
    have e17 : (cpy (wF t1 1125 (oN ms) (nI lb.length)) 1124 (101 * oN ms) 0 lb.length (fun j => nI (lb.getD j 0))).F 1117 j = nI lb.length := by rw [cpy_Fo (by decide), wF_o (by omega)]; exact c3
    have e71 : (cpy (wF t1 1125 (oN ms) (nI lb.length)) 1124 (101 * oN ms) 0 lb.length (fun j => nI (lb.getD j 0))).I 1079 71 = nI (oN ms) := a2
    rw [g_1117 (by omega), Option.bind_some, e17, if_pos (nI_le (Nat.le_refl _) (by omega)), e71, nI_1]
    exact bnd_sm _
/-- the letter goes out -/
theorem r_sendLet {t : uS} {ms : List aM} {p : Nat} {snd x : List Nat} (h : rMl t ms p) (hl : ms.length < 400) (ho : oN ms < 100) (hsn : rTe t 93 1137 snd) (hx : rLt t x) (hp : p + x.length ≤ 150400) : ∃ t1 : uS, fn_X12_sendLetter t = some t1 ∧ rMl t1 (ms ++ [oMl snd x]) (p + x.length) ∧ ol gbI gbF ga18 t t1 := by
  obtain ⟨n1, hlb, hbl, n4⟩ := hsn
  obtain ⟨t1, a1, a2, a3, a4⟩ := rMo_beg h hl ho hlb
  have n1' : t1.I 1079 93 = nI snd.length := (a3.2.1 _ _ (by unfold gbI; omega)).trans n1
  have n4' : ∀ j : Nat, j < snd.length → t1.F 1137 j = nI (snd.getD j 0) := fun j hj => (a3.2.2 _ _ (by unfold gbF; omega)).trans (n4 j hj)
  have hg := a4.2.2.2.2.2.2.2.2.2.2.2.2
  have hx3 : rLt (wI (cpy (wF t1 1125 (oN ms) (nI snd.length)) 1124 (101 * oN ms) 0 snd.length (fun j => nI (snd.getD j 0))) 1079 71 (nI (oN ms + 1))) x := ⟨(hg.2.1 _ _ (by unfold gbI; omega)).trans hx.1, hx.2.1, hx.2.2.1, fun j hj => (hg.2.2 _ _ (by unfold gbF; omega)).trans (hx.2.2.2 j hj)⟩
  have hxl := hx.2.1
  obtain ⟨t4, b1, b2, b3, b4, b6⟩ := st_loop hx.2.2.1 (F := fun N y s => fn_X12_sendLetter_69 N (nI ms.length) y s) (fin := fun s => some (wF s 1122 ms.length (nI x.length))) (Pr := fun s => rLt s x) (fun s s1 z o => ⟨(o.2.1 _ _ (by unfold ga69; omega)).trans z.1, z.2.1, z.2.2.1, fun j hj => (o.2.2.1 _ _ (fun y => y)).trans (z.2.2.2 j hj)⟩) (fun n i s z hi => by
    show fb_X12_sendLetter_69 (fn_X12_sendLetter_69 n) (nI ms.length) (nI i) s = _
    unfold fb_X12_sendLetter_69
    rw [z.1, if_neg (nI_ge hi (by omega)), g_1143 (by omega), Option.bind_some, z.2.2.2 i hi]) (fun n s z => by
    show fb_X12_sendLetter_69 (fn_X12_sendLetter_69 n) (nI ms.length) (nI x.length) s = _
    unfold fb_X12_sendLetter_69
    rw [z.1, if_pos (nI_le (Nat.le_refl _) (by omega)), p_1122 (by omega), Option.bind_some]) x.length uFu 0 p _ (by omega) (by show _ ≤ 1000000; omega) hx3 a4.2.2.2.2.2.2.1 hp
  have fin := rMo_end (t4 := wF t4 1122 ms.length (nI x.length)) h hl ho hlb hbl hx.2.2.1 (by omega) hp a4 b2 (fun j hj => by have := b3 j hj; rw [Nat.zero_add] at this; exact this) b4 (wF_e _ _ _ _) (ol_F (ol_w b6 (fun _ _ z => z) (fun _ _ z => z.elim) (fun _ _ z => z)) ⟨rfl, rfl⟩)
  refine ⟨_, ?_, fin.1, fin.2⟩
  unfold fn_X12_sendLetter
  rw [a1, Option.bind_some]
  dsimp only
  rw [a2, n1', p_1125 (by omega), Option.bind_some]
  have e := cpy0 (F := fun N y s => fn_X12_sendLetter_23 N (nI ms.length) y s) (fin := fun s => fn_X12_sendLetter_69 uFu (nI ms.length) 0 (wI s 1079 71 (nI (oN ms + 1)))) (K := 1124) (off := 101 * oN ms) (L := snd.length) (g := fun j => nI (snd.getD j 0)) (s := wF t1 1125 (oN ms) (nI snd.length)) ?_ ?_ (by show _ < 1000000; omega)
  · exact e.trans b1
  · intro n i hi
    show fb_X12_sendLetter_23 (fn_X12_sendLetter_23 n) (nI ms.length) (nI i) _ = _
    unfold fb_X12_sendLetter_23
    have e93 : (cpy (wF t1 1125 (oN ms) (nI snd.length)) 1124 (101 * oN ms) 0 i (fun j => nI (snd.getD j 0))).I 1079 93 = nI snd.length := n1'
    have e37 : (cpy (wF t1 1125 (oN ms) (nI snd.length)) 1124 (101 * oN ms) 0 i (fun j => nI (snd.getD j 0))).F 1137 i = nI (snd.getD i 0) := by rw [cpy_Fo (by decide), wF_o (by omega)]; exact n4' i hi
    have e71 : (cpy (wF t1 1125 (oN ms) (nI snd.length)) 1124 (101 * oN ms) 0 i (fun j => nI (snd.getD j 0))).I 1079 71 = nI (oN ms) := a2
    rw [e93, if_neg (nI_ge hi (by omega)), g_1137 (by omega), Option.bind_some, e37, e71, show (101 : Int32) = nI 101 from rfl, nI_mul, nI_add, p_1124 (by omega), Option.bind_some, nI_1]
  · intro n
    show fb_X12_sendLetter_23 (fn_X12_sendLetter_23 n) (nI ms.length) (nI snd.length) _ = _
    unfold fb_X12_sendLetter_23
    have e93 : (cpy (wF t1 1125 (oN ms) (nI snd.length)) 1124 (101 * oN ms) 0 snd.length (fun j => nI (snd.getD j 0))).I 1079 93 = nI snd.length := n1'
    have e71 : (cpy (wF t1 1125 (oN ms) (nI snd.length)) 1124 (101 * oN ms) 0 snd.length (fun j => nI (snd.getD j 0))).I 1079 71 = nI (oN ms) := a2
    rw [e93, if_pos (nI_le (Nat.le_refl _) (by omega)), e71, nI_1]
