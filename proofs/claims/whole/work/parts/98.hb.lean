/-! a message has come in: delivered to all -/
def cS2 (k : Nat) : Prop := k = 1 ∨ (976 ≤ k ∧ k < 1040 ∧ 2 ≤ (k - 976) % 16 ∧ (k - 976) % 16 < 9) ∨ (1042 ≤ k ∧ k ≤ 1053)
theorem cS_2 {s s1 : uS} (h : sW cS s s1) : sW cS2 s s1 := sW_w h (fun k a => by unfold cS2 at a; unfold cS; omega)
/-- the reference as it begins to deliver -/
def rDt (t : uS) : uS := wI (wI (wI t 1079 124 0) 1079 125 0) 1079 116 0
theorem rDt_F (t : uS) : (rDt t).F = t.F := rfl
theorem rDt_L (t : uS) : (rDt t).L = t.L := rfl
theorem rDt_I {t : uS} {f : Nat} (h : f ≠ 116 ∧ f ≠ 124 ∧ f ≠ 125) : (rDt t).I 1079 f = t.I 1079 f := by
  unfold rDt
  rw [wI_o (by omega), wI_o (by omega), wI_o (by omega)]
theorem rDt_x (t : uS) : tX t (rDt t) := ⟨fun f a => rDt_I (by unfold xB at a; omega), fun k _ => ⟨by rw [rDt_F], by rw [rDt_L]⟩⟩
/-- before a message is delivered, its text whole -/
def dP (dy : Nat) (tx snd : List Nat) (rcs : List (List Nat)) (us : List Nat) (s t : uS) : Prop := wW dy s t ∧ (∃ cm ct : Nat, cN s true dy cm ct ∧ rN t true dy cm ct) ∧ (1171 ≤ s.n ∧ 1171 ≤ t.n) ∧ lsO t ∧ cTz s 1043 101 1 [snd] snd.length [] ∧ (∃ b4 : Nat, cTz s 1047 404 4 rcs b4 []) ∧ cTxt s tx ∧ s.I 1042 3 = nI tx.length ∧ rTt t tx ∧ rTe t 93 1137 snd ∧ rRc t rcs us
theorem hdr_w {dy : Nat} {s t s1 : uS} (h : wW dy s t) (hn : 1171 ≤ s.n) (o : out hI hF s s1) : wW dy s1 (rDt t) := h.o hn (oc_w (oc_out (PR := rNo) (PP := rNo) o) (fun k f z => by unfold hI at z; unfold okI; omega) (fun k f z => by unfold hF at z; unfold okF; omega) (fun _ _ z => z.elim) (fun _ _ z => z.elim)) (rDt_x t)
theorem hdr_2 {s s1 : uS} (o : out hI hF s s1) : sW cS2 s s1 := sW_out o (fun k a => ⟨fun f z => by unfold hI at z; unfold cS2 at a; omega, fun f z => by unfold hF at z; unfold cS2 at a; omega⟩)
theorem hdr_c {dy : Nat} {s t s1 : uS} (o : out hI hF s s1) (h : ∃ cm ct : Nat, cN s true dy cm ct ∧ rN t true dy cm ct) : ∃ cm ct : Nat, cN s1 true dy cm ct ∧ rN (rDt t) true dy cm ct := by
  obtain ⟨cm, ct, ⟨a1, a2, a3, a4, a5⟩, ⟨b1, b2, b3, b4, b5⟩⟩ := h
  have I : ∀ f : Nat, s1.I 0 f = s.I 0 f := fun f => o.2.1 _ _ (by unfold hI; omega)
  exact ⟨cm, ct, ⟨(I _).trans a1, (I _).trans a2, (I _).trans a3, (I _).trans a4, a5⟩, ⟨(rDt_I (by omega)).trans b1, (rDt_I (by omega)).trans b2, (rDt_I (by omega)).trans b3, (rDt_I (by omega)).trans b4, b5⟩⟩
theorem rRc.d {t : uS} {rcs : List (List Nat)} {us : List Nat} (h : rRc t rcs us) : rRc (rDt t) rcs us := ⟨h.1, h.2.1, (rDt_I (by omega)).trans h.2.2.1, h.2.2.2⟩
theorem t_deliv {s t : uS} {dy : Nat} {tx snd : List Nat} {rcs : List (List Nat)} {us : List Nat} (h : dP dy tx snd rcs us s t) (hE : crE tx) (as_ : adO snd) (hd : dlS rcs us) (hn2 : s.n + 20 * rcs.length ≤ 600000) (hm2 : s.m + 11000 * rcs.length ≤ 7302250) : ∃ (s1 t1 : uS) (b : Bool), fn_X11_deliver s = fb_X11_deliver_181 s1 ∧ fb_X12_dataLine_19 true t = fb_X12_dataLine_81 b t1 ∧ ∃ s' t' : uS, dM dy tx snd rcs us s' t' ∧ sW cS2 s s' ∧ s'.I 0 9 = s.I 0 9 ∧ tY (rDt t) t' ∧ s'.n ≤ s.n + 20 * rcs.length ∧ s'.m ≤ s.m + 11000 * rcs.length ∧ ((b = true ∧ s1 = s' ∧ t1 = t') ∨ (b = false ∧ pLost s' t' s1 t1)) := by
  obtain ⟨hw, hc, ⟨hn, hnt⟩, hls, hs, ⟨b4, hr⟩, hT, h3, hRT, hRs, hRc⟩ := h
  have hr4 := hRc.2.1
  obtain ⟨s0, a1, a2, a3⟩ := c_header hT hE h3
  have n0 : s0.n = s.n ∧ s0.m = s.m := ⟨a3.1.2.2.2.2.1, a3.1.2.2.2.2.2⟩
  have hr0 : cTz s0 1047 404 4 rcs b4 [] := hr.o a3 (fun f => by unfold hI; omega) (fun f => by unfold hF; omega) (fun f => by unfold hF; omega) (fun f => by unfold hF; omega)
  have hs0 : cTz s0 1043 101 1 [snd] snd.length [] := hs.o a3 (fun f => by unfold hI; omega) (fun f => by unfold hF; omega) (fun f => by unfold hF; omega) (fun f => by unfold hF; omega)
  have dm : dM dy tx snd rcs us s0 (rDt t) := ⟨hdr_w hw hn a3, hdr_c a3 hc, ⟨by rw [n0.1]; exact hn, hnt⟩, hls, ⟨a2, ⟨_, hs0⟩, ⟨b4, hr0⟩, (a3.2.1 _ _ (by unfold hI; omega)).trans h3, hT.1⟩, hs0, hT.h a3, ⟨hRT.1, hRT.2.1, (rDt_I (by omega)).trans hRT.2.2.1, hRT.2.2.2⟩, ⟨(rDt_I (by omega)).trans hRs.1, hRs.2.1, hRs.2.2.1, hRs.2.2.2⟩, hRc.d⟩
  obtain ⟨s1, t1, b, c1, c2, s', t', c3, c4, c5, c6, c7, c8, c9⟩ := t_dlv hE as_ hd rcs.length uFu 0 s0 (rDt t) (by omega) (by show _ ≤ 1000000; omega) dm (by rw [n0.1]; exact hn2) (by rw [n0.2]; exact hm2)
  refine ⟨s1, t1, b, ?_, ?_, s', t', c3, sW_t (hdr_2 a3) (cS_2 c4), c5.trans (a3.2.1 _ _ (by unfold hI; omega)), c6, by rw [← n0.1]; exact c7, by rw [← n0.2]; exact c8, c9⟩
  · unfold fn_X11_deliver
    rw [a1, Option.bind_some, hr0.1]
    exact c1
  · unfold fb_X12_dataLine_19
    rw [if_pos rfl]
    exact c2
/-- before a message is delivered that is too big -/
def dPB (dy : Nat) (rcs : List (List Nat)) (us : List Nat) (s t : uS) : Prop := wW dy s t ∧ (∃ cm ct : Nat, cN s true dy cm ct ∧ rN t true dy cm ct) ∧ (1171 ≤ s.n ∧ 1171 ≤ t.n) ∧ lsO t ∧ (∃ b4 : Nat, cTz s 1047 404 4 rcs b4 []) ∧ s.I 1042 3 = 4001 ∧ (∃ L : Nat, 4000 < L ∧ L ≤ 1000000 ∧ t.I 1079 13 = nI L) ∧ rRc t rcs us
theorem t_delivB {s t : uS} {dy : Nat} {rcs : List (List Nat)} {us : List Nat} (h : dPB dy rcs us s t) : ∃ s1 t1 : uS, fn_X11_deliver s = fb_X11_deliver_181 s1 ∧ fb_X12_dataLine_19 true t = fb_X12_dataLine_81 true t1 ∧ dB dy rcs us s1 t1 ∧ sW cS2 s s1 ∧ s1.I 0 9 = s.I 0 9 ∧ tY (rDt t) t1 ∧ s1.n = s.n ∧ s1.m = s.m := by
  obtain ⟨hw, hc, ⟨hn, hnt⟩, hls, ⟨b4, hr⟩, h3, ⟨L, hL1, hL2, hL3⟩, hRc⟩ := h
  have hr4 := hRc.2.1
  obtain ⟨s0, a1, a3⟩ := c_headerB h3
  have n0 : s0.n = s.n ∧ s0.m = s.m := ⟨a3.1.2.2.2.2.1, a3.1.2.2.2.2.2⟩
  have hr0 : cTz s0 1047 404 4 rcs b4 [] := hr.o a3 (fun f => by unfold hI; omega) (fun f => by unfold hF; omega) (fun f => by unfold hF; omega) (fun f => by unfold hF; omega)
  have dm : dB dy rcs us s0 (rDt t) := ⟨hdr_w hw hn a3, hdr_c a3 hc, ⟨by rw [n0.1]; exact hn, hnt⟩, hls, (a3.2.1 _ _ (by unfold hI; omega)).trans h3, ⟨L, hL1, hL2, (rDt_I (by omega)).trans hL3⟩, hRc.d⟩
  obtain ⟨s1, t1, c1, c2, c3, c4, c5, c6, c7, c8⟩ := t_dlvB rcs.length uFu 0 s0 (rDt t) (by omega) (by show _ ≤ 1000000; omega) dm
  refine ⟨s1, t1, ?_, ?_, c3, sW_t (hdr_2 a3) (cS_2 c4), c5.trans (a3.2.1 _ _ (by unfold hI; omega)), c6, c7.trans n0.1, c8.trans n0.2⟩
  · unfold fn_X11_deliver
    rw [a1, Option.bind_some, hr0.1]
    exact c1
  · unfold fb_X12_dataLine_19
    rw [if_pos rfl]
    exact c2
