/-! letters: what is answered, on both sides -/
def ltT (snd sub rs : List Nat) : List Nat := kW_60 ++ snd ++ kW_61 ++ sub ++ kW_65 ++ rs ++ kW_66
def sjT (fs : List (List Nat × List Nat)) : List Nat := match ffst (fun f => eqW (fnm fs f) kW_97) fs.length 0 with
  | some f => fvl fs f
  | none => []
theorem uTx_an : uTx 1075 6000 1 := by
  refine ⟨by decide, by decide, by decide, by decide, by decide, by decide⟩
theorem tz_pText {k cap mo bg : Nat} {W : List Nat} (hk : uTx k cap mo) (hW : ∀ c ∈ W, c < 128) (hl : W.length ≤ 1000) : ∀ (d N q : Nat) (cur : List Nat) (ts : List (List Nat)) (s : uS), q + d = W.length → d + 1 ≤ N → cTz s k cap mo ts bg cur → bg + cur.length + d ≤ cap → ∃ s1 : uS, fn_X9_putText_2 N k W (nI q) s = some s1 ∧ cTz s1 k cap mo ts bg (cur ++ W.drop q) ∧ out (tI k) (tF k) s s1 := by
  intro d
  induction d with
  | zero =>
    intro N q cur ts s hq hN h hc
    obtain ⟨M, rfl⟩ : ∃ M, N = M + 1 := ⟨N - 1, by omega⟩
    refine ⟨s, ?_, by rw [List.drop_eq_nil_of_le (by omega), List.append_nil]; exact h, out_r⟩
    show fb_X9_putText_2 (fn_X9_putText_2 M) k W (nI q) s = _
    unfold fb_X9_putText_2
    rw [if_pos (nI_le (by omega) (by omega))]
  | succ d ih =>
    intro N q cur ts s hq hN h hc
    obtain ⟨M, rfl⟩ : ∃ M, N = M + 1 := ⟨N - 1, by omega⟩
    have hlt : q < W.length := by omega
    have hb := hW _ (getD_mem hlt)
    obtain ⟨s1, a1, a2, a3⟩ := tz_putO (x := nI (W.getD q 0)) (b := W.getD q 0) hk h (by omega) (by omega) rfl
    obtain ⟨s2, b1, b2, b3⟩ := ih M (q + 1) (cur ++ [W.getD q 0]) ts s1 (by omega) (by omega) a2 (by rw [List.length_append, List.length_cons, List.length_nil]; omega)
    refine ⟨s2, ?_, ?_, out_t a3 b3⟩
    · show fb_X9_putText_2 (fn_X9_putText_2 M) k W (nI q) s = _
      unfold fb_X9_putText_2
      rw [if_neg (nI_ge hlt (by omega)), stget_n hlt hl, Option.bind_some, a1, Option.bind_some, nI_1]
      exact b1
    · rw [dropN hlt]
      rw [List.append_assoc] at b2
      exact b2
theorem tz_putText {k cap mo bg : Nat} {W cur : List Nat} {ts : List (List Nat)} {s : uS} (hk : uTx k cap mo) (h : cTz s k cap mo ts bg cur) (hW : ∀ c ∈ W, c < 128) (hl : W.length ≤ 1000) (hc : bg + cur.length + W.length ≤ cap) : ∃ s1 : uS, fn_X9_putText k W s = some s1 ∧ cTz s1 k cap mo ts bg (cur ++ W) ∧ out (tI k) (tF k) s s1 := by
  obtain ⟨s1, a1, a2, a3⟩ := tz_pText hk hW hl W.length uFu 0 cur ts s (by omega) (by show _ ≤ 1000000; omega) h hc
  rw [List.drop_zero] at a2
  exact ⟨s1, a1, a2, a3⟩
theorem tz_putFrom {s : uS} {K cap mo bg k1 cap1 mo1 bg1 i : Nat} {ts ts1 : List (List Nat)} {cur cur1 : List Nat} (hK : uTx K cap mo) (hK1 : uTx k1 cap1 mo1) (h : cTz s K cap mo ts bg cur) (h1 : cTz s k1 cap1 mo1 ts1 bg1 cur1) (hi : i < ts1.length) (hne : k1 ≠ K) (hfit : bg + cur.length + (ts1.getD i []).length ≤ cap) : ∃ s1 : uS, fn_X9_putFrom K k1 (nI i) s = some s1 ∧ cTz s1 K cap mo ts bg (cur ++ ts1.getD i []) ∧ out (tI K) (tF K) s s1 := by
  obtain ⟨fr, a1, a2, a3, a4⟩ := tz_rd hK1 h1 hi
  obtain ⟨s1, b1, b2, b3⟩ := tz_pr hK hK1 h a3 a4 hne hfit
  have hm := h1.2.1
  have hk6 := hK1.2.2.2.2.2
  refine ⟨s1, ?_, b2, out_tx b3⟩
  unfold fn_X9_putFrom
  rw [if_neg (nI_pos (by omega)), h1.1, if_neg (nI_ge hi (by omega)), a1, Option.bind_some, a2, Option.bind_some, b1, Option.bind_some]
/-- the reference's letter -/
def rLt (t : uS) (cur : List Nat) : Prop := t.I 1079 112 = nI cur.length ∧ cur.length ≤ 6000 ∧ bys cur ∧ ∀ j : Nat, j < cur.length → t.F 1143 j = nI (cur.getD j 0)
def wlI (k f : Nat) : Prop := k = 1079 ∧ f = 112
def wlF (k _f : Nat) : Prop := k = 1143
theorem r_write {t : uS} {cur : List Nat} {b : Nat} (h : rLt t cur) (hb : b < 256) (hl : cur.length < 6000) : ∃ t1 : uS, fn_X12_write (nI b) t = some t1 ∧ rLt t1 (cur ++ [b]) ∧ out wlI wlF t t1 := by
  obtain ⟨h1, h2, h3, h4⟩ := h
  unfold fn_X12_write
  rw [h1, p_1143 hl, Option.bind_some, wF_I, h1, nI_1]
  refine ⟨_, rfl, ⟨by rw [wI_e, List.length_append]; rfl, by rw [List.length_append]; simp; omega, bys_app h3 hb, fun j hj => ?_⟩, out_I (out_F out_r rfl) ⟨rfl, rfl⟩⟩
  rw [List.length_append] at hj
  simp at hj
  rw [wI_F]
  by_cases c : j = cur.length
  · rw [c, wF_e, getDn_end]
  · rw [wF_o (by omega), getDn_app (by omega)]
    exact h4 j (by omega)
theorem r_wWord {W : List Nat} (hW : ∀ c ∈ W, c < 128) (hl : W.length ≤ 1000) : ∀ (d N q : Nat) (cur : List Nat) (t : uS), q + d = W.length → d + 1 ≤ N → rLt t cur → cur.length + d ≤ 6000 → ∃ t1 : uS, fn_X12_writeWord_2 N W (nI q) t = some t1 ∧ rLt t1 (cur ++ W.drop q) ∧ out wlI wlF t t1 := by
  intro d
  induction d with
  | zero =>
    intro N q cur t hq hN h hc
    obtain ⟨M, rfl⟩ : ∃ M, N = M + 1 := ⟨N - 1, by omega⟩
    refine ⟨t, ?_, by rw [List.drop_eq_nil_of_le (by omega), List.append_nil]; exact h, out_r⟩
    show fb_X12_writeWord_2 (fn_X12_writeWord_2 M) W (nI q) t = _
    unfold fb_X12_writeWord_2
    rw [if_pos (nI_le (by omega) (by omega))]
  | succ d ih =>
    intro N q cur t hq hN h hc
    obtain ⟨M, rfl⟩ : ∃ M, N = M + 1 := ⟨N - 1, by omega⟩
    have hlt : q < W.length := by omega
    have hb := hW _ (getD_mem hlt)
    obtain ⟨t1, a1, a2, a3⟩ := r_write (b := W.getD q 0) h (by omega) (by omega)
    obtain ⟨t2, b1, b2, b3⟩ := ih M (q + 1) (cur ++ [W.getD q 0]) t1 (by omega) (by omega) a2 (by rw [List.length_append, List.length_cons, List.length_nil]; omega)
    refine ⟨t2, ?_, ?_, out_t a3 b3⟩
    · show fb_X12_writeWord_2 (fn_X12_writeWord_2 M) W (nI q) t = _
      unfold fb_X12_writeWord_2
      rw [if_neg (nI_ge hlt (by omega)), stget_n hlt hl, Option.bind_some, a1, Option.bind_some, nI_1]
      exact b1
    · rw [dropN hlt]
      rw [List.append_assoc] at b2
      exact b2
theorem r_writeW {t : uS} {W cur : List Nat} (h : rLt t cur) (hW : ∀ c ∈ W, c < 128) (hl : W.length ≤ 1000) (hc : cur.length + W.length ≤ 6000) : ∃ t1 : uS, fn_X12_writeWord W t = some t1 ∧ rLt t1 (cur ++ W) ∧ out wlI wlF t t1 := by
  obtain ⟨t1, a1, a2, a3⟩ := r_wWord hW hl W.length uFu 0 cur t (by omega) (by show _ ≤ 1000000; omega) h hc
  rw [List.drop_zero] at a2
  exact ⟨t1, a1, a2, a3⟩
theorem r_wStr {ts : List (List Nat)} {x : Nat} (hx : x < ts.length) : ∀ (d N q : Nat) (cur : List Nat) (t : uS), q + d = (ts.getD x []).length → d + 1 ≤ N → rSt t ts → rLt t cur → cur.length + d ≤ 6000 → ∃ t1 : uS, fn_X12_writeString_2 N (nI x) (nI q) t = some t1 ∧ rLt t1 (cur ++ (ts.getD x []).drop q) ∧ out wlI wlF t t1 := by
  intro d
  induction d with
  | zero =>
    intro N q cur t hq hN hs h hc
    obtain ⟨M, rfl⟩ : ∃ M, N = M + 1 := ⟨N - 1, by omega⟩
    obtain ⟨bg, s1, s2, s3, s4⟩ := hs
    obtain ⟨a, a1, a2, a3, al, a4⟩ := s1 x hx
    refine ⟨t, ?_, by rw [List.drop_eq_nil_of_le (by omega), List.append_nil]; exact h, out_r⟩
    show fb_X12_writeString_2 (fn_X12_writeString_2 M) (nI x) (nI q) t = _
    unfold fb_X12_writeString_2
    rw [g_1117 (by omega), Option.bind_some, a3, if_pos (nI_le (by omega) (by omega))]
  | succ d ih =>
    intro N q cur t hq hN hs h hc
    obtain ⟨M, rfl⟩ : ∃ M, N = M + 1 := ⟨N - 1, by omega⟩
    have hs' := hs
    obtain ⟨bg, s1, s2, s3, s4⟩ := hs'
    obtain ⟨a, a1, a2, a3, al, a4⟩ := s1 x hx
    have hlt : q < (ts.getD x []).length := by omega
    have hb := s4 x q
    obtain ⟨t1, b1, b2, b3⟩ := r_write (b := (ts.getD x []).getD q 0) h hb (by omega)
    obtain ⟨t2, c1, c2, c3⟩ := ih M (q + 1) (cur ++ [(ts.getD x []).getD q 0]) t1 (by omega) (by omega) (hs.fr (fun k j z => b3.2.2 _ _ (by unfold wlF; omega))) b2 (by rw [List.length_append, List.length_cons, List.length_nil]; omega)
    refine ⟨t2, ?_, ?_, out_t b3 c3⟩
    · show fb_X12_writeString_2 (fn_X12_writeString_2 M) (nI x) (nI q) t = _
      unfold fb_X12_writeString_2
      rw [g_1117 (by omega), Option.bind_some, a3, if_neg (nI_ge hlt (by omega)), g_1116 (by omega), Option.bind_some, a2, nI_add, g_1097 (by omega), Option.bind_some, a4 q hlt, b1, Option.bind_some, nI_1]
      exact c1
    · rw [dropN hlt]
      rw [List.append_assoc] at c2
      exact c2
theorem r_writeS {t : uS} {ts : List (List Nat)} {x : Nat} {cur : List Nat} (hx : x < ts.length) (hs : rSt t ts) (h : rLt t cur) (hc : cur.length + (ts.getD x []).length ≤ 6000) : ∃ t1 : uS, fn_X12_writeString (nI x) t = some t1 ∧ rLt t1 (cur ++ ts.getD x []) ∧ out wlI wlF t t1 := by
  obtain ⟨t1, a1, a2, a3⟩ := r_wStr hx (ts.getD x []).length uFu 0 cur t (by omega) (by obtain ⟨bg, s1, -⟩ := hs; obtain ⟨a, -, -, -, al, -⟩ := s1 x hx; show _ ≤ 1000000; omega) hs h hc
  rw [List.drop_zero] at a2
  exact ⟨t1, a1, a2, a3⟩
theorem r_wEnd {t : uS} {cur : List Nat} (h : rLt t cur) (hc : cur.length + 2 ≤ 6000) : ∃ t1 : uS, fn_X12_writeEnd t = some t1 ∧ rLt t1 (cur ++ kW_66) ∧ out wlI wlF t t1 := by
  obtain ⟨t1, a1, a2, a3⟩ := r_write (b := 13) h (by decide) (by omega)
  obtain ⟨t2, b1, b2, b3⟩ := r_write (b := 10) a2 (by decide) (by rw [List.length_append, List.length_cons, List.length_nil]; omega)
  refine ⟨t2, ?_, ?_, out_t a3 b3⟩
  · unfold fn_X12_writeEnd
    rw [show (13 : Int32) = nI 13 from rfl, a1, Option.bind_some, show (10 : Int32) = nI 10 from rfl, b1, Option.bind_some]
  · rw [List.append_assoc] at b2
    exact b2
/-- the first Subject's value -/
theorem r_wSubV {fs : List (List Nat × List Nat)} {f : Nat} (ho : fsO fs) (hf : f < fs.length) : ∀ (d N q : Nat) (cur : List Nat) (t : uS), q + d = (fvl fs f).length → d + 1 ≤ N → rFl t fs → rLt t cur → cur.length + d ≤ 6000 → ∃ t1 : uS, fn_X12_writeSubject_30 N (nI f) (nI q) t = some t1 ∧ rLt t1 (cur ++ (fvl fs f).drop q) ∧ out wlI wlF t t1 := by
  have tl := tot_len fs
  have ho1 := ho.1
  intro d
  induction d with
  | zero =>
    intro N q cur t hq hN hs h hc
    obtain ⟨M, rfl⟩ : ∃ M, N = M + 1 := ⟨N - 1, by omega⟩
    obtain ⟨a, a1, a2, a3, a4⟩ := (hs.2 f hf).2
    refine ⟨t, ?_, by rw [List.drop_eq_nil_of_le (by omega), List.append_nil]; exact h, out_r⟩
    show fb_X12_writeSubject_30 (fn_X12_writeSubject_30 M) (nI f) (nI q) t = _
    unfold fb_X12_writeSubject_30
    rw [g_1091 (by omega), Option.bind_some, a3, if_pos (nI_le (by omega) (by omega))]
  | succ d ih =>
    intro N q cur t hq hN hs h hc
    obtain ⟨M, rfl⟩ : ∃ M, N = M + 1 := ⟨N - 1, by omega⟩
    obtain ⟨a, a1, a2, a3, a4⟩ := (hs.2 f hf).2
    have hlt : q < (fvl fs f).length := by omega
    have hb := (ho.2 f).2.1 q
    obtain ⟨t1, b1, b2, b3⟩ := r_write (b := (fvl fs f).getD q 0) h hb (by omega)
    obtain ⟨t2, c1, c2, c3⟩ := ih M (q + 1) (cur ++ [(fvl fs f).getD q 0]) t1 (by omega) (by omega) (hs.o b3 (by unfold wlI; omega) (fun k f _ _ => by unfold wlF; omega)) b2 (by rw [List.length_append, List.length_cons, List.length_nil]; omega)
    refine ⟨t2, ?_, ?_, out_t b3 c3⟩
    · show fb_X12_writeSubject_30 (fn_X12_writeSubject_30 M) (nI f) (nI q) t = _
      unfold fb_X12_writeSubject_30
      rw [g_1091 (by omega), Option.bind_some, a3, if_neg (nI_ge hlt (by omega)), g_1090 (by omega), Option.bind_some, a2, nI_add, g_1092 (by omega), Option.bind_some, a4 q hlt, b1, Option.bind_some, nI_1]
      exact c1
    · rw [dropN hlt]
      rw [List.append_assoc] at c2
      exact c2
def wsI (k f : Nat) : Prop := k = 1079 ∧ (f = 21 ∨ f = 23 ∨ f = 112)
def wsF (k _f : Nat) : Prop := k = 1093 ∨ k = 1094 ∨ k = 1143
theorem ws_w {t t1 : uS} (h : out wlI wlF t t1) : out wsI wsF t t1 := out_w h (fun k f z => by unfold wlI at z; unfold wsI; omega) (fun k f z => by unfold wlF at z; unfold wsF; omega)
theorem ws_o {t t1 : uS} (h : out onwI onwF t t1) : out wsI wsF t t1 := out_w h (fun k f z => by unfold onwI at z; unfold wsI; omega) (fun k f z => by unfold onwF at z; unfold wsF; omega)
theorem rLt.onw {t t1 : uS} {cur : List Nat} (h : rLt t cur) (o : out onwI onwF t t1) : rLt t1 cur := ⟨(o.2.1 _ _ (by unfold onwI; omega)).trans h.1, h.2.1, h.2.2.1, fun j hj => (o.2.2 _ _ (by unfold onwF; omega)).trans (h.2.2.2 j hj)⟩
theorem r_wSub {fs : List (List Nat × List Nat)} (ho : fsO fs) : ∀ (d N q : Nat) (cur : List Nat) (t : uS), q + d = fs.length → d + 1 ≤ N → rFl t fs → rLt t cur → cur.length + 4000 ≤ 6000 → ∃ t1 : uS, fn_X12_writeSubject_2 N (nI q) t = some t1 ∧ rLt t1 (cur ++ (match ffst (fun f => eqW (fnm fs f) kW_97) d q with | some f => fvl fs f | none => [])) ∧ out wsI wsF t t1 := by
  have tl := tot_len fs
  have ho1 := ho.1
  intro d
  induction d with
  | zero =>
    intro N q cur t hq hN hs h hc
    obtain ⟨M, rfl⟩ : ∃ M, N = M + 1 := ⟨N - 1, by omega⟩
    refine ⟨t, ?_, by show rLt t (cur ++ []); rw [List.append_nil]; exact h, out_r⟩
    show fb_X12_writeSubject_2 (fn_X12_writeSubject_2 M) (nI q) t = _
    unfold fb_X12_writeSubject_2
    rw [hs.1, if_pos (nI_le (by omega) (by omega))]
  | succ d ih =>
    intro N q cur t hq hN hs h hc
    obtain ⟨M, rfl⟩ : ∃ M, N = M + 1 := ⟨N - 1, by omega⟩
    obtain ⟨t1, a1, a2, a3⟩ := r_oneN hs ho (show q < fs.length by omega)
    obtain ⟨t2, b1, b2, b3⟩ := r_oneIs (W := kW_97) a2 (by decide) (by decide)
    have oo := out_t (onw1 a3) (onw2 b3)
    have hs2 := hs.onw oo
    have h2 := h.onw oo
    show ∃ t1 : uS, fb_X12_writeSubject_2 (fn_X12_writeSubject_2 M) (nI q) t = _ ∧ _
    unfold fb_X12_writeSubject_2 ffst
    rw [hs.1, if_neg (nI_ge (by omega) (by omega)), a1, Option.bind_some, b1, Option.bind_some, nI_1]
    dsimp only
    by_cases c : eqW (fnm fs q) kW_97 = true
    · rw [if_pos c, if_pos c]
      have hv := tot_vl fs q
      obtain ⟨t3, c1, c2, c3⟩ := r_wSubV ho (show q < fs.length by omega) (fvl fs q).length uFu 0 cur t2 (by omega) (by show _ ≤ 1000000; omega) hs2 h2 (by omega)
      rw [List.drop_zero] at c2
      exact ⟨t3, c1, c2, out_t (ws_o oo) (ws_w c3)⟩
    · rw [if_neg c, if_neg c]
      obtain ⟨t3, c1, c2, c3⟩ := ih M (q + 1) cur t2 (by omega) (by omega) hs2 h2 hc
      exact ⟨t3, c1, c2, out_t (ws_o oo) c3⟩
theorem r_writeSub {t : uS} {fs : List (List Nat × List Nat)} {cur : List Nat} (ho : fsO fs) (hs : rFl t fs) (h : rLt t cur) (hc : cur.length + 4000 ≤ 6000) : ∃ t1 : uS, fn_X12_writeSubject t = some t1 ∧ rLt t1 (cur ++ sjT fs) ∧ out wsI wsF t t1 := by
  have tl := tot_len fs
  have ho1 := ho.1
  exact r_wSub ho fs.length uFu 0 cur t (by omega) (by show _ ≤ 1000000; omega) hs h hc
theorem sjT_len {fs : List (List Nat × List Nat)} (ho : fsO fs) : (sjT fs).length ≤ 4000 := by
  unfold sjT
  have ho1 := ho.1
  cases ffst (fun f => eqW (fnm fs f) kW_97) fs.length 0 with
  | none => simp
  | some f => have := tot_vl fs f; dsimp only; omega
