/-- more room does no harm -/
theorem h_rmu {s : State} {pl : Platform} {B d d' : Nat} {σ : hS} (h : d ≤ d') (hr : s.hasRoom pl (h_rm B d' σ) = true) : s.hasRoom pl (h_rm B d σ) = true := by
  simp only [State.hasRoom, Bool.and_eq_true, decide_eq_true_eq] at hr ⊢
  obtain ⟨⟨⟨⟨h1, h2, h3, h4, h5, h6⟩, h7⟩, h8⟩, h9⟩ := hr
  have h1 : s.localsInUse + 64 * d' + stackMargin ≤ realStackBytes / 8 := h1
  have h2 : s.frames.length + d' ≤ _ := h2
  have h3 : s.frames.length + d' ≤ _ := h3
  have h4 : s.localsInUse + 64 * d' ≤ _ := h4
  have h5 : s.localsInUse + 64 * d' ≤ _ := h5
  refine ⟨⟨⟨⟨?_, ?_, ?_, ?_, ?_, h6⟩, h7⟩, h8⟩, h9⟩
  · show s.localsInUse + 64 * d + stackMargin ≤ _; omega
  · show s.frames.length + d ≤ _; omega
  · show s.frames.length + d ≤ _; omega
  · show s.localsInUse + 64 * d ≤ _; omega
  · show s.localsInUse + 64 * d ≤ _; omega
theorem Ct.up {l : Launch} {D : va_G} {ty : List (ClassId × FieldType)} {B : Nat} {Z : State → Heap → Prop} {M : hM} {d d' : Nat} {σ : hS} {as : List Value} {P : hS → Option Value → Prop} (h : d ≤ d') (hC : Ct l D ty B Z d M σ as P) : Ct l D ty B Z d' M σ as P := by
  intro p e ha hf hk s m args below hfr happ hP hK
  refine hC p e ha hf hk s m args below hfr ?_ hP hK
  unfold Spec.appliesLoose at happ ⊢
  rw [hfr] at happ ⊢
  simp only [Bool.and_eq_true] at happ ⊢
  exact ⟨⟨happ.1.1, h_rmu h happ.1.2⟩, happ.2⟩
/-- class and reference, as functions, answer alike; I before, I' behind -/
def sm_all (I I' : uS → Prop) : Prop := (∀ s : uS, I s → I' s) ∧
  (∀ x0 x1 x2 x3 x4 : Int32, ∀ s : uS, I s → ∃ (v : Bool) (s1 : uS) (s2 : uS), fn_X11_feed x0 x1 x2 x3 x4 s = some (s1, v) ∧ fn_X12_feed x0 x1 x2 x3 x4 s1 = some (s2, v) ∧ I' s2) ∧
  (∀ s : uS, I s → ∃ (v : Bool) (s1 : uS) (s2 : uS), fn_X11_connect  s = some (s1, v) ∧ fn_X12_connect  s1 = some (s2, v) ∧ I' s2) ∧
  (∀ x0 : Int32, ∀ s : uS, I s → ∃ (v : Int32) (s1 : uS) (s2 : uS), fn_X11_mail x0 s = some (s1, v) ∧ fn_X12_mail x0 s1 = some (s2, v) ∧ I' s2) ∧
  (∀ x0 x1 : Int32, ∀ s : uS, I s → ∃ (v : Int32) (s1 : uS) (s2 : uS), fn_X11_manage x0 x1 s = some (s1, v) ∧ fn_X12_manage x0 x1 s1 = some (s2, v) ∧ I' s2) ∧
  (∀ x0 : Int32, ∀ s : uS, I s → ∃ (v : Int64) (s1 : uS) (s2 : uS), fn_X11_reply x0 s = some (s1, v) ∧ fn_X12_reply x0 s1 = some (s2, v) ∧ I' s2) ∧
  (∀ s : uS, I s → ∃ (v : Int32) (s1 : uS) (s2 : uS), fn_X11_tick  s = some (s1, v) ∧ fn_X12_tick  s1 = some (s2, v) ∧ I' s2) ∧
  (∀ x0 : Int32, ∀ s : uS, I s → ∃ (v : Bool) (s1 : uS) (s2 : uS), fn_X11_cut x0 s = some (s1, v) ∧ fn_X12_cut x0 s1 = some (s2, v) ∧ I' s2) ∧
  (∀ s : uS, I s → ∃ (v : Int32) (s1 : uS) (s2 : uS), fn_X11_start  s = some (s1, v) ∧ fn_X12_start  s1 = some (s2, v) ∧ I' s2) ∧
  (∀ x0 x1 : Int32, ∀ s : uS, I s → ∃ (v : Int32), fn_X11_messages x0 x1 s = some v ∧ fn_X12_messages x0 x1 s = some v ∧ I' s) ∧
  (∀ x0 x1 x2 x3 : Int32, ∀ s : uS, I s → ∃ (v : Int32), fn_X11_message x0 x1 x2 x3 s = some v ∧ fn_X12_message x0 x1 x2 x3 s = some v ∧ I' s) ∧
  (∀ x0 x1 : Int32, ∀ s : uS, I s → ∃ (v : Int64), fn_X11_bytes x0 x1 s = some v ∧ fn_X12_bytes x0 x1 s = some v ∧ I' s) ∧
  (∀ x0 x1 x2 : Int32, ∀ s : uS, I s → ∃ (v : Int64), fn_X11_name x0 x1 x2 s = some v ∧ fn_X12_name x0 x1 x2 s = some v ∧ I' s) ∧
  (∀ x0 : Int32, ∀ s : uS, I s → ∃ (v : Int32), fn_X11_count x0 s = some v ∧ fn_X12_count x0 s = some v ∧ I' s)
set_option maxRecDepth 100000 in
set_option maxHeartbeats 4000000 in
theorem l_all_of {l : Launch} {D : va_G} {A : Nat → ClassId} {B : Nat} {Z : State → Heap → Prop} {vF : Value} (uk : uK B Z vF) (un : uX A B Z) {I I' : uS → Prop} (h : sm_all I I') : l_all l D A B Z 117 B (B + 1079) (fun σ => ∃ s : uS, uSt A B σ s ∧ I s) (fun σ => ∃ s : uS, uSt A B σ s ∧ I' s) := by
  obtain ⟨h0, hfeed, hconnect, hmail, hmanage, hreply, htick, hcut, hstart, hmessages, hmessage, hbytes, hname, hcount⟩ := h
  refine ⟨fun σ ⟨s, hs, hI⟩ => ⟨s, hs, h0 s hI⟩, ?_, ?_, ?_, ?_, ?_, ?_, ?_, ?_, ?_, ?_, ?_, ?_, ?_⟩
  · intro x0 x1 x2 x3 x4
    rintro σ ⟨s, hs, hI⟩
    obtain ⟨v, s1, s2, e1, e2, h2⟩ := hfeed x0 x1 x2 x3 x4 s hI
    refine ⟨h_rcO (r := (RX11, TX11, 17)) (hs.obj so_0.is (by decide)) rfl, _, (xc_X11_feed uk e1 σ hs).up (by decide), fun σ1 w hp => ?_⟩
    obtain ⟨hs1, rfl⟩ := hp
    refine ⟨_, rfl, h_rcO (r := (RX12, TX12, 153)) (hs1.obj so_1079.is (by decide)) rfl, _, (xc_X12_feed uk e2 σ1 hs1).up (by decide), fun σ2 w hp => ?_⟩
    obtain ⟨hs2, rfl⟩ := hp
    exact ⟨rfl, _, hs2, h2⟩
  · rintro σ ⟨s, hs, hI⟩
    obtain ⟨v, s1, s2, e1, e2, h2⟩ := hconnect s hI
    refine ⟨h_rcO (r := (RX11, TX11, 17)) (hs.obj so_0.is (by decide)) rfl, _, (xc_X11_connect uk e1 σ hs).up (by decide), fun σ1 w hp => ?_⟩
    obtain ⟨hs1, rfl⟩ := hp
    refine ⟨_, rfl, h_rcO (r := (RX12, TX12, 153)) (hs1.obj so_1079.is (by decide)) rfl, _, (xc_X12_connect uk e2 σ1 hs1).up (by decide), fun σ2 w hp => ?_⟩
    obtain ⟨hs2, rfl⟩ := hp
    exact ⟨rfl, _, hs2, h2⟩
  · intro x0
    rintro σ ⟨s, hs, hI⟩
    obtain ⟨v, s1, s2, e1, e2, h2⟩ := hmail x0 s hI
    refine ⟨h_rcO (r := (RX11, TX11, 17)) (hs.obj so_0.is (by decide)) rfl, _, (xc_X11_mail uk un e1 σ hs).up (by decide), fun σ1 w hp => ?_⟩
    obtain ⟨hs1, rfl⟩ := hp
    refine ⟨_, rfl, h_rcO (r := (RX12, TX12, 153)) (hs1.obj so_1079.is (by decide)) rfl, _, (xc_X12_mail uk un e2 σ1 hs1).up (by decide), fun σ2 w hp => ?_⟩
    obtain ⟨hs2, rfl⟩ := hp
    exact ⟨rfl, _, hs2, h2⟩
  · intro x0 x1
    rintro σ ⟨s, hs, hI⟩
    obtain ⟨v, s1, s2, e1, e2, h2⟩ := hmanage x0 x1 s hI
    refine ⟨h_rcO (r := (RX11, TX11, 17)) (hs.obj so_0.is (by decide)) rfl, _, (xc_X11_manage uk un e1 σ hs).up (by decide), fun σ1 w hp => ?_⟩
    obtain ⟨hs1, rfl⟩ := hp
    refine ⟨_, rfl, h_rcO (r := (RX12, TX12, 153)) (hs1.obj so_1079.is (by decide)) rfl, _, (xc_X12_manage uk un e2 σ1 hs1).up (by decide), fun σ2 w hp => ?_⟩
    obtain ⟨hs2, rfl⟩ := hp
    exact ⟨rfl, _, hs2, h2⟩
  · intro x0
    rintro σ ⟨s, hs, hI⟩
    obtain ⟨v, s1, s2, e1, e2, h2⟩ := hreply x0 s hI
    refine ⟨h_rcO (r := (RX11, TX11, 17)) (hs.obj so_0.is (by decide)) rfl, _, (xc_X11_reply uk e1 σ hs).up (by decide), fun σ1 w hp => ?_⟩
    obtain ⟨hs1, rfl⟩ := hp
    refine ⟨_, rfl, h_rcO (r := (RX12, TX12, 153)) (hs1.obj so_1079.is (by decide)) rfl, _, (xc_X12_reply uk e2 σ1 hs1).up (by decide), fun σ2 w hp => ?_⟩
    obtain ⟨hs2, rfl⟩ := hp
    exact ⟨rfl, _, hs2, h2⟩
  · rintro σ ⟨s, hs, hI⟩
    obtain ⟨v, s1, s2, e1, e2, h2⟩ := htick s hI
    refine ⟨h_rcO (r := (RX11, TX11, 17)) (hs.obj so_0.is (by decide)) rfl, _, (xc_X11_tick uk e1 σ hs).up (by decide), fun σ1 w hp => ?_⟩
    obtain ⟨hs1, rfl⟩ := hp
    refine ⟨_, rfl, h_rcO (r := (RX12, TX12, 153)) (hs1.obj so_1079.is (by decide)) rfl, _, (xc_X12_tick uk e2 σ1 hs1).up (by decide), fun σ2 w hp => ?_⟩
    obtain ⟨hs2, rfl⟩ := hp
    exact ⟨rfl, _, hs2, h2⟩
  · intro x0
    rintro σ ⟨s, hs, hI⟩
    obtain ⟨v, s1, s2, e1, e2, h2⟩ := hcut x0 s hI
    refine ⟨h_rcO (r := (RX11, TX11, 17)) (hs.obj so_0.is (by decide)) rfl, _, (xc_X11_cut uk e1 σ hs).up (by decide), fun σ1 w hp => ?_⟩
    obtain ⟨hs1, rfl⟩ := hp
    refine ⟨_, rfl, h_rcO (r := (RX12, TX12, 153)) (hs1.obj so_1079.is (by decide)) rfl, _, (xc_X12_cut uk e2 σ1 hs1).up (by decide), fun σ2 w hp => ?_⟩
    obtain ⟨hs2, rfl⟩ := hp
    exact ⟨rfl, _, hs2, h2⟩
  · rintro σ ⟨s, hs, hI⟩
    obtain ⟨v, s1, s2, e1, e2, h2⟩ := hstart s hI
    refine ⟨h_rcO (r := (RX11, TX11, 17)) (hs.obj so_0.is (by decide)) rfl, _, (xc_X11_start uk e1 σ hs).up (by decide), fun σ1 w hp => ?_⟩
    obtain ⟨hs1, rfl⟩ := hp
    refine ⟨_, rfl, h_rcO (r := (RX12, TX12, 153)) (hs1.obj so_1079.is (by decide)) rfl, _, (xc_X12_start uk e2 σ1 hs1).up (by decide), fun σ2 w hp => ?_⟩
    obtain ⟨hs2, rfl⟩ := hp
    exact ⟨rfl, _, hs2, h2⟩
  · intro x0 x1
    rintro σ ⟨s, hs, hI⟩
    obtain ⟨v, e1, e2, h2⟩ := hmessages x0 x1 s hI
    refine ⟨h_rcO (r := (RX11, TX11, 17)) (hs.obj so_0.is (by decide)) rfl, _, (xc_X11_messages uk e1 σ hs).up (by decide), fun σ1 w hp => ?_⟩
    obtain ⟨hs1, rfl⟩ := hp
    refine ⟨_, rfl, h_rcO (r := (RX12, TX12, 153)) (hs1.obj so_1079.is (by decide)) rfl, _, (xc_X12_messages uk e2 σ1 hs1).up (by decide), fun σ2 w hp => ?_⟩
    obtain ⟨hs2, rfl⟩ := hp
    exact ⟨rfl, _, hs2, h2⟩
  · intro x0 x1 x2 x3
    rintro σ ⟨s, hs, hI⟩
    obtain ⟨v, e1, e2, h2⟩ := hmessage x0 x1 x2 x3 s hI
    refine ⟨h_rcO (r := (RX11, TX11, 17)) (hs.obj so_0.is (by decide)) rfl, _, (xc_X11_message uk e1 σ hs).up (by decide), fun σ1 w hp => ?_⟩
    obtain ⟨hs1, rfl⟩ := hp
    refine ⟨_, rfl, h_rcO (r := (RX12, TX12, 153)) (hs1.obj so_1079.is (by decide)) rfl, _, (xc_X12_message uk e2 σ1 hs1).up (by decide), fun σ2 w hp => ?_⟩
    obtain ⟨hs2, rfl⟩ := hp
    exact ⟨rfl, _, hs2, h2⟩
  · intro x0 x1
    rintro σ ⟨s, hs, hI⟩
    obtain ⟨v, e1, e2, h2⟩ := hbytes x0 x1 s hI
    refine ⟨h_rcO (r := (RX11, TX11, 17)) (hs.obj so_0.is (by decide)) rfl, _, (xc_X11_bytes uk e1 σ hs).up (by decide), fun σ1 w hp => ?_⟩
    obtain ⟨hs1, rfl⟩ := hp
    refine ⟨_, rfl, h_rcO (r := (RX12, TX12, 153)) (hs1.obj so_1079.is (by decide)) rfl, _, (xc_X12_bytes uk e2 σ1 hs1).up (by decide), fun σ2 w hp => ?_⟩
    obtain ⟨hs2, rfl⟩ := hp
    exact ⟨rfl, _, hs2, h2⟩
  · intro x0 x1 x2
    rintro σ ⟨s, hs, hI⟩
    obtain ⟨v, e1, e2, h2⟩ := hname x0 x1 x2 s hI
    refine ⟨h_rcO (r := (RX11, TX11, 17)) (hs.obj so_0.is (by decide)) rfl, _, (xc_X11_name uk e1 σ hs).up (by decide), fun σ1 w hp => ?_⟩
    obtain ⟨hs1, rfl⟩ := hp
    refine ⟨_, rfl, h_rcO (r := (RX12, TX12, 153)) (hs1.obj so_1079.is (by decide)) rfl, _, (xc_X12_name uk e2 σ1 hs1).up (by decide), fun σ2 w hp => ?_⟩
    obtain ⟨hs2, rfl⟩ := hp
    exact ⟨rfl, _, hs2, h2⟩
  · intro x0
    rintro σ ⟨s, hs, hI⟩
    obtain ⟨v, e1, e2, h2⟩ := hcount x0 s hI
    refine ⟨h_rcO (r := (RX11, TX11, 17)) (hs.obj so_0.is (by decide)) rfl, _, (xc_X11_count uk e1 σ hs).up (by decide), fun σ1 w hp => ?_⟩
    obtain ⟨hs1, rfl⟩ := hp
    refine ⟨_, rfl, h_rcO (r := (RX12, TX12, 153)) (hs1.obj so_1079.is (by decide)) rfl, _, (xc_X12_count uk e2 σ1 hs1).up (by decide), fun σ2 w hp => ?_⟩
    obtain ⟨hs2, rfl⟩ := hp
    exact ⟨rfl, _, hs2, h2⟩
/-- the law's loop: j calls are done -/
theorem law_loop {l : Launch} {D : va_G} {A : Nat → ClassId} {B : Nat} {Z : State → Heap → Prop} {vF : Value} (uk : uK B Z vF) (un : uX A B Z) {I : Nat → uS → Prop} (h : ∀ j : Nat, j < 512 → sm_all (I j) (I (j + 1))) {nm : String} {d b L : Nat} {xs : Nat → Int32} {σ0 : hS} {P : hS → Option Value → Prop} (hX : ∀ (U : State) (H : Heap), Z U H → va_X b L xs U H) (hL : L ≤ 3072) (hd : 117 + 1 ≤ d) (hP : ∀ σ : hS, P σ (some (.int 1))) :
    ∀ (n j : Nat) (σ : hS), j + n = 512 → (∃ s : uS, uSt A B σ s ∧ I j s) → G l D (h_ty A) B Z (mL_law nm) d σ0 P σ 18 [(3, .int (nI (6 * j))), (0, .ref b), (1, .ref B), (2, .ref (B + 1079))] [] := by
  intro n
  induction n with
  | zero =>
    intro j σ hj hI
    exact law_exit (P := P) (i := 6 * j) uk.1.1 hX hL hP (by omega) (by omega)
  | succ n ih =>
    intro j σ hj hI
    exact law_head (P := P) (d1 := 117) (i := 6 * j) uk.1.1 hX hL hd (l_all_of uk un (h j (by omega))) hP (by omega) (fun _ σ2 h2 => ih (j + 1) σ2 (by omega) h2) hI
