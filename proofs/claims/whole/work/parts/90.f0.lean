/-- finer: only the fields ps of single objects, the rows as, the regions rs, the places ks are others -/
def agf (ps : List (Nat × Nat)) (as rs ks : List Nat) (s s1 : uS) : Prop := 1171 ≤ s.n → s.n ≤ s1.n ∧ (∀ k : Nat, k < s.n → s1.c k = s.c k) ∧ (12 ∉ rs → s1.n = s.n ∧ s1.m = s.m ∧ s1.c = s.c) ∧ (∀ k f : Nat, k < s.n → rg k ∉ rs → k ∉ ks → (k, f) ∉ ps → s1.I k f = s.I k f ∧ s1.R k f = s.R k f) ∧ ∀ k : Nat, k < s.n → rg k ∉ rs → k ∉ ks → k ∉ as → s1.F k = s.F k ∧ s1.L k = s.L k ∧ s1.P k = s.P k
theorem agf.rf {ps : List (Nat × Nat)} {as rs ks : List Nat} {s : uS} : agf ps as rs ks s s := fun _ => ⟨Nat.le_refl _, fun _ _ => rfl, fun _ => ⟨rfl, rfl, rfl⟩, fun _ _ _ _ _ _ => ⟨rfl, rfl⟩, fun _ _ _ _ _ => ⟨rfl, rfl, rfl⟩⟩
theorem agf.tr {ps : List (Nat × Nat)} {as rs ks : List Nat} {s s1 s2 : uS} (h : agf ps as rs ks s s1) (h' : agf ps as rs ks s1 s2) : agf ps as rs ks s s2 := fun hn => by
  obtain ⟨a1, a2, a3, a4, a5⟩ := h hn
  obtain ⟨b1, b2, b3, b4, b5⟩ := h' (Nat.le_trans hn a1)
  refine ⟨Nat.le_trans a1 b1, fun k hk => (b2 k (Nat.lt_of_lt_of_le hk a1)).trans (a2 k hk), fun h12 => ?_, fun k f hk h1 h2 h3 => ?_, fun k hk h1 h2 h3 => ?_⟩
  · obtain ⟨p1, p2, p3⟩ := a3 h12
    obtain ⟨q1, q2, q3⟩ := b3 h12
    exact ⟨q1.trans p1, q2.trans p2, q3.trans p3⟩
  · obtain ⟨p1, p2⟩ := a4 k f hk h1 h2 h3
    obtain ⟨q1, q2⟩ := b4 k f (Nat.lt_of_lt_of_le hk a1) h1 h2 h3
    exact ⟨q1.trans p1, q2.trans p2⟩
  · obtain ⟨p1, p2, p3⟩ := a5 k hk h1 h2 h3
    obtain ⟨q1, q2, q3⟩ := b5 k (Nat.lt_of_lt_of_le hk a1) h1 h2 h3
    exact ⟨q1.trans p1, q2.trans p2, q3.trans p3⟩
theorem agf.mo {ps ps' : List (Nat × Nat)} {as as' rs rs' ks ks' : List Nat} {s s1 : uS} (h : agf ps as rs ks s s1) (h1 : ∀ x ∈ ps, x ∈ ps') (h2 : ∀ x ∈ as, x ∈ as') (h3 : ∀ x ∈ rs, x ∈ rs') (h4 : ∀ k ∈ ks, rg k ∈ rs' ∨ k ∈ ks') : agf ps' as' rs' ks' s s1 := fun hn => by
  obtain ⟨a1, a2, a3, a4, a5⟩ := h hn
  exact ⟨a1, a2, fun h12 => a3 (fun e => h12 (h3 _ e)), fun k f hk g1 g2 g3 => a4 k f hk (fun e => g1 (h3 _ e)) (fun e => (h4 k e).elim g1 g2) (fun e => g3 (h1 _ e)), fun k hk g1 g2 g3 => a5 k hk (fun e => g1 (h3 _ e)) (fun e => (h4 k e).elim g1 g2) (fun e => g3 (h2 _ e))⟩
theorem agf_wI {ps : List (Nat × Nat)} {as rs ks : List Nat} {s : uS} {a f : Nat} {v : Int32} (h : (a, f) ∈ ps ∨ rg a ∈ rs ∨ a ∈ ks) : agf ps as rs ks s (wI s a f v) := fun _ => ⟨Nat.le_refl _, fun _ _ => rfl, fun _ => ⟨rfl, rfl, rfl⟩, fun k g _ h1 h2 h3 => ⟨if_neg (fun e => by rw [e.1] at h1 h2; rw [e.1, e.2] at h3; exact h.elim h3 (fun h => h.elim h1 h2)), rfl⟩, fun _ _ _ _ _ => ⟨rfl, rfl, rfl⟩⟩
theorem agf_wR {ps : List (Nat × Nat)} {as rs ks : List Nat} {s : uS} {a f : Nat} {v : Option Nat} (h : (a, f) ∈ ps ∨ rg a ∈ rs ∨ a ∈ ks) : agf ps as rs ks s (wR s a f v) := fun _ => ⟨Nat.le_refl _, fun _ _ => rfl, fun _ => ⟨rfl, rfl, rfl⟩, fun k g _ h1 h2 h3 => ⟨rfl, if_neg (fun e => by rw [e.1] at h1 h2; rw [e.1, e.2] at h3; exact h.elim h3 (fun h => h.elim h1 h2))⟩, fun _ _ _ _ _ => ⟨rfl, rfl, rfl⟩⟩
theorem agf_w {ps : List (Nat × Nat)} {as rs ks : List Nat} {s s1 : uS} {a : Nat} (h : a ∈ as ∨ rg a ∈ rs ∨ a ∈ ks) (hc : s1.c = s.c) (hn : s1.n = s.n) (hm : s1.m = s.m) (hI : s1.I = s.I) (hR : s1.R = s.R) (ho : ∀ k : Nat, k ≠ a → s1.F k = s.F k ∧ s1.L k = s.L k ∧ s1.P k = s.P k) : agf ps as rs ks s s1 := fun _ => ⟨Nat.le_of_eq hn.symm, fun k _ => by rw [hc], fun _ => ⟨hn, hm, hc⟩, fun k f _ _ _ _ => ⟨by rw [hI], by rw [hR]⟩, fun k _ h1 h2 h3 => ho k (fun e => by subst e; exact h.elim h3 (fun h => h.elim h1 h2))⟩
theorem agf_iput {ps : List (Nat × Nat)} {as rs ks : List Nat} {s s1 : uS} {t a : Nat} {i v : Int32} (e : iput t s a i v = some s1) (h : a ∈ as ∨ rg a ∈ rs ∨ a ∈ ks) : agf ps as rs ks s s1 := by
  obtain ⟨-, h3⟩ := uu_grd e
  cases h3
  exact agf_w h rfl rfl rfl rfl rfl (fun _ hk => ⟨uw2_ne hk, rfl, rfl⟩)
theorem agf_lput {ps : List (Nat × Nat)} {as rs ks : List Nat} {s s1 : uS} {a : Nat} {i : Int32} {v : Int64} (e : lput s a i v = some s1) (h : a ∈ as ∨ rg a ∈ rs ∨ a ∈ ks) : agf ps as rs ks s s1 := by
  obtain ⟨-, h3⟩ := uu_grd e
  cases h3
  exact agf_w h rfl rfl rfl rfl rfl (fun _ hk => ⟨rfl, uw2_ne hk, rfl⟩)
theorem agf_pput {ps : List (Nat × Nat)} {as rs ks : List Nat} {s s1 : uS} {a v : Nat} {i : Int32} (e : pput s a i v = some s1) (h : a ∈ as ∨ rg a ∈ rs ∨ a ∈ ks) : agf ps as rs ks s s1 := by
  obtain ⟨-, h3⟩ := uu_grd e
  cases h3
  exact agf_w h rfl rfl rfl rfl rfl (fun _ hk => ⟨rfl, rfl, uw2_ne hk⟩)
theorem agf_acpy {ps : List (Nat × Nat)} {as rs ks : List Nat} {s s1 : uS} {k0 a : Nat} {sp dp n : Int32} (e : acpy s k0 sp a dp n = some s1) (h : a ∈ as ∨ rg a ∈ rs ∨ a ∈ ks) : agf ps as rs ks s s1 := by
  obtain ⟨-, h3⟩ := uu_grd e
  cases h3
  exact agf_w h rfl rfl rfl rfl rfl (fun _ hk => ⟨if_neg hk, rfl, rfl⟩)
/-- the coarser frame that names no region but 12, as the finer -/
theorem agr.fine {rs ks : List Nat} {s s1 : uS} (h : agr rs ks s s1) : agf [] [] rs ks s s1 := fun hn => by
  obtain ⟨a1, a2, a3, a4⟩ := h hn
  exact ⟨a1, a2, a3, fun k f hk h1 h2 _ => by obtain ⟨p1, p2, -⟩ := a4 k hk h1 h2; exact ⟨by rw [p1], by rw [p2]⟩, fun k hk h1 h2 _ => by obtain ⟨-, -, p3, p4, p5⟩ := a4 k hk h1 h2; exact ⟨p3, p4, p5⟩⟩
theorem agf_nbuf {ps : List (Nat × Nat)} {as rs ks : List Nat} {s s1 : uS} {x : Int32} (e : nbuf s x = some s1) (h : 12 ∈ rs) : agf ps as rs ks s s1 := (agr_nbuf (ks := ks) e h).fine.mo (fun _ h => nomatch h) (fun _ h => nomatch h) (fun _ h => h) (fun _ h => Or.inr h)
theorem agf_nent {ps : List (Nat × Nat)} {as rs ks : List Nat} {s s1 : uS} (e : nent s = some s1) (h : 12 ∈ rs) : agf ps as rs ks s s1 := (agr_nent (ks := ks) e h).fine.mo (fun _ h => nomatch h) (fun _ h => nomatch h) (fun _ h => h) (fun _ h => Or.inr h)
theorem zc_J7_copyOf_9075b {k0 : Nat} {x1 : Int32} {s : uS} {r : uS × Nat} (h : fn_J7_copyOf_9075b k0 x1 s = some r) : agf [] [] [12] [] s r.1 := (yc_J7_copyOf_9075b h).fine
theorem zc_J7_copyOfRangeByte_39247 {k0 : Nat} {x1 x2 : Int32} {s : uS} {r : uS × Nat} (h : fn_J7_copyOfRangeByte_39247 k0 x1 x2 s = some r) : agf [] [] [12] [] s r.1 := (yc_J7_copyOfRangeByte_39247 h).fine
theorem zc_J7_copyOfRange_39247 {k0 : Nat} {x1 x2 : Int32} {s : uS} {r : uS × Nat} (h : fn_J7_copyOfRange_39247 k0 x1 x2 s = some r) : agf [] [] [12] [] s r.1 := (yc_J7_copyOfRange_39247 h).fine
theorem zc_X8_passOver {k0 : Nat} {x1 : Int32} {s : uS} {r : uS × Int32} (hk0 : uSo k0 8) (h : fn_X8_passOver k0 x1 s = some r) : agf [] [] [] [k0] s r.1 := (yc_X8_passOver hk0 h).fine
