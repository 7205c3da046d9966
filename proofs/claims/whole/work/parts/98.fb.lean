/-! running a script: actions of the reference -/
/-- a plan: filed, sent on, flags, how many rejects and vacations, their nodes, whether it is kept, whether something was done -/
abbrev pl : Type := List (Option Nat × Nat) × List Nat × Nat × Nat × Nat × Nat × Nat × Bool × Bool
def pF (p : pl) : List (Option Nat × Nat) := p.1
def pDr (p : pl) : List Nat := p.2.1
def pg (p : pl) : Nat := p.2.2.1
def prj (p : pl) : Nat := p.2.2.2.1
def pvc (p : pl) : Nat := p.2.2.2.2.1
def pnr (p : pl) : Nat := p.2.2.2.2.2.1
def pnv (p : pl) : Nat := p.2.2.2.2.2.2.1
def pkp (p : pl) : Bool := p.2.2.2.2.2.2.2.1
def pac (p : pl) : Bool := p.2.2.2.2.2.2.2.2
def rPn (t : uS) (ts : List (List Nat)) (p : pl) (st : Bool) : Prop := rFi t ts (pF p) ∧ rDi t ts (pDr p) ∧ t.I 1079 94 = nI (pg p) ∧ pg p < 32 ∧ t.I 1079 95 = bI (pkp p) ∧ t.I 1079 96 = bI st ∧ t.I 1079 102 = nI (prj p) ∧ (0 < prj p → t.I 1079 103 = nI (pnr p)) ∧ t.I 1079 104 = nI (pvc p) ∧ (0 < pvc p → t.I 1079 105 = nI (pnv p)) ∧ t.I 1079 106 = bI (pac p)
theorem rPn.o {t t1 : uS} {ts : List (List Nat)} {p : pl} {st : Bool} {PI PF : Nat → Nat → Prop} (h : rPn t ts p st) (o : out PI PF t t1) (hI : ∀ f : Nat, 94 ≤ f → f ≤ 106 → ¬ PI 1079 f) (hF : ∀ k f : Nat, 1138 ≤ k → k ≤ 1140 → ¬ PF k f) : rPn t1 ts p st := by
  obtain ⟨h1, h2, h3, h4, h5, h6, h7, h8, h9, h10, h11⟩ := h
  have I : ∀ f : Nat, 94 ≤ f → f ≤ 106 → t1.I 1079 f = t.I 1079 f := fun f a b => o.2.1 _ _ (hI f a b)
  exact ⟨h1.o o (hI _ (by omega) (by omega)) (fun k f z => hF k f (by omega) (by omega)), h2.o o (hI _ (by omega) (by omega)) (fun f => hF _ f (by omega) (by omega)), (I _ (by omega) (by omega)).trans h3, h4, (I _ (by omega) (by omega)).trans h5, (I _ (by omega) (by omega)).trans h6, (I _ (by omega) (by omega)).trans h7, fun z => (I _ (by omega) (by omega)).trans (h8 z), (I _ (by omega) (by omega)).trans h9, fun z => (I _ (by omega) (by omega)).trans (h10 z), (I _ (by omega) (by omega)).trans h11⟩
theorem rPn.onw {t t1 : uS} {ts : List (List Nat)} {p : pl} {st : Bool} (h : rPn t ts p st) (o : out onwI onwF t t1) : rPn t1 ts p st := h.o o (fun f _ _ => by unfold onwI; omega) (fun k f _ _ => by unfold onwF; omega)
def acI (k f : Nat) : Prop := k = 1079 ∧ (f = 21 ∨ f = 23 ∨ (94 ≤ f ∧ f ≤ 97) ∨ f = 100 ∨ (102 ≤ f ∧ f ≤ 106))
def acF (k _f : Nat) : Prop := k = 1093 ∨ k = 1094 ∨ k = 1138 ∨ k = 1139 ∨ k = 1140
theorem ac_fi {t t1 : uS} (h : out fiI fiF t t1) : out acI acF t t1 := out_w h (fun k f z => by unfold fiI onwI at z; unfold acI; omega) (fun k f z => by unfold fiF onwF at z; unfold acF; omega)
theorem ac_on {t t1 : uS} (h : out onwI onwF t t1) : out acI acF t t1 := out_w h (fun k f z => by unfold onwI at z; unfold acI; omega) (fun k f z => by unfold onwF at z; unfold acF; omega)
theorem ac_di {t t1 : uS} (h : out (fun k f => k = 1079 ∧ f = 100) (fun k _ => k = 1140) t t1) : out acI acF t t1 := out_w h (fun k f z => by unfold acI; omega) (fun k f z => by unfold acF; omega)
/-- it is kept no more, but by a copy; something was done -/
theorem r_kept {t : uS} {n : Nat} {kp cp : Bool} (hn : n < 520) (h95 : t.I 1079 95 = bI kp) (h108 : t.F 1108 n = bI cp) : (if (t.I 1079 95) = 0 then (some (wI (wI t 1079 95 0) 1079 106 1)) else ((iget 22 t 1108 (nI n)).bind fun v4 => if v4 = 0 then (some (wI (wI t 1079 95 0) 1079 106 1)) else (some (wI (wI t 1079 95 1) 1079 106 1)))) = some (wI (wI t 1079 95 (bI (kp && cp))) 1079 106 1) := by
  rw [h95]
  cases kp with
  | false => rw [if_pos (show bI false = 0 from rfl)]; rfl
  | true =>
    rw [if_neg (show ¬ bI true = 0 by decide), g_1108 hn, Option.bind_some, h108]
    cases cp with
    | false => rw [if_pos (show bI false = 0 from rfl)]; rfl
    | true => rw [if_neg (show ¬ bI true = 0 by decide)]; rfl
theorem r_142 {R : Int32 → uS → Option uS} {t : uS} {ts : List (List Nat)} {p : pl} {n b : Nat} {x : Option Nat} {cp : Bool} (hn : n < 520) (hs : rSt t ts) (hp : rPn t ts p false) (hx : xOk ts x) (hl : (pF p).length ≤ 101) (h108 : t.F 1108 n = bI cp) : ∃ t1 : uS, fb_X12_command1_142 R (nI n) (nI b) (oI x) t = some t1 ∧ rPn t1 ts (addF ts (pF p) x b, pDr p, pg p, prj p, pvc p, pnr p, pnv p, pkp p && cp, true) false ∧ out acI acF t t1 := by
  obtain ⟨h1, h2, h3, h4, h5, h6, h7, h8, h9, h10, h11⟩ := hp
  obtain ⟨t1, a1, a2, a3⟩ := r_file1 (b := b) hx hl hs h1
  have I : ∀ f : Nat, 94 ≤ f → f ≤ 106 → f ≠ 97 → t1.I 1079 f = t.I 1079 f := fun f a b c => a3.2.1 _ _ (by unfold fiI onwI; omega)
  unfold fb_X12_command1_142
  rw [a1, Option.bind_some, r_kept hn ((I 95 (by omega) (by omega) (by omega)).trans h5) ((a3.2.2 _ _ (by unfold fiF onwF; omega)).trans h108)]
  have hd := h2.o a3 (by unfold fiI onwI; omega) (fun f => by unfold fiF onwF; omega)
  have W : ∀ f : Nat, f ≠ 95 → f ≠ 106 → (wI (wI t1 1079 95 (bI (pkp p && cp))) 1079 106 1).I 1079 f = t1.I 1079 f := fun f a b => by rw [wI_o (by omega), wI_o (by omega)]
  refine ⟨_, rfl, ⟨⟨(W _ (by omega) (by omega)).trans a2.1, a2.2⟩, ⟨(W _ (by omega) (by omega)).trans hd.1, hd.2⟩, (W _ (by omega) (by omega)).trans ((I _ (by omega) (by omega) (by omega)).trans h3), h4, by rw [wI_o (by omega), wI_e]; rfl, (W _ (by omega) (by omega)).trans ((I _ (by omega) (by omega) (by omega)).trans h6), (W _ (by omega) (by omega)).trans ((I _ (by omega) (by omega) (by omega)).trans h7), fun z => (W _ (by omega) (by omega)).trans ((I _ (by omega) (by omega) (by omega)).trans (h8 z)), (W _ (by omega) (by omega)).trans ((I _ (by omega) (by omega) (by omega)).trans h9), fun z => (W _ (by omega) (by omega)).trans ((I _ (by omega) (by omega) (by omega)).trans (h10 z)), by rw [wI_e]; rfl⟩, out_I (out_I (ac_fi a3) ⟨rfl, by omega⟩) ⟨rfl, by omega⟩⟩
/-- the flags that an action tells, on both sides -/
def tgX (ts : List (List Nat)) (n : Nat) (fl : Option Nat) (cp : Bool) (t : uS) : Prop := t.F 1108 n = bI cp ∧ (fl = none → t.F 1106 n = -1) ∧ ∀ v : Nat, fl = some v → ∃ f0 m : Nat, f0 + m ≤ ts.length ∧ t.F 1106 n = nI f0 ∧ t.F 1107 n = nI m ∧ v = flL 2 0 (txs ts f0 m)
def tgY (i : Nat) (fl : Option Nat) (cp : Bool) (s : uS) : Prop := ∃ g : Nat, s.I (16 + 3 * i) 5 = nI g ∧ (g = 0 ∨ g = 8 ∨ g = 16 ∨ g = 24) ∧ cp = decide (g = 16 ∨ g = 24) ∧ (fl = none → g = 0 ∨ g = 16) ∧ ∀ v : Nat, fl = some v → (g = 8 ∨ g = 24) ∧ s.I (16 + 3 * i) 11 = nI v
theorem tgX_of {ts : List (List Nat)} {i n : Nat} {s t : uS} (h : tgE i n ts s t) : ∃ (fl : Option Nat) (cp : Bool), tgX ts n fl cp t ∧ tgY i fl cp s := by
  obtain ⟨g, h1, h2, h3, h4, h5⟩ := h
  by_cases c : g &&& 8 = 0
  · obtain ⟨a1, a2, a3⟩ := h4 c
    refine ⟨none, decide (g = 16 ∨ g = 24), ⟨?_, fun _ => a1, fun v z => by cases z⟩, g, h1, h2, rfl, fun _ => ?_, fun v z => by cases z⟩
    · rw [h3]
      rcases h2 with z | z | z | z <;> subst z <;> first | rfl | exact absurd c (by decide)
    · rcases h2 with z | z | z | z <;> subst z <;> first | (left; rfl) | (right; rfl) | exact absurd c (by decide)
  · obtain ⟨f0, m, a1, a2, a3, a4, a5, a6⟩ := h5 c
    refine ⟨some (flL 2 0 (txs ts f0 m)), decide (g = 16 ∨ g = 24), ⟨?_, fun z => (by cases z), fun v z => ⟨f0, m, a3, a4, a5, (Option.some.inj z).symm⟩⟩, g, h1, h2, rfl, fun z => (by cases z), fun v z => ⟨?_, by rw [← Option.some.inj z]; exact a6⟩⟩
    · rw [h3]
      rcases h2 with z | z | z | z <;> subst z <;> first | rfl | exact absurd (by decide) c
    · rcases h2 with z | z | z | z <;> subst z <;> first | (left; rfl) | (right; rfl) | exact absurd (by decide) c
theorem r_106 {R : Int32 → uS → Option uS} {t : uS} {ts : List (List Nat)} {n g : Nat} {x : Option Nat} {fl : Option Nat} {cp : Bool} (hn : n < 520) (hs : rSt t ts) (hX : tgX ts n fl cp t) (h94 : t.I 1079 94 = nI g) : ∃ t1 : uS, fb_X12_command1_106 R (nI n) (oI x) t = fb_X12_command1_142 R (nI n) (nI (fl.getD g)) (oI x) t1 ∧ out onwI onwF t t1 := by
  obtain ⟨x1, x2, x3⟩ := hX
  have hl := hs
  obtain ⟨bg, -, -, l3, -⟩ := hl
  unfold fb_X12_command1_106
  rw [g_1106 hn, Option.bind_some]
  cases fl with
  | none =>
    rw [x2 rfl, if_pos rfl, h94]
    exact ⟨t, rfl, out_r⟩
  | some v =>
    obtain ⟨f0, m, a1, a2, a3, a4⟩ := x3 v rfl
    obtain ⟨t1, b1, b2, b3⟩ := r_flagsOf a1 hs
    rw [a2, if_neg (show ¬ nI f0 = -1 by intro z; exact nI_pos (show f0 < 2 ^ 31 by omega) (by rw [z]; decide)), Option.bind_some, g_1107 hn, Option.bind_some, a3, b1, Option.bind_some]
    refine ⟨t1, ?_, b3⟩
    rw [a4]
    rfl
theorem rm_n : ∀ g b : Nat, g < 32 → b < 32 → nI g &&& (nI b ^^^ (-1)) = nI (g &&& (31 ^^^ b)) ∧ g &&& (31 ^^^ b) < 32 := by
  intro g b hg hb
  have : ∀ g b : Fin 32, nI g.1 &&& (nI b.1 ^^^ (-1)) = nI (g.1 &&& (31 ^^^ b.1)) ∧ g.1 &&& (31 ^^^ b.1) < 32 := by decide +kernel
  exact this ⟨g, hg⟩ ⟨b, hb⟩
/-- what an action makes of a plan -/
def stp (κ n : Nat) (ts : List (List Nat)) (f : Nat) (fl : Option Nat) (cp : Bool) (b : Nat) (p : pl) : pl :=
  if κ = 2 then (pF p, pDr p, pg p, prj p, pvc p, pnr p, pnv p, false, pac p)
  else if κ = 3 then (addF ts (pF p) none (fl.getD (pg p)), pDr p, pg p, prj p, pvc p, pnr p, pnv p, pkp p && cp, true)
  else if κ = 4 then (addF ts (pF p) (some f) (fl.getD (pg p)), pDr p, pg p, prj p, pvc p, pnr p, pnv p, pkp p && cp, true)
  else if κ = 5 then (pF p, addD ts (pDr p) f, pg p, prj p, pvc p, pnr p, pnv p, pkp p && cp, true)
  else if κ = 6 then (pF p, pDr p, pg p, prj p + 1, pvc p, n, pnv p, false, pac p)
  else if κ = 7 then (pF p, pDr p, b, prj p, pvc p, pnr p, pnv p, pkp p, pac p)
  else if κ = 8 then (pF p, pDr p, pg p ||| b, prj p, pvc p, pnr p, pnv p, pkp p, pac p)
  else if κ = 9 then (pF p, pDr p, pg p &&& (31 ^^^ b), prj p, pvc p, pnr p, pnv p, pkp p, pac p)
  else if κ = 10 then (pF p, pDr p, pg p, prj p, pvc p + 1, pnr p, n, pkp p, pac p)
  else p
/-- an action as the class holds it -/
def acY (κ i u w : Nat) (ts : List (List Nat)) (s : uS) (f : Nat) (fl : Option Nat) (cp : Bool) (b : Nat) : Prop := (κ = 3 ∨ κ = 4 ∨ κ = 5 → tgY i fl cp s) ∧ (κ = 4 → u ≤ f ∧ f < w ∧ f < ts.length ∧ bxn (ts.getD f []) = true ∧ s.F (17 + 3 * i) 3 = nI f) ∧ (κ = 5 → u ≤ f ∧ f < w ∧ f < ts.length ∧ adB (ts.getD f []) = true ∧ s.F (17 + 3 * i) 4 = nI f) ∧ (7 ≤ κ ∧ κ ≤ 9 → b < 32 ∧ s.I (16 + 3 * i) 11 = nI b)
theorem rPn.g {t : uS} {ts : List (List Nat)} {p : pl} {st : Bool} (h : rPn t ts p st) (b : Nat) (hb : b < 32) : rPn (wI t 1079 94 (nI b)) ts (pF p, pDr p, b, prj p, pvc p, pnr p, pnv p, pkp p, pac p) st := by
  obtain ⟨h1, h2, h3, h4, h5, h6, h7, h8, h9, h10, h11⟩ := h
  have W : ∀ f : Nat, f ≠ 94 → (wI t 1079 94 (nI b)).I 1079 f = t.I 1079 f := fun f a => wI_o (by omega)
  exact ⟨⟨(W _ (by omega)).trans h1.1, h1.2⟩, ⟨(W _ (by omega)).trans h2.1, h2.2⟩, wI_e _ _ _ _, hb, (W _ (by omega)).trans h5, (W _ (by omega)).trans h6, (W _ (by omega)).trans h7, fun z => (W _ (by omega)).trans (h8 z), (W _ (by omega)).trans h9, fun z => (W _ (by omega)).trans (h10 z), (W _ (by omega)).trans h11⟩
theorem r_act {R : Int32 → uS → Option uS} {κ i n u w : Nat} {ts : List (List Nat)} {s t : uS} {p : pl} (hn : n < 520) (hk : 1 ≤ κ ∧ κ ≤ 10) (h98 : t.F 1098 n = nI (κ + 1)) (ha : acR κ i n u w ts s t) (hs : rSt t ts) (hp : rPn t ts p false) (hF : (pF p).length ≤ 101) (hD : (pDr p).length ≤ 101) : ∃ (t1 : uS) (f : Nat) (fl : Option Nat) (cp : Bool) (b : Nat), fn_X12_command1 R (nI n) t = some t1 ∧ rPn t1 ts (stp κ n ts f fl cp b p) (decide (κ = 1)) ∧ out acI acF t t1 ∧ acY κ i u w ts s f fl cp b := by
  obtain ⟨a3, a4, a5, a6, a7, a10⟩ := ha
  obtain ⟨h1, h2, h3, h4, h5, h6, h7, h8, h9, h10, h11⟩ := id hp
  have hcase : κ = 1 ∨ κ = 2 ∨ κ = 3 ∨ κ = 4 ∨ κ = 5 ∨ κ = 6 ∨ κ = 7 ∨ κ = 8 ∨ κ = 9 ∨ κ = 10 := by omega
  have hflg : ∀ (K : uS × Int32 → Option uS), 7 ≤ κ ∧ κ ≤ 9 → ∃ (t1 : uS) (b : Nat), ((iget 20 t 1102 (nI n)).bind fun v5 => (iget 20 t 1103 (nI n)).bind fun v7 => (fn_X12_flagsOf v5 v7 t).bind fun r9 => K r9) = K (t1, nI b) ∧ b < 32 ∧ s.I (16 + 3 * i) 11 = nI b ∧ out onwI onwF t t1 := by
    intro K hk
    obtain ⟨f, m, e1, e2, e3, e4, e5, e6⟩ := a7 hk
    obtain ⟨t1, b1, b2, b3⟩ := r_flagsOf e3 hs
    refine ⟨t1, flL 2 0 (txs ts f m), ?_, b2, e6, b3⟩
    rw [g_1102 hn, Option.bind_some, e4, g_1103 hn, Option.bind_some, e5, b1, Option.bind_some]
  unfold fn_X12_command1
  rw [g_1098 hn, Option.bind_some, h98]
  rcases hcase with z | z | z | z | z | z | z | z | z | z
  · subst z
    rw [if_neg (show ¬ nI (1 + 1) = 0 by decide), if_neg (show ¬ nI (1 + 1) = 1 by decide), if_pos (show nI (1 + 1) = 2 by decide)]
    have W : ∀ f : Nat, f ≠ 96 → (wI t 1079 96 1).I 1079 f = t.I 1079 f := fun f a => wI_o (by omega)
    refine ⟨_, 0, none, false, 0, rfl, ⟨⟨(W _ (by omega)).trans h1.1, h1.2⟩, ⟨(W _ (by omega)).trans h2.1, h2.2⟩, (W _ (by omega)).trans h3, h4, (W _ (by omega)).trans h5, by rw [wI_e]; rfl, (W _ (by omega)).trans h7, fun z => (W _ (by omega)).trans (h8 z), (W _ (by omega)).trans h9, fun z => (W _ (by omega)).trans (h10 z), (W _ (by omega)).trans h11⟩, out_I out_r ⟨rfl, by omega⟩, fun z => by omega, fun z => by omega, fun z => by omega, fun z => by omega⟩
  · subst z
    rw [if_neg (show ¬ nI (2 + 1) = 0 by decide), if_neg (show ¬ nI (2 + 1) = 1 by decide), if_neg (show ¬ nI (2 + 1) = 2 by decide), if_pos (show nI (2 + 1) = 3 by decide)]
    have W : ∀ f : Nat, f ≠ 95 → (wI t 1079 95 0).I 1079 f = t.I 1079 f := fun f a => wI_o (by omega)
    refine ⟨_, 0, none, false, 0, rfl, ⟨⟨(W _ (by omega)).trans h1.1, h1.2⟩, ⟨(W _ (by omega)).trans h2.1, h2.2⟩, (W _ (by omega)).trans h3, h4, by rw [wI_e]; rfl, (W _ (by omega)).trans h6, (W _ (by omega)).trans h7, fun z => (W _ (by omega)).trans (h8 z), (W _ (by omega)).trans h9, fun z => (W _ (by omega)).trans (h10 z), (W _ (by omega)).trans h11⟩, out_I out_r ⟨rfl, by omega⟩, fun z => by omega, fun z => by omega, fun z => by omega, fun z => by omega⟩
  · subst z
    rw [if_neg (show ¬ nI (3 + 1) = 0 by decide), if_neg (show ¬ nI (3 + 1) = 1 by decide), if_neg (show ¬ nI (3 + 1) = 2 by decide), if_neg (show ¬ nI (3 + 1) = 3 by decide), if_pos (show nI (3 + 1) = 4 by decide), Option.bind_some, if_pos (show nI (3 + 1) = 4 by decide)]
    obtain ⟨fl, cp, X, Y⟩ := tgX_of (a3 (Or.inl rfl))
    obtain ⟨t1, b1, b2⟩ := r_106 (R := R) (x := none) hn hs X h3
    obtain ⟨t2, c1, c2, c3⟩ := r_142 (R := R) (b := fl.getD (pg p)) (x := none) (cp := cp) hn (onwT hs b2) (hp.onw b2) (fun j z => by cases z) hF ((b2.2.2 _ _ (by unfold onwF; omega)).trans X.1)
    refine ⟨t2, 0, fl, cp, 0, ?_, c2, out_t (ac_on b2) c3, fun _ => Y, fun z => by omega, fun z => by omega, fun z => by omega⟩
    rw [show (-1 : Int32) = oI (none : Option Nat) from rfl, b1, c1]
  · subst z
    rw [if_neg (show ¬ nI (4 + 1) = 0 by decide), if_neg (show ¬ nI (4 + 1) = 1 by decide), if_neg (show ¬ nI (4 + 1) = 2 by decide), if_neg (show ¬ nI (4 + 1) = 3 by decide), if_neg (show ¬ nI (4 + 1) = 4 by decide), if_pos (show nI (4 + 1) = 5 by decide), Option.bind_some, if_neg (show ¬ nI (4 + 1) = 4 by decide)]
    obtain ⟨fl, cp, X, Y⟩ := tgX_of (a3 (Or.inr (Or.inl rfl)))
    obtain ⟨f, e1, e2, e3, e4, e5, e6⟩ := a4 rfl
    obtain ⟨t1, b1, b2⟩ := r_106 (R := R) (x := some f) hn hs X h3
    obtain ⟨t2, c1, c2, c3⟩ := r_142 (R := R) (b := fl.getD (pg p)) (x := some f) (cp := cp) hn (onwT hs b2) (hp.onw b2) (fun j z => by rw [← Option.some.inj z]; exact e3) hF ((b2.2.2 _ _ (by unfold onwF; omega)).trans X.1)
    refine ⟨t2, f, fl, cp, 0, ?_, c2, out_t (ac_on b2) c3, fun _ => Y, fun _ => ⟨e1, e2, e3, e4, e5⟩, fun z => by omega, fun z => by omega⟩
    rw [g_1102 hn, Option.bind_some, e6, show nI f = oI (some f) from rfl, b1, c1]
  · subst z
    rw [if_neg (show ¬ nI (5 + 1) = 0 by decide), if_neg (show ¬ nI (5 + 1) = 1 by decide), if_neg (show ¬ nI (5 + 1) = 2 by decide), if_neg (show ¬ nI (5 + 1) = 3 by decide), if_neg (show ¬ nI (5 + 1) = 4 by decide), if_neg (show ¬ nI (5 + 1) = 5 by decide), if_pos (show nI (5 + 1) = 6 by decide)]
    obtain ⟨fl, cp, X, Y⟩ := tgX_of (a3 (Or.inr (Or.inr rfl)))
    obtain ⟨f, e1, e2, e3, e4, e5, e6⟩ := a5 rfl
    obtain ⟨t1, b1, b2, b3⟩ := r_redir1 e3 hD hs h2
    have I : ∀ f : Nat, 94 ≤ f → f ≤ 106 → f ≠ 100 → t1.I 1079 f = t.I 1079 f := fun f a b c => b3.2.1 _ _ (by omega)
    rw [g_1102 hn, Option.bind_some, e6, b1, Option.bind_some, r_kept (kp := pkp p) (cp := cp) hn ((I 95 (by omega) (by omega) (by omega)).trans h5) ((b3.2.2 _ _ (by omega)).trans X.1)]
    have hf := h1.o b3 (by omega) (fun k f z => by omega)
    have W : ∀ f : Nat, f ≠ 95 → f ≠ 106 → (wI (wI t1 1079 95 (bI (pkp p && cp))) 1079 106 1).I 1079 f = t1.I 1079 f := fun f a b => by rw [wI_o (by omega), wI_o (by omega)]
    refine ⟨_, f, fl, cp, 0, rfl, ⟨⟨(W _ (by omega) (by omega)).trans hf.1, hf.2⟩, ⟨(W _ (by omega) (by omega)).trans b2.1, b2.2⟩, (W _ (by omega) (by omega)).trans ((I _ (by omega) (by omega) (by omega)).trans h3), h4, by rw [wI_o (by omega), wI_e]; rfl, (W _ (by omega) (by omega)).trans ((I _ (by omega) (by omega) (by omega)).trans h6), (W _ (by omega) (by omega)).trans ((I _ (by omega) (by omega) (by omega)).trans h7), fun z => (W _ (by omega) (by omega)).trans ((I _ (by omega) (by omega) (by omega)).trans (h8 z)), (W _ (by omega) (by omega)).trans ((I _ (by omega) (by omega) (by omega)).trans h9), fun z => (W _ (by omega) (by omega)).trans ((I _ (by omega) (by omega) (by omega)).trans (h10 z)), by rw [wI_e]; rfl⟩, out_I (out_I (ac_di b3) ⟨rfl, by omega⟩) ⟨rfl, by omega⟩, fun _ => Y, fun z => by omega, fun _ => ⟨e1, e2, e3, e4, e5⟩, fun z => by omega⟩
  · subst z
    rw [if_neg (show ¬ nI (6 + 1) = 0 by decide), if_neg (show ¬ nI (6 + 1) = 1 by decide), if_neg (show ¬ nI (6 + 1) = 2 by decide), if_neg (show ¬ nI (6 + 1) = 3 by decide), if_neg (show ¬ nI (6 + 1) = 4 by decide), if_neg (show ¬ nI (6 + 1) = 5 by decide), if_neg (show ¬ nI (6 + 1) = 6 by decide), if_pos (show nI (6 + 1) = 7 by decide), h7, nI_1]
    have W : ∀ f : Nat, f ≠ 95 → f ≠ 102 → f ≠ 103 → (wI (wI (wI t 1079 102 (nI (prj p + 1))) 1079 103 (nI n)) 1079 95 0).I 1079 f = t.I 1079 f := fun f a b c => by rw [wI_o (by omega), wI_o (by omega), wI_o (by omega)]
    refine ⟨_, 0, none, false, 0, rfl, ⟨⟨(W _ (by omega) (by omega) (by omega)).trans h1.1, h1.2⟩, ⟨(W _ (by omega) (by omega) (by omega)).trans h2.1, h2.2⟩, (W _ (by omega) (by omega) (by omega)).trans h3, h4, by rw [wI_e]; rfl, (W _ (by omega) (by omega) (by omega)).trans h6, by rw [wI_o (by omega), wI_o (by omega), wI_e]; rfl, fun z => by rw [wI_o (by omega), wI_e]; rfl, (W _ (by omega) (by omega) (by omega)).trans h9, fun z => (W _ (by omega) (by omega) (by omega)).trans (h10 z), (W _ (by omega) (by omega) (by omega)).trans h11⟩, out_I (out_I (out_I out_r ⟨rfl, by omega⟩) ⟨rfl, by omega⟩) ⟨rfl, by omega⟩, fun z => by omega, fun z => by omega, fun z => by omega, fun z => by omega⟩
  · subst z
    rw [if_neg (show ¬ nI (7 + 1) = 0 by decide), if_neg (show ¬ nI (7 + 1) = 1 by decide), if_neg (show ¬ nI (7 + 1) = 2 by decide), if_neg (show ¬ nI (7 + 1) = 3 by decide), if_neg (show ¬ nI (7 + 1) = 4 by decide), if_neg (show ¬ nI (7 + 1) = 5 by decide), if_neg (show ¬ nI (7 + 1) = 6 by decide), if_neg (show ¬ nI (7 + 1) = 7 by decide), if_pos (show nI (7 + 1) = 8 by decide)]
    obtain ⟨t1, b, b1, b2, b3, b4⟩ := hflg (fun r9 => (iget 20 r9.1 1098 (nI n)).bind fun v11 => if v11 = 8 then (some (wI r9.1 1079 94 r9.2)) else ((iget 20 r9.1 1098 (nI n)).bind fun v14 => if v14 = 9 then (some (wI r9.1 1079 94 ((r9.1.I 1079 94) ||| r9.2))) else (some (wI r9.1 1079 94 ((r9.1.I 1079 94) &&& (r9.2 ^^^ (-1))))))) (by omega)
    have e98 : t1.F 1098 n = nI (7 + 1) := (b4.2.2 _ _ (by unfold onwF; omega)).trans h98
    have e94 : t1.I 1079 94 = nI (pg p) := (b4.2.1 _ _ (by unfold onwI; omega)).trans h3
    rw [b1]
    dsimp only
    rw [g_1098 hn, Option.bind_some, e98, if_pos (show nI (7 + 1) = 8 by decide)]
    exact ⟨_, 0, none, false, b, rfl, (hp.onw b4).g b b2, out_I (ac_on b4) ⟨rfl, by omega⟩, fun z => by omega, fun z => by omega, fun z => by omega, fun _ => ⟨b2, b3⟩⟩
  · subst z
    rw [if_neg (show ¬ nI (8 + 1) = 0 by decide), if_neg (show ¬ nI (8 + 1) = 1 by decide), if_neg (show ¬ nI (8 + 1) = 2 by decide), if_neg (show ¬ nI (8 + 1) = 3 by decide), if_neg (show ¬ nI (8 + 1) = 4 by decide), if_neg (show ¬ nI (8 + 1) = 5 by decide), if_neg (show ¬ nI (8 + 1) = 6 by decide), if_neg (show ¬ nI (8 + 1) = 7 by decide), if_neg (show ¬ nI (8 + 1) = 8 by decide), if_pos (show nI (8 + 1) = 9 by decide)]
    obtain ⟨t1, b, b1, b2, b3, b4⟩ := hflg (fun r9 => (iget 20 r9.1 1098 (nI n)).bind fun v11 => if v11 = 8 then (some (wI r9.1 1079 94 r9.2)) else ((iget 20 r9.1 1098 (nI n)).bind fun v14 => if v14 = 9 then (some (wI r9.1 1079 94 ((r9.1.I 1079 94) ||| r9.2))) else (some (wI r9.1 1079 94 ((r9.1.I 1079 94) &&& (r9.2 ^^^ (-1))))))) (by omega)
    have e98 : t1.F 1098 n = nI (8 + 1) := (b4.2.2 _ _ (by unfold onwF; omega)).trans h98
    have e94 : t1.I 1079 94 = nI (pg p) := (b4.2.1 _ _ (by unfold onwI; omega)).trans h3
    rw [b1]
    dsimp only
    rw [g_1098 hn, Option.bind_some, e98, if_neg (show ¬ nI (8 + 1) = 8 by decide), Option.bind_some, if_pos (show nI (8 + 1) = 9 by decide), e94, (or_n h4 b2).1]
    exact ⟨_, 0, none, false, b, rfl, (hp.onw b4).g _ (or_n h4 b2).2, out_I (ac_on b4) ⟨rfl, by omega⟩, fun z => by omega, fun z => by omega, fun z => by omega, fun _ => ⟨b2, b3⟩⟩
  · subst z
    rw [if_neg (show ¬ nI (9 + 1) = 0 by decide), if_neg (show ¬ nI (9 + 1) = 1 by decide), if_neg (show ¬ nI (9 + 1) = 2 by decide), if_neg (show ¬ nI (9 + 1) = 3 by decide), if_neg (show ¬ nI (9 + 1) = 4 by decide), if_neg (show ¬ nI (9 + 1) = 5 by decide), if_neg (show ¬ nI (9 + 1) = 6 by decide), if_neg (show ¬ nI (9 + 1) = 7 by decide), if_neg (show ¬ nI (9 + 1) = 8 by decide), if_neg (show ¬ nI (9 + 1) = 9 by decide), if_pos (show nI (9 + 1) = 10 by decide)]
    obtain ⟨t1, b, b1, b2, b3, b4⟩ := hflg (fun r9 => (iget 20 r9.1 1098 (nI n)).bind fun v11 => if v11 = 8 then (some (wI r9.1 1079 94 r9.2)) else ((iget 20 r9.1 1098 (nI n)).bind fun v14 => if v14 = 9 then (some (wI r9.1 1079 94 ((r9.1.I 1079 94) ||| r9.2))) else (some (wI r9.1 1079 94 ((r9.1.I 1079 94) &&& (r9.2 ^^^ (-1))))))) (by omega)
    have e98 : t1.F 1098 n = nI (9 + 1) := (b4.2.2 _ _ (by unfold onwF; omega)).trans h98
    have e94 : t1.I 1079 94 = nI (pg p) := (b4.2.1 _ _ (by unfold onwI; omega)).trans h3
    rw [b1]
    dsimp only
    rw [g_1098 hn, Option.bind_some, e98, if_neg (show ¬ nI (9 + 1) = 8 by decide), Option.bind_some, if_neg (show ¬ nI (9 + 1) = 9 by decide), e94, (rm_n _ _ h4 b2).1]
    exact ⟨_, 0, none, false, b, rfl, (hp.onw b4).g _ (rm_n _ _ h4 b2).2, out_I (ac_on b4) ⟨rfl, by omega⟩, fun z => by omega, fun z => by omega, fun z => by omega, fun _ => ⟨b2, b3⟩⟩
  · subst z
    rw [if_neg (show ¬ nI (10 + 1) = 0 by decide), if_neg (show ¬ nI (10 + 1) = 1 by decide), if_neg (show ¬ nI (10 + 1) = 2 by decide), if_neg (show ¬ nI (10 + 1) = 3 by decide), if_neg (show ¬ nI (10 + 1) = 4 by decide), if_neg (show ¬ nI (10 + 1) = 5 by decide), if_neg (show ¬ nI (10 + 1) = 6 by decide), if_neg (show ¬ nI (10 + 1) = 7 by decide), if_neg (show ¬ nI (10 + 1) = 8 by decide), if_neg (show ¬ nI (10 + 1) = 9 by decide), if_neg (show ¬ nI (10 + 1) = 10 by decide), if_pos (show nI (10 + 1) = 11 by decide), h9, nI_1]
    have W : ∀ f : Nat, f ≠ 104 → f ≠ 105 → (wI (wI t 1079 104 (nI (pvc p + 1))) 1079 105 (nI n)).I 1079 f = t.I 1079 f := fun f a b => by rw [wI_o (by omega), wI_o (by omega)]
    refine ⟨_, 0, none, false, 0, rfl, ⟨⟨(W _ (by omega) (by omega)).trans h1.1, h1.2⟩, ⟨(W _ (by omega) (by omega)).trans h2.1, h2.2⟩, (W _ (by omega) (by omega)).trans h3, h4, (W _ (by omega) (by omega)).trans h5, (W _ (by omega) (by omega)).trans h6, (W _ (by omega) (by omega)).trans h7, fun z => (W _ (by omega) (by omega)).trans (h8 z), by rw [wI_o (by omega), wI_e]; rfl, fun z => by rw [wI_e]; rfl, (W _ (by omega) (by omega)).trans h11⟩, out_I (out_I out_r ⟨rfl, by omega⟩) ⟨rfl, by omega⟩, fun z => by omega, fun z => by omega, fun z => by omega, fun z => by omega⟩
