/-! commands: DELETESCRIPT -/
theorem getD_erase {α : Type} {l : List α} {i j : Nat} {d : α} : (l.eraseIdx i).getD j d = if j < i then l.getD j d else l.getD (j + 1) d := by
  rw [List.getD_eq_getElem?_getD, List.getElem?_eraseIdx]
  split <;> rw [List.getD_eq_getElem?_getD]
theorem len_erase {α : Type} {l : List α} {i : Nat} (h : i < l.length) : (l.eraseIdx i).length = l.length - 1 := by
  rw [List.length_eraseIdx, if_pos h]
theorem pput_c {s : uS} {k N i v : Nat} (hk : k < 1171) (hc : ucl k = (27, N)) (hi : i < N) (hN : N < 2 ^ 31) (hv : uIs s v 1) : pput s k (nI i) v = some (wP s k i (some v)) := by
  unfold pput
  rw [if_pos ⟨⟨Or.inl hk, by rw [uCl_c hk, hc]⟩, by
    show ¬ (nI i < 0 ∨ (uCl s k).2 ≤ (nI i).toNatClampNeg)
    rw [uCl_c hk, hc, nI_clamp (by omega)]
    exact fun e => e.elim (fun e => nI_pos (by omega) e) (fun e => by have : N ≤ i := e; omega), hv⟩, nI_clamp (by omega)]
def shP (s : uS) (K i r : Nat) : uS := (s.c, s.I, s.R, s.F, s.L, fun a b => if a = K ∧ i ≤ b ∧ b + 1 < r then s.P a (b + 1) else s.P a b, s.n, s.m)
def shF (s : uS) (K i r : Nat) : uS := (s.c, s.I, s.R, fun a b => if a = K ∧ i ≤ b ∧ b < r then s.F a (b + 1) else s.F a b, s.L, s.P, s.n, s.m)
theorem shP_P (s : uS) (K i r a b : Nat) : (shP s K i r).P a b = if a = K ∧ i ≤ b ∧ b + 1 < r then s.P a (b + 1) else s.P a b := rfl
theorem shF_F (s : uS) (K i r a b : Nat) : (shF s K i r).F a b = if a = K ∧ i ≤ b ∧ b < r then s.F a (b + 1) else s.F a b := rfl
theorem shP_0 (s : uS) (K i : Nat) : shP s K i (i + 1) = s := by
  have : (fun a b => if a = K ∧ i ≤ b ∧ b + 1 < i + 1 then s.P a (b + 1) else s.P a b) = s.P := by
    funext a b
    rw [if_neg (by omega)]
  show (s.c, s.I, s.R, s.F, s.L, (fun a b => if a = K ∧ i ≤ b ∧ b + 1 < i + 1 then s.P a (b + 1) else s.P a b), s.n, s.m) = s
  rw [this]
  rfl
theorem shF_0 (s : uS) (K i : Nat) : shF s K i i = s := by
  have : (fun a b => if a = K ∧ i ≤ b ∧ b < i then s.F a (b + 1) else s.F a b) = s.F := by
    funext a b
    rw [if_neg (by omega)]
  show (s.c, s.I, s.R, (fun a b => if a = K ∧ i ≤ b ∧ b < i then s.F a (b + 1) else s.F a b), s.L, s.P, s.n, s.m) = s
  rw [this]
  rfl
theorem shP_s {s : uS} {K i r : Nat} (h : i < r) : wP (shP s K i r) K (r - 1) (s.P K r) = shP s K i (r + 1) := by
  have : uw2 (shP s K i r).P K (r - 1) (s.P K r) = (shP s K i (r + 1)).P := by
    funext a b
    show (if a = K ∧ b = r - 1 then s.P K r else (shP s K i r).P a b) = _
    rw [shP_P, shP_P]
    by_cases c : a = K ∧ b = r - 1
    · rw [if_pos c, if_pos ⟨c.1, by omega, by omega⟩, c.1, show b + 1 = r by omega]
    · rw [if_neg c]
      by_cases d : a = K ∧ i ≤ b ∧ b + 1 < r
      · rw [if_pos d, if_pos ⟨d.1, d.2.1, by omega⟩]
      · rw [if_neg d, if_neg (fun e => d ⟨e.1, e.2.1, by have := fun f => c ⟨e.1, f⟩; omega⟩)]
  show (_, _, _, _, _, uw2 (shP s K i r).P K (r - 1) (s.P K r), _, _) = _
  rw [this]
  rfl
theorem shF_s {s : uS} {K i r : Nat} (h : i ≤ r) : wF (shF s K i r) K r (s.F K (r + 1)) = shF s K i (r + 1) := by
  have : uw2 (shF s K i r).F K r (s.F K (r + 1)) = (shF s K i (r + 1)).F := by
    funext a b
    show (if a = K ∧ b = r then s.F K (r + 1) else (shF s K i r).F a b) = _
    rw [shF_F, shF_F]
    by_cases c : a = K ∧ b = r
    · rw [if_pos c, if_pos ⟨c.1, by omega, by omega⟩, c.1, c.2]
    · rw [if_neg c]
      by_cases d : a = K ∧ i ≤ b ∧ b < r
      · rw [if_pos d, if_pos ⟨d.1, d.2.1, by omega⟩]
      · rw [if_neg d, if_neg (fun e => d ⟨e.1, e.2.1, by have := fun f => c ⟨e.1, f⟩; omega⟩)]
  show (_, _, _, uw2 (shF s K i r).F K r (s.F K (r + 1)), _, _, _, _) = _
  rw [this]
  rfl
theorem wP_self {s : uS} {k i : Nat} {v : Option Nat} (h : s.P k i = v) : wP s k i v = s := by
  have : uw2 s.P k i v = s.P := by
    funext a b
    unfold uw2
    split
    · rename_i e; rw [e.1, e.2, h]
    · rfl
  show (_, _, _, _, _, uw2 s.P k i v, _, _) = _
  rw [this]
  rfl
theorem c_remove {s : uS} {u i : Nat} (hu : u < 4) {es : List Nat} {scs : List (List Nat × List Nat)} {ac : Option Nat} (h : cSc s u es scs ac) (hi : i < scs.length) : fn_X10_removeScript (985 + 16 * u) (some (es.getD i 0)) s = some (wI (shP s (985 + 16 * u + 1) i scs.length) (985 + 16 * u) 3 (nI (scs.length - 1))) := by
  obtain ⟨k1, k2, k3⟩ := ucl_us hu
  obtain ⟨a1, a2, a3, a4, a5, a6⟩ := h
  have isA : ∀ (r j : Nat), j < scs.length → uIs (shP s (985 + 16 * u + 1) i r) (es.getD j 0) 1 := fun r j hj => (a4 j hj).2.is
  have ph2 : ∀ (n r : Nat), scs.length < r + n → i < r → r ≤ scs.length → fn_X10_removeScript_4 n (985 + 16 * u) (some (es.getD i 0)) (nI (r - 1)) (nI r) (shP s (985 + 16 * u + 1) i r) = some (wI (shP s (985 + 16 * u + 1) i scs.length) (985 + 16 * u) 3 (nI (scs.length - 1))) := by
    intro n
    induction n with
    | zero => intro r c1 c2 c3; omega
    | succ n ih =>
      intro r c1 c2 c3
      unfold fn_X10_removeScript_4 fb_X10_removeScript_4
      show (if s.I (985 + 16 * u) 3 ≤ nI r then _ else _) = _
      rw [a3]
      by_cases e : r = scs.length
      · rw [if_pos (nI_le (by omega) (by omega)), e]
      · have hr : r < scs.length := by omega
        have hP : pgt 27 (shP s (985 + 16 * u + 1) i r) (985 + 16 * u + 1) (nI r) = some (es.getD r 0) := by
          rw [pgt_c (by omega) k1 (by omega) (by decide), uP_27 (by omega) k1, shP_P, if_neg (by omega)]
          exact (a4 r hr).1
        rw [if_neg (nI_ge (by omega) (by omega)), hP, Option.bind_some, if_neg (fun z => by have := a5 r i hr hi (Option.some.inj z); omega), Option.bind_some, pput_c (by omega) k1 (show r - 1 < 4 by omega) (by decide) (isA r r hr), Option.bind_some, nI_1, nI_1, show r - 1 + 1 = r + 1 - 1 by omega, show some (es.getD r 0) = s.P (985 + 16 * u + 1) r from (a4 r hr).1.symm, shP_s c2]
        exact ih (r + 1) (by omega) (by omega) (by omega)
  have ph1 : ∀ (n r : Nat), scs.length < r + n → r ≤ i → fn_X10_removeScript_4 n (985 + 16 * u) (some (es.getD i 0)) (nI r) (nI r) s = some (wI (shP s (985 + 16 * u + 1) i scs.length) (985 + 16 * u) 3 (nI (scs.length - 1))) := by
    intro n
    induction n with
    | zero => intro r c1 c2; omega
    | succ n ih =>
      intro r c1 c2
      unfold fn_X10_removeScript_4 fb_X10_removeScript_4
      show (if s.I (985 + 16 * u) 3 ≤ nI r then _ else _) = _
      have hr : r < scs.length := by omega
      have hP : pgt 27 s (985 + 16 * u + 1) (nI r) = some (es.getD r 0) := by
        rw [pgt_c (by omega) k1 (by omega) (by decide), uP_27 (by omega) k1]
        exact (a4 r hr).1
      rw [a3, if_neg (nI_ge (by omega) (by omega)), hP, Option.bind_some]
      by_cases e : r = i
      · rw [if_pos (by rw [e]), nI_1]
        have := ph2 n (r + 1) (by omega) (by omega) (by omega)
        rw [show r + 1 - 1 = r by omega, e, shP_0] at this
        rw [e]
        exact this
      · rw [if_neg (fun z => e (a5 r i hr hi (Option.some.inj z))), Option.bind_some, pput_c (by omega) k1 (show r < 4 by omega) (by decide) (a4 r hr).2.is, Option.bind_some, wP_self (a4 r hr).1, nI_1]
        exact ih (r + 1) (by omega) (by omega)
  exact ph1 uFu 0 (by show _ < 0 + 1000000; omega) (Nat.zero_le _)
theorem r_remove {t : uS} {u i m : Nat} (hu : u < 4) (hm : m ≤ 3) (h1 : t.F 1149 u = nI m) (hi : i ≤ m) : fn_X12_deleteScript_90 uFu (nI u) (nI i) t = (fn_X12_line (nI u) kW_204 (shF t 1151 (4 * u + i) (4 * u + m))).bind fun s5 => some (s5, true) := by
  have key : ∀ (n r : Nat), m < r + n → i ≤ r → r ≤ m → fn_X12_deleteScript_90 n (nI u) (nI r) (shF t 1151 (4 * u + i) (4 * u + r)) = (fn_X12_line (nI u) kW_204 (shF t 1151 (4 * u + i) (4 * u + m))).bind fun s5 => some (s5, true) := by
    intro n
    induction n with
    | zero => intro r c1 c2 c3; omega
    | succ n ih =>
      intro r c1 c2 c3
      unfold fn_X12_deleteScript_90 fb_X12_deleteScript_90
      rw [g_1149 hu, Option.bind_some, show (shF t 1151 (4 * u + i) (4 * u + r)).F 1149 u = t.F 1149 u by rw [shF_F, if_neg (by omega)], h1]
      by_cases e : r = m
      · rw [if_pos (nI_le (by omega) (by omega)), e]
      · rw [if_neg (nI_ge (by omega) (by omega))]
        simp (disch := omega) only [lit, nI_mul, nI_add, g_1151, p_1151, Option.bind_some]
        rw [shF_F, if_neg (by omega), shF_s (by omega)]
        exact ih (r + 1) (by omega) (by omega) (by omega)
  have := key uFu i (by show _ < i + 1000000; omega) (Nat.le_refl _) hi
  rw [shF_0] at this
  exact this
theorem m_delete {u : Nat} (hu : u < 4) {s t : uS} {ps : List (Nat × List Nat)} {bg v : Nat} (h : cCx u s t ps bg v) (hp : 0 < ps.length) : ∃ s1 t1 : uS, ∃ b : Bool, fn_X11_deleteScript (nI u) s = some s1 ∧ fn_X12_deleteScript (nI u) t = some (t1, b) ∧ cmdR u s t s1 t1 b := by
  obtain ⟨scs, ac, ⟨es, h4⟩, sl, h5⟩ := h.2.1.2.2.1
  obtain ⟨n1, n2⟩ := h.nm hu hp (by decide) h4 h5
  have n1' : fn_X10_scriptNamed (985 + 16 * u) (978 + 16 * u + 1) 0 s = _ := n1
  have n2' : fn_X12_scriptOf (nI u) 0 t = _ := n2
  have l2 := cmd_no hu (w := kW_5) (by decide) h.2.1 h.1.1 (by omega) (by omega)
  have l3 := cmd_no hu (w := kW_8) (by decide) h.2.1 h.1.1 (by omega) (by omega)
  have hl := h4.2.1
  unfold fn_X11_deleteScript fn_X12_deleteScript fb_X12_deleteScript_35 fb_X12_deleteScript_44 fb_X12_deleteScript_59
  rw [pgt_usr hu, Option.bind_some, if_pos (so_usr hu), pgt_ses hu, Option.bind_some, if_pos (so_ses hu), n1', n2', Option.bind_some, Option.bind_some]
  simp only [pgt_que (show u < 5 by omega), Option.bind_some, if_pos (so_que (show u < 5 by omega))]
  cases hsn : snx (ps.getD 0 pk0).2 scs 0 with
  | none =>
    rw [oI_n, if_pos (show (-1 : Int32) < 0 by decide), if_pos (show (-1 : Int32) < 0 by decide), if_neg (by decide)]
    obtain ⟨s2, t2, a1, a2, a3⟩ := l2
    refine ⟨s2, t2, true, ?_, by rw [show kW_207 = kW_5 from rfl, a2, Option.bind_some], a3⟩
    show ((fn_X5_refusal (qk u) kW_5 s).bind _) = _
    rw [a1, Option.bind_some]
  | some i =>
    have hi : i < scs.length := by have := snx_lt hsn; omega
    obtain ⟨q1, q2, q3, q4⟩ := h5.2.2.2.1 i hi
    rw [oI_s, if_neg (nI_pos (by omega)), g_1150 hu, Option.bind_some]
    simp (disch := omega) only [show (4 : Int32) = nI 4 from rfl, nI_mul, nI_add, g_1151, Option.bind_some, q1]
    rw [if_neg (nI_pos (show i < 2 ^ 31 by omega)), if_neg (nI_pos (show i < 2 ^ 31 by omega))]
    simp only [↓reduceIte, Bool.false_eq_true]
    have main : ac ≠ some i → ∃ s1 t1 : uS, ∃ b : Bool, ((fn_X11_commit s).bind fun r18 => if r18.2 = true then ((fn_X10_removeScript (985 + 16 * u) (some (es.getD i 0)) r18.1).bind fun s21 => (fn_X5_line (qk u) kW_3 s21).bind fun s27 => some s27) else (some r18.1)) = some s1 ∧ ((fn_X12_commit t).bind fun r3 => if r3.2 = true then ((iget 20 r3.1 1149 (nI u)).bind fun v6 => (iput 20 r3.1 1149 (nI u) (v6 - 1)).bind fun s8 => fn_X12_deleteScript_90 uFu (nI u) (nI i) s8) else (some (r3.1, false))) = some (t1, b) ∧ cmdR u s t s1 t1 b := by
      intro hac
      rcases mid_commit hu h.2.1 with ⟨a, b, c1, c2, c3⟩ | ⟨s2, t2, c1, c2, c3⟩
      · rw [c1, c2, Option.bind_some, Option.bind_some, if_pos rfl, if_pos rfl]
        have h4' : cSc (wI (wI s 0 15 a) 0 14 b) u es scs ac := h4.fr (Nat.le_refl _) (fun _ _ => rfl) ((wI_o (by omega)).trans (wI_o (by omega))) rfl rfl (fun _ _ => rfl) (fun _ _ _ => rfl)
        rw [c_remove hu h4' hi, Option.bind_some, g_1149 hu, Option.bind_some, show (wI (wI t 1079 3 a) 1079 2 b).F 1149 u = nI scs.length from h5.2.2.1, show nI scs.length - 1 = nI (scs.length - 1) from nI_sub (show 1 ≤ scs.length by omega), p_1149 hu, Option.bind_some, r_remove (m := scs.length - 1) hu (by omega) (wF_e _ _ _ _) (by omega)]
        have hmid : pMid u s t (wI (shP (wI (wI s 0 15 a) 0 14 b) (985 + 16 * u + 1) i scs.length) (985 + 16 * u) 3 (nI (scs.length - 1))) (shF (wF (wI (wI t 1079 3 a) 1079 2 b) 1149 u (nI (scs.length - 1))) 1151 (4 * u + i) (4 * u + (scs.length - 1))) := by
          obtain ⟨⟨dy, cm, ct, d1, d1'⟩, ⟨xs, x1, x2, x3⟩, -, d4, d5, d6⟩ := c3
          have hq := qk_u hu
          refine ⟨⟨dy, cm, ct, ?_, d1'⟩, ⟨xs, x1.fr (wI_r (by omega)) rfl, ?_, x3⟩, ⟨scs.eraseIdx i, ac.map (fun j => if j < i then j else j - 1), ⟨es.eraseIdx i, ?_⟩, sl.eraseIdx i, ?_⟩, ?_, ?_, ?_⟩
          · obtain ⟨e1, e2, e3, e4, e5⟩ := d1
            exact ⟨(wI_o (by omega)).trans e1, (wI_o (by omega)).trans e2, (wI_o (by omega)).trans e3, (wI_o (by omega)).trans e4, e5⟩
          · refine x2.fr ?_ ?_
            · funext f; rw [shF_F, if_neg (by omega), wF_o (by omega)]
            · funext f; rw [shF_F, if_neg (by omega), wF_o (by omega)]
          · obtain ⟨a1, a2, a3, a4, a5, a6⟩ := h4'
            refine ⟨by rw [len_erase (by omega), len_erase hi, a1], by rw [len_erase hi]; omega, by rw [wI_e, len_erase hi], ?_, ?_, ?_⟩
            · intro j hj
              rw [len_erase hi] at hj
              rw [getD_erase, getD_erase]
              show (shP _ _ _ _).P _ _ = _ ∧ _
              rw [shP_P]
              by_cases c : j < i
              · rw [if_pos c, if_pos c, if_neg (by omega)]; exact a4 j (by omega)
              · rw [if_neg c, if_neg c, if_pos ⟨rfl, by omega, by omega⟩]; exact a4 (j + 1) (by omega)
            · intro j k hj hk
              rw [len_erase hi] at hj hk
              rw [getD_erase, getD_erase]
              intro e
              have := a5 (if j < i then j else j + 1) (if k < i then k else k + 1) (by split <;> omega) (by split <;> omega) (by by_cases c : j < i <;> by_cases d : k < i <;> simp only [c, d, if_true, if_false] at e ⊢ <;> exact e)
              split at this <;> split at this <;> omega
            · rcases a6 with ⟨b1, b2⟩ | ⟨j, b1, b2, b3⟩
              · exact Or.inl ⟨by rw [b1]; rfl, b2⟩
              · have hji : j ≠ i := fun e => hac (by rw [b1, e])
                refine Or.inr ⟨if j < i then j else j - 1, by rw [b1]; rfl, by rw [len_erase hi]; split <;> omega, ?_⟩
                rw [getD_erase]
                show s.R _ _ = _
                by_cases c : j < i
                · rw [if_pos c, if_pos c]; exact b3
                · rw [if_neg c, if_neg (by omega), show j - 1 + 1 = j by omega]; exact b3
          · obtain ⟨a1, a2, a3, a4, a5, a6⟩ := h5
            refine ⟨by rw [len_erase (by omega), len_erase hi, a1], by rw [len_erase hi]; omega, ?_, ?_, ?_, ?_⟩
            · rw [shF_F, if_neg (by omega), wF_e, len_erase hi]
            · intro j hj
              rw [len_erase hi] at hj
              rw [getD_erase, getD_erase, shF_F]
              have hse : ∀ q : Nat, q < scs.length → rSe (shF (wF (wI (wI t 1079 3 a) 1079 2 b) 1149 u (nI (scs.length - 1))) 1151 (4 * u + i) (4 * u + (scs.length - 1))) (sl.getD q 0) (scs.getD q sc0) := by
                intro q hq
                refine (a4 q hq).2.2.2.fr ?_ (fun j hj => ?_) ?_ (fun _ _ => rfl)
                · rw [shF_F, if_neg (by omega), wF_o (by omega)]; rfl
                · rw [shF_F, if_neg (by omega), wF_o (by omega)]; rfl
                · rw [shF_F, if_neg (by omega), wF_o (by omega)]; rfl
              by_cases c : j < i
              · rw [if_pos c, if_pos c, if_neg (by omega)]
                obtain ⟨b1, b2, b3, b4⟩ := a4 j (by omega)
                exact ⟨(wF_o (by omega)).trans b1, b2, b3, hse j (by omega)⟩
              · rw [if_neg c, if_neg c, if_pos ⟨rfl, by omega, by omega⟩]
                obtain ⟨b1, b2, b3, b4⟩ := a4 (j + 1) (by omega)
                exact ⟨(wF_o (by omega)).trans b1, b2, b3, hse (j + 1) (by omega)⟩
            · intro j k hj hk
              rw [len_erase hi] at hj hk
              rw [getD_erase, getD_erase]
              intro e
              have := a5 (if j < i then j else j + 1) (if k < i then k else k + 1) (by split <;> omega) (by split <;> omega) (by by_cases c : j < i <;> by_cases d : k < i <;> simp only [c, d, if_true, if_false] at e ⊢ <;> exact e)
              split at this <;> split at this <;> omega
            · rw [shF_F, if_neg (by omega), wF_o (by omega)]
              rcases a6 with ⟨b1, b2⟩ | ⟨j, b1, b2, b3⟩
              · exact Or.inl ⟨by rw [b1]; rfl, b2⟩
              · have hji : j ≠ i := fun e => hac (by rw [b1, e])
                refine Or.inr ⟨if j < i then j else j - 1, by rw [b1]; rfl, by rw [len_erase hi]; split <;> omega, ?_⟩
                rw [getD_erase]
                by_cases c : j < i
                · rw [if_pos c, if_pos c]; exact b3
                · rw [if_neg c, if_neg (by omega), show j - 1 + 1 = j by omega]; exact b3
          · refine oc_I (oc_t d4 ⟨Nat.le_refl _, fun _ _ => rfl, fun _ _ => rfl, fun _ _ _ _ => rfl, fun _ _ _ _ => rfl, fun _ _ _ _ => rfl, ?_⟩) (Or.inl (Or.inr (Or.inr (Or.inr ⟨rfl, rfl⟩))))
            intro k f _ hk
            rw [shP_P, if_neg (fun e => hk (Or.inr e.1))]
          · refine ol_t (ol_F d5 (v := nI (scs.length - 1)) (Or.inr (Or.inr (Or.inl ⟨Or.inl rfl, rfl⟩)))) ⟨⟨rfl, rfl, rfl, rfl, rfl⟩, fun _ _ _ => rfl, ?_, fun _ _ _ => rfl⟩
            intro k f hk
            rw [shF_F, if_neg (fun e => hk (Or.inr (Or.inr (Or.inr (Or.inl ⟨Or.inl e.1, by omega, by omega⟩)))))]
          · intro k hk z
            obtain ⟨j, z1, z2, z3⟩ := z
            rw [wI_e, nI_ltJ (by omega) (by omega)] at z2
            have z3 : (shP (wI (wI s 0 15 a) 0 14 b) (985 + 16 * u + 1) i scs.length).P (985 + 16 * u + 1) j = some k := z3
            rw [shP_P] at z3
            have hcn : (wI (wI s 0 15 a) 0 14 b).I (985 + 16 * u) 3 = nI scs.length := h4'.2.2.1
            by_cases c : 985 + 16 * u + 1 = 985 + 16 * u + 1 ∧ i ≤ j ∧ j + 1 < scs.length
            · rw [if_pos c] at z3
              exact d6 k hk ⟨j + 1, by omega, by rw [hcn]; exact nI_lt (by omega) (by omega), z3⟩
            · rw [if_neg c] at z3
              exact d6 k hk ⟨j, by omega, by rw [hcn]; exact nI_lt (by omega) (by omega), z3⟩
        obtain ⟨s2, t2, l1, l2, l3⟩ := cmd_line hu (w := kW_3) (by decide) hmid h.1.1 (Nat.le_add_right _ _) (Nat.le_add_right _ _)
        exact ⟨s2, t2, true, by rw [l1, Option.bind_some], by rw [show kW_204 = kW_3 from rfl, l2, Option.bind_some], l3⟩
      · rw [c1, c2, Option.bind_some, Option.bind_some]
        exact ⟨s2, t2, false, rfl, rfl, cmdR.lost h.2.1 c3 (Nat.le_add_right _ _) (Nat.le_add_right _ _)⟩
    rcases h4.2.2.2.2.2 with ⟨b1, b2⟩ | ⟨j, b1, b2, b3⟩
    · rcases h5.2.2.2.2.2 with ⟨-, d2⟩ | ⟨j', d1, -, -⟩
      · rw [d2, if_neg (fun e => by have : (-1 : Int32).toInt = (nI (sl.getD i 0)).toInt := by rw [e]
                                    rw [nI_toInt (by omega)] at this; have h1 : (-1 : Int32).toInt = -1 := rfl; omega)]
        show ∃ s1 t1 : uS, ∃ b : Bool, (match s.R (985 + 16 * u) 5 with | none => _ | some j16 => _) = some s1 ∧ _ ∧ _
        rw [b2]
        exact main (by rw [b1]; exact fun e => by cases e)
      · rw [b1] at d1; cases d1
    · rcases h5.2.2.2.2.2 with ⟨d1, -⟩ | ⟨j', d1, -, d3⟩
      · rw [b1] at d1; cases d1
      · have hjj : j' = j := by rw [b1] at d1; cases d1; rfl
        subst hjj
        obtain ⟨e1, e2, e3, e4⟩ := h5.2.2.2.1 j' b2
        show ∃ s1 t1 : uS, ∃ b : Bool, (match s.R (985 + 16 * u) 5 with | none => _ | some j16 => _) = some s1 ∧ _ ∧ _
        rw [b3, d3]
        by_cases c : j' = i
        · subst c
          rw [if_pos rfl]
          obtain ⟨s2, t2, a1, a2, a3⟩ := l3
          refine ⟨s2, t2, true, ?_, by rw [show kW_211 = kW_8 from rfl, a2, Option.bind_some], a3⟩
          show (if some (es.getD j' 0) = some (es.getD j' 0) then _ else _) = _
          rw [if_pos rfl, a1, Option.bind_some]
        · rw [if_neg (show ¬ nI (sl.getD j' 0) = nI (sl.getD i 0) by rw [nI_eq (by omega) (by omega)]; exact fun e => c (h5.2.2.2.2.1 j' i b2 hi e))]
          obtain ⟨s1, t1, b, r1, r2, r3⟩ := main (by rw [b1]; exact fun e => c (by cases e; rfl))
          refine ⟨s1, t1, b, ?_, r2, r3⟩
          show (if some (es.getD i 0) = some (es.getD j' 0) then _ else _) = _
          rw [if_neg (fun e => c (h4.2.2.2.2.1 j' i b2 hi (Option.some.inj e).symm))]
          exact r1
