/-- the typed state when both objects are new -/
def uI0 (k f : Nat) : Int32 := if k = 0 ∧ f = 16 then 1 else if k = 1079 ∧ f = 0 then 1 else if 976 ≤ k ∧ k < 1040 ∧ (k - 976) % 16 = 12 then (if f = 3 then nI 1 else if f = 4 then nI 5 else if f = 5 then nI 5 else 0) else 0
def uF0 (k : Nat) : Nat → Int32 := if 976 ≤ k ∧ k < 1040 then (if (k - 976) % 16 = 13 then (t_puts 120 (fun _ => 0, 0) IBX).1 else if (k - 976) % 16 = 14 then upd (fun _ => 0) 0 (nI 0) else if (k - 976) % 16 = 15 then upd (fun _ => 0) 0 (nI 5) else fun _ => 0) else if k = 1150 then mR_active else if k = 1126 then mR_boxes else if k = 1128 then mR_boxSize else if k = 1127 then mR_boxText else fun _ => 0
def u_0 : uS := (fun _ => (0, 0), uI0, fun k f => if k = 7 ∧ f = 1 then some 12 else none, uF0, fun _ _ => 0, fun _ _ => none, 1171, 325232)
theorem uI0_0 {k f : Nat} (h1 : 16 ≤ k) (h2 : k < 976) : uI0 k f = 0 := by
  unfold uI0
  rw [if_neg (by omega), if_neg (by omega), if_neg (by omega)]
theorem uR0_0 {k f : Nat} (h1 : 16 ≤ k) : u_0.R k f = none := if_neg (by omega)
theorem uF0_0 {k : Nat} (h1 : 16 ≤ k) (h2 : k < 976) : uF0 k = fun _ => 0 := by
  unfold uF0
  rw [if_neg (by omega), if_neg (by omega), if_neg (by omega), if_neg (by omega), if_neg (by omega)]
theorem t_puts_by (cap : Nat) (bs : List Nat) : ∀ x : (Nat → Int32) × Nat, (∀ i, fits .byte (.int (x.1 i)) = true) → ∀ i, fits .byte (.int ((t_puts cap x bs).1 i)) = true := by
  induction bs with
  | nil => intro x h; exact h
  | cons b r ih =>
    intro x h
    refine ih (t_put cap x (nI b)) ?_
    intro i
    unfold t_put
    by_cases hc : x.2 < cap
    · rw [if_pos hc]
      show fits .byte (.int (upd x.1 x.2 (nI b).toInt8.toInt32 i)) = true
      by_cases hi : i = x.2
      · subst hi; rw [pk_us]; exact uby_i8 _
      · rw [pk_un hi]; exact h i
    · rw [if_neg hc]; exact h i
theorem u0_by : uBy u_0 := by
  intro k i hk
  show fits .byte (.int (uF0 k i)) = true
  have hk : (uCl u_0 k).1 = 21 := hk
  unfold uF0
  by_cases h1 : 976 ≤ k ∧ k < 1040
  · rw [if_pos h1]
    by_cases h2 : (k - 976) % 16 = 13
    · rw [if_pos h2]; exact t_puts_by _ _ _ (fun _ => (by decide : fits .byte (.int 0) = true)) i
    · rw [if_neg h2]
      have hc : uCl u_0 k = uT1.getD ((k - 976) % 16) (0, 0) := by
        rw [uCl_c (by omega)]
        unfold ucl
        rw [if_neg (by omega), if_neg (by omega), if_pos (by omega)]
      by_cases h3 : (k - 976) % 16 = 14
      · rw [hc, h3] at hk; exact absurd hk (by decide)
      · rw [if_neg h3]
        by_cases h4 : (k - 976) % 16 = 15
        · rw [hc, h4] at hk; exact absurd hk (by decide)
        · rw [if_neg h4]; decide
  · rw [if_neg h1]
    by_cases h2 : k = 1150
    · subst h2; exact absurd hk (by decide)
    · rw [if_neg h2]
      by_cases h3 : k = 1126
      · subst h3; exact absurd hk (by decide)
      · rw [if_neg h3]
        by_cases h4 : k = 1128
        · subst h4; exact absurd hk (by decide)
        · rw [if_neg h4]
          by_cases h5 : k = 1127
          · subst h5; exact absurd hk (by decide)
          · rw [if_neg h5]; decide
theorem u0_n (A : Nat → ClassId) (B j : Nat) (h : j < 320) : ucell A B u_0 (16 + 3 * j) = .inr (3, [.int 0, .int 0, .int 0, .int 0, .int 0, .int 0, .int 0, .int 0, .int 0, .int 0, .int 0, .int 0, .int 0, .ref (B + 16 + 3 * j + 1), .ref (B + 16 + 3 * j + 2)]) := by
  have hc : uCl u_0 (16 + 3 * j) = (3, 0) := by
    rw [uCl_c (by omega)]
    unfold ucl
    rw [if_neg (by omega), if_pos (by omega), if_pos (by omega)]
  unfold ucell
  rw [hc, if_pos (by decide)]
  have e : ufs A B u_0 (16 + 3 * j) 3 = (List.range (uNf 3)).map (fun f => if (ufd 3 f).1 = 0 then Value.int 0 else if (ufd 3 f).1 = 1 then .ref (B + 16 + 3 * j + (ufd 3 f).2) else .null) := List.map_congr_left (fun f hf => by
    have hf : f < 15 := List.mem_range.mp hf
    have h3 : ∀ f, f < 15 → (ufd 3 f).1 = 0 ∨ (ufd 3 f).1 = 1 := by decide
    unfold uv
    rw [show u_0.I (16 + 3 * j) f = 0 from uI0_0 (by omega) (by omega)]
    rcases h3 f hf with h | h
    · rw [if_pos h, if_pos h]
    · rw [if_neg (by omega), if_pos h, if_neg (by omega), if_pos h]
      have e : ∀ c : Nat, B + (16 + 3 * j + c) = B + 16 + 3 * j + c := fun c => by omega
      exact congrArg Value.ref (e _))
  show Sum.inr (3, ufs A B u_0 (16 + 3 * j) 3) = _
  rw [e]
  rfl
theorem u0_nr (A : Nat → ClassId) (B j r : Nat) (h : j < 320) (hr : r = 1 ∨ r = 2) : ucell A B u_0 (16 + 3 * j + r) = .inl (A 0, 12, .inl (fun _ => 0)) := by
  have hc : uCl u_0 (16 + 3 * j + r) = (20, 12) := by
    rw [uCl_c (by omega)]
    unfold ucl
    rw [if_neg (by omega), if_pos (by omega), if_neg (by omega)]
  unfold ucell
  rw [hc, if_neg (by decide), if_pos (by decide)]
  show Sum.inl (A 0, 12, Sum.inl (uF0 (16 + 3 * j + r))) = _
  rw [uF0_0 (by omega) (by omega)]
theorem u0_m (A : Nat → ClassId) (B : Nat) : ucell A B u_0 1079 = .inr (12, mFs (B + 1080) (fun i => if i = 0 then 1 else 0)) := by
  show Sum.inr (12, ufs A B u_0 1079 12) = _
  refine congrArg (fun x => (Sum.inr (12, x) : va_E)) ?_
  have h : ∀ i, i < 153 → ufd 12 i = (match mIx i with | some k => (2, 1080 + k) | none => (0, 0)) := by decide +kernel
  unfold ufs mFs
  refine List.map_congr_left (fun i hi => ?_)
  have hi : i < 153 := List.mem_range.mp hi
  rw [h i hi]
  cases hm : mIx i with
  | none =>
    show Value.int (uI0 1079 i) = .int (if i = 0 then 1 else 0)
    unfold uI0
    rw [if_neg (by omega)]
    by_cases h0 : i = 0
    · rw [if_pos ⟨rfl, h0⟩, if_pos h0]
    · rw [if_neg (fun e => h0 e.2), if_neg h0, if_neg (by omega)]
  | some k =>
    show Value.ref (B + (1080 + k)) = .ref (B + 1080 + k)
    rw [Nat.add_assoc]
set_option maxRecDepth 100000 in
set_option maxHeartbeats 4000000 in
theorem u0_st {A : Nat → ClassId} {B : Nat} {σ : hS} (h : frI A B (B + 1) (B + 1079) (B + 1080) σ) (h1 : σ.2.1 = B + 1171) (h2 : σ.2.2 = 325232) : uSt A B σ u_0 := by
  obtain ⟨hs, hm, -⟩ := h
  have hB : ∀ j : Nat, B + 1 + j = B + (j + 1) := fun j => by omega
  have hM : ∀ j : Nat, B + 1080 + j = B + (1080 + j) := fun j => Nat.add_assoc _ _ _
  unfold smNew at hs
  simp only [hB, Nat.reduceAdd] at hs
  obtain ⟨c0, c1, c2, c3, c4, c5, c6, c13, c7, c8, c9, c10, c11, c12, c14, c15, c976, c977, c978, c979, c980, c981, c982, c983, c984, c985, c986, c987, c988, c989, c990, c991, c992, c993, c994, c995, c996, c997, c998, c999, c1000, c1001, c1002, c1003, c1004, c1005, c1006, c1007, c1008, c1009, c1010, c1011, c1012, c1013, c1014, c1015, c1016, c1017, c1018, c1019, c1020, c1021, c1022, c1023, c1024, c1025, c1026, c1027, c1028, c1029, c1030, c1031, c1032, c1033, c1034, c1035, c1036, c1037, c1038, c1039, c1040, c1041, c1042, c1043, c1044, c1045, c1046, c1047, c1048, c1049, c1050, c1051, c1052, c1053, c1054, c1055, c1056, c1057, c1058, c1059, c1060, c1061, c1062, c1063, c1064, c1065, c1066, c1067, c1068, c1069, c1070, c1071, c1072, c1073, c1074, c1075, c1076, c1077, c1078, nd⟩ := hs
  obtain ⟨m0, m70, m46, m48, m47, mj⟩ := hm
  refine ⟨h1, h2, Nat.le_refl _, fun k hk => ?_, u0_by⟩
  have hk : k < 1171 := hk
  by_cases r1 : k < 16
  · match k, r1 with
    | 0, _ => exact c0
    | 1, _ => exact c1
    | 2, _ =>
      rw [c2]
      congr 8
      funext i
      match i with
      | 0 => rfl
      | 1 => rfl
      | 2 => rfl
      | 3 => rfl
      | 4 => rfl
      | i + 5 =>
        show _ = Option.map _ (uPc 2 (i + 5))
        unfold uPc va_up
        simp
    | 3, _ =>
      rw [c3]
      congr 8
      funext i
      match i with
      | 0 => rfl
      | 1 => rfl
      | 2 => rfl
      | 3 => rfl
      | i + 4 =>
        show _ = Option.map _ (uPc 3 (i + 4))
        unfold uPc va_up
        simp
    | 4, _ =>
      rw [c4]
      congr 8
      funext i
      match i with
      | 0 => rfl
      | 1 => rfl
      | 2 => rfl
      | 3 => rfl
      | i + 4 =>
        show _ = Option.map _ (uPc 4 (i + 4))
        unfold uPc va_up
        simp
    | 5, _ => exact c5
    | 6, _ => exact c6
    | 7, _ => exact c7
    | 8, _ => exact c8
    | 9, _ => exact c9
    | 10, _ => exact c10
    | 11, _ => exact c11
    | 12, _ => exact c12
    | 13, _ =>
      rw [c13]
      congr 8
      funext i
      show ndF (B + 16) 320 i = Option.map _ (uPc 13 i)
      unfold ndF uPc
      by_cases hi : i < 320
      · simp [hi]; omega
      · simp [hi]
    | 14, _ => exact c14
    | 15, _ => exact c15
    | k + 16, h => exact absurd h (by omega)
  · by_cases r2 : k < 976
    · obtain ⟨j, hj, h3⟩ : ∃ j, j < 320 ∧ (k = 16 + 3 * j ∨ k = 16 + 3 * j + 1 ∨ k = 16 + 3 * j + 2) := ⟨(k - 16) / 3, by omega, by omega⟩
      obtain ⟨n1, n2, n3⟩ := nd j hj
      rcases h3 with rfl | rfl | rfl
      · rw [u0_n A B j hj, show B + (16 + 3 * j) = B + 16 + 3 * j by omega]; exact n1
      · rw [u0_nr A B j 1 hj (Or.inl rfl), show B + (16 + 3 * j + 1) = B + 16 + 3 * j + 1 by omega]; exact n2
      · rw [u0_nr A B j 2 hj (Or.inr rfl), show B + (16 + 3 * j + 2) = B + 16 + 3 * j + 2 by omega]; exact n3
    · by_cases r3 : k < 1079
      · obtain ⟨j, rfl⟩ : ∃ j, k = 976 + j := ⟨k - 976, by omega⟩
        match j, (show j < 103 by omega) with
        | 0, _ => exact c976
        | 1, _ => exact c977
        | 2, _ => exact c978
        | 3, _ => exact c979
        | 4, _ => exact c980
        | 5, _ => exact c981
        | 6, _ => exact c982
        | 7, _ => exact c983
        | 8, _ => exact c984
        | 9, _ => exact c985
        | 10, _ => exact c986
        | 11, _ => exact c987
        | 12, _ => exact c988
        | 13, _ => exact c989
        | 14, _ => exact c990
        | 15, _ => exact c991
        | 16, _ => exact c992
        | 17, _ => exact c993
        | 18, _ => exact c994
        | 19, _ => exact c995
        | 20, _ => exact c996
        | 21, _ => exact c997
        | 22, _ => exact c998
        | 23, _ => exact c999
        | 24, _ => exact c1000
        | 25, _ => exact c1001
        | 26, _ => exact c1002
        | 27, _ => exact c1003
        | 28, _ => exact c1004
        | 29, _ => exact c1005
        | 30, _ => exact c1006
        | 31, _ => exact c1007
        | 32, _ => exact c1008
        | 33, _ => exact c1009
        | 34, _ => exact c1010
        | 35, _ => exact c1011
        | 36, _ => exact c1012
        | 37, _ => exact c1013
        | 38, _ => exact c1014
        | 39, _ => exact c1015
        | 40, _ => exact c1016
        | 41, _ => exact c1017
        | 42, _ => exact c1018
        | 43, _ => exact c1019
        | 44, _ => exact c1020
        | 45, _ => exact c1021
        | 46, _ => exact c1022
        | 47, _ => exact c1023
        | 48, _ => exact c1024
        | 49, _ => exact c1025
        | 50, _ => exact c1026
        | 51, _ => exact c1027
        | 52, _ => exact c1028
        | 53, _ => exact c1029
        | 54, _ => exact c1030
        | 55, _ => exact c1031
        | 56, _ => exact c1032
        | 57, _ => exact c1033
        | 58, _ => exact c1034
        | 59, _ => exact c1035
        | 60, _ => exact c1036
        | 61, _ => exact c1037
        | 62, _ => exact c1038
        | 63, _ => exact c1039
        | 64, _ => exact c1040
        | 65, _ => exact c1041
        | 66, _ => exact c1042
        | 67, _ => exact c1043
        | 68, _ => exact c1044
        | 69, _ => exact c1045
        | 70, _ => exact c1046
        | 71, _ => exact c1047
        | 72, _ => exact c1048
        | 73, _ => exact c1049
        | 74, _ => exact c1050
        | 75, _ => exact c1051
        | 76, _ => exact c1052
        | 77, _ => exact c1053
        | 78, _ => exact c1054
        | 79, _ => exact c1055
        | 80, _ => exact c1056
        | 81, _ => exact c1057
        | 82, _ => exact c1058
        | 83, _ => exact c1059
        | 84, _ => exact c1060
        | 85, _ => exact c1061
        | 86, _ => exact c1062
        | 87, _ => exact c1063
        | 88, _ => exact c1064
        | 89, _ => exact c1065
        | 90, _ => exact c1066
        | 91, _ => exact c1067
        | 92, _ => exact c1068
        | 93, _ => exact c1069
        | 94, _ => exact c1070
        | 95, _ => exact c1071
        | 96, _ => exact c1072
        | 97, _ => exact c1073
        | 98, _ => exact c1074
        | 99, _ => exact c1075
        | 100, _ => exact c1076
        | 101, _ => exact c1077
        | 102, _ => exact c1078
        | j + 103, h => exact absurd h (by omega)
      · by_cases r4 : k = 1079
        · subst r4
          rw [u0_m]; exact m0
        · obtain ⟨j, rfl⟩ : ∃ j, k = 1080 + j := ⟨k - 1080, by omega⟩
          have mj := fun a b c d e => (hM j ▸ mj j a b c d e : σ.1 (B + (1080 + j)) = some (mT A j))
          match j, (show j < 91 by omega), mj with
          | 0, _, mj => exact mj (by decide) (by decide) (by decide) (by decide) (by decide)
          | 1, _, mj => exact mj (by decide) (by decide) (by decide) (by decide) (by decide)
          | 2, _, mj => exact mj (by decide) (by decide) (by decide) (by decide) (by decide)
          | 3, _, mj => exact mj (by decide) (by decide) (by decide) (by decide) (by decide)
          | 4, _, mj => exact mj (by decide) (by decide) (by decide) (by decide) (by decide)
          | 5, _, mj => exact mj (by decide) (by decide) (by decide) (by decide) (by decide)
          | 6, _, mj => exact mj (by decide) (by decide) (by decide) (by decide) (by decide)
          | 7, _, mj => exact mj (by decide) (by decide) (by decide) (by decide) (by decide)
          | 8, _, mj => exact mj (by decide) (by decide) (by decide) (by decide) (by decide)
          | 9, _, mj => exact mj (by decide) (by decide) (by decide) (by decide) (by decide)
          | 10, _, mj => exact mj (by decide) (by decide) (by decide) (by decide) (by decide)
          | 11, _, mj => exact mj (by decide) (by decide) (by decide) (by decide) (by decide)
          | 12, _, mj => exact mj (by decide) (by decide) (by decide) (by decide) (by decide)
          | 13, _, mj => exact mj (by decide) (by decide) (by decide) (by decide) (by decide)
          | 14, _, mj => exact mj (by decide) (by decide) (by decide) (by decide) (by decide)
          | 15, _, mj => exact mj (by decide) (by decide) (by decide) (by decide) (by decide)
          | 16, _, mj => exact mj (by decide) (by decide) (by decide) (by decide) (by decide)
          | 17, _, mj => exact mj (by decide) (by decide) (by decide) (by decide) (by decide)
          | 18, _, mj => exact mj (by decide) (by decide) (by decide) (by decide) (by decide)
          | 19, _, mj => exact mj (by decide) (by decide) (by decide) (by decide) (by decide)
          | 20, _, mj => exact mj (by decide) (by decide) (by decide) (by decide) (by decide)
          | 21, _, mj => exact mj (by decide) (by decide) (by decide) (by decide) (by decide)
          | 22, _, mj => exact mj (by decide) (by decide) (by decide) (by decide) (by decide)
          | 23, _, mj => exact mj (by decide) (by decide) (by decide) (by decide) (by decide)
          | 24, _, mj => exact mj (by decide) (by decide) (by decide) (by decide) (by decide)
          | 25, _, mj => exact mj (by decide) (by decide) (by decide) (by decide) (by decide)
          | 26, _, mj => exact mj (by decide) (by decide) (by decide) (by decide) (by decide)
          | 27, _, mj => exact mj (by decide) (by decide) (by decide) (by decide) (by decide)
          | 28, _, mj => exact mj (by decide) (by decide) (by decide) (by decide) (by decide)
          | 29, _, mj => exact mj (by decide) (by decide) (by decide) (by decide) (by decide)
          | 30, _, mj => exact mj (by decide) (by decide) (by decide) (by decide) (by decide)
          | 31, _, mj => exact mj (by decide) (by decide) (by decide) (by decide) (by decide)
          | 32, _, mj => exact mj (by decide) (by decide) (by decide) (by decide) (by decide)
          | 33, _, mj => exact mj (by decide) (by decide) (by decide) (by decide) (by decide)
          | 34, _, mj => exact mj (by decide) (by decide) (by decide) (by decide) (by decide)
          | 35, _, mj => exact mj (by decide) (by decide) (by decide) (by decide) (by decide)
          | 36, _, mj => exact mj (by decide) (by decide) (by decide) (by decide) (by decide)
          | 37, _, mj => exact mj (by decide) (by decide) (by decide) (by decide) (by decide)
          | 38, _, mj => exact mj (by decide) (by decide) (by decide) (by decide) (by decide)
          | 39, _, mj => exact mj (by decide) (by decide) (by decide) (by decide) (by decide)
          | 40, _, mj => exact mj (by decide) (by decide) (by decide) (by decide) (by decide)
          | 41, _, mj => exact mj (by decide) (by decide) (by decide) (by decide) (by decide)
          | 42, _, mj => exact mj (by decide) (by decide) (by decide) (by decide) (by decide)
          | 43, _, mj => exact mj (by decide) (by decide) (by decide) (by decide) (by decide)
          | 44, _, mj => exact mj (by decide) (by decide) (by decide) (by decide) (by decide)
          | 45, _, mj => exact mj (by decide) (by decide) (by decide) (by decide) (by decide)
          | 46, _, _ => exact (hM 46 ▸ m46)
          | 47, _, _ => exact (hM 47 ▸ m47)
          | 48, _, _ => exact (hM 48 ▸ m48)
          | 49, _, mj => exact mj (by decide) (by decide) (by decide) (by decide) (by decide)
          | 50, _, mj => exact mj (by decide) (by decide) (by decide) (by decide) (by decide)
          | 51, _, mj => exact mj (by decide) (by decide) (by decide) (by decide) (by decide)
          | 52, _, mj => exact mj (by decide) (by decide) (by decide) (by decide) (by decide)
          | 53, _, mj => exact mj (by decide) (by decide) (by decide) (by decide) (by decide)
          | 54, _, mj => exact mj (by decide) (by decide) (by decide) (by decide) (by decide)
          | 55, _, mj => exact mj (by decide) (by decide) (by decide) (by decide) (by decide)
          | 56, _, mj => exact mj (by decide) (by decide) (by decide) (by decide) (by decide)
          | 57, _, mj => exact mj (by decide) (by decide) (by decide) (by decide) (by decide)
          | 58, _, mj => exact mj (by decide) (by decide) (by decide) (by decide) (by decide)
          | 59, _, mj => exact mj (by decide) (by decide) (by decide) (by decide) (by decide)
          | 60, _, mj => exact mj (by decide) (by decide) (by decide) (by decide) (by decide)
          | 61, _, mj => exact mj (by decide) (by decide) (by decide) (by decide) (by decide)
          | 62, _, mj => exact mj (by decide) (by decide) (by decide) (by decide) (by decide)
          | 63, _, mj => exact mj (by decide) (by decide) (by decide) (by decide) (by decide)
          | 64, _, mj => exact mj (by decide) (by decide) (by decide) (by decide) (by decide)
          | 65, _, mj => exact mj (by decide) (by decide) (by decide) (by decide) (by decide)
          | 66, _, mj => exact mj (by decide) (by decide) (by decide) (by decide) (by decide)
          | 67, _, mj => exact mj (by decide) (by decide) (by decide) (by decide) (by decide)
          | 68, _, mj => exact mj (by decide) (by decide) (by decide) (by decide) (by decide)
          | 69, _, mj => exact mj (by decide) (by decide) (by decide) (by decide) (by decide)
          | 70, _, _ => exact (hM 70 ▸ m70)
          | 71, _, mj => exact mj (by decide) (by decide) (by decide) (by decide) (by decide)
          | 72, _, mj => exact mj (by decide) (by decide) (by decide) (by decide) (by decide)
          | 73, _, mj => exact mj (by decide) (by decide) (by decide) (by decide) (by decide)
          | 74, _, mj => exact mj (by decide) (by decide) (by decide) (by decide) (by decide)
          | 75, _, mj => exact mj (by decide) (by decide) (by decide) (by decide) (by decide)
          | 76, _, mj => exact mj (by decide) (by decide) (by decide) (by decide) (by decide)
          | 77, _, mj => exact mj (by decide) (by decide) (by decide) (by decide) (by decide)
          | 78, _, mj => exact mj (by decide) (by decide) (by decide) (by decide) (by decide)
          | 79, _, mj => exact mj (by decide) (by decide) (by decide) (by decide) (by decide)
          | 80, _, mj => exact mj (by decide) (by decide) (by decide) (by decide) (by decide)
          | 81, _, mj => exact mj (by decide) (by decide) (by decide) (by decide) (by decide)
          | 82, _, mj => exact mj (by decide) (by decide) (by decide) (by decide) (by decide)
          | 83, _, mj => exact mj (by decide) (by decide) (by decide) (by decide) (by decide)
          | 84, _, mj => exact mj (by decide) (by decide) (by decide) (by decide) (by decide)
          | 85, _, mj => exact mj (by decide) (by decide) (by decide) (by decide) (by decide)
          | 86, _, mj => exact mj (by decide) (by decide) (by decide) (by decide) (by decide)
          | 87, _, mj => exact mj (by decide) (by decide) (by decide) (by decide) (by decide)
          | 88, _, mj => exact mj (by decide) (by decide) (by decide) (by decide) (by decide)
          | 89, _, mj => exact mj (by decide) (by decide) (by decide) (by decide) (by decide)
          | 90, _, mj => exact mj (by decide) (by decide) (by decide) (by decide) (by decide)
          | j + 91, h, _ => exact absurd h (by omega)
