theorem ndAt_cg {A : Nat → ClassId} {σ σ1 : hS} {m n : Nat} (h : ndAt A σ m n) (hq : ∀ q : Nat, m ≤ q → q < m + 3 * n → σ1.1 q = σ.1 q) : ndAt A σ1 m n := fun j hj => by
  have h := h j hj
  rw [hq _ (by omega) (by omega), hq _ (by omega) (by omega), hq _ (by omega) (by omega)]
  exact h
set_option maxRecDepth 100000 in
set_option maxHeartbeats 4000000 in
theorem smNew_cg {A : Nat → ClassId} {σ σ1 : hS} {a n0 : Nat} (h : smNew A σ a n0) (ha : σ1.1 a = σ.1 a) (hq : ∀ k : Nat, k < 1078 → σ1.1 (n0 + k) = σ.1 (n0 + k)) : smNew A σ1 a n0 := by
  obtain ⟨h0, h1, h2, h3, h4, h5, h6, h7, h8, h9, h10, h11, h12, h13, h14, h15, h16, h17, h18, h19, h20, h21, h22, h23, h24, h25, h26, h27, h28, h29, h30, h31, h32, h33, h34, h35, h36, h37, h38, h39, h40, h41, h42, h43, h44, h45, h46, h47, h48, h49, h50, h51, h52, h53, h54, h55, h56, h57, h58, h59, h60, h61, h62, h63, h64, h65, h66, h67, h68, h69, h70, h71, h72, h73, h74, h75, h76, h77, h78, h79, h80, h81, h82, h83, h84, h85, h86, h87, h88, h89, h90, h91, h92, h93, h94, h95, h96, h97, h98, h99, h100, h101, h102, h103, h104, h105, h106, h107, h108, h109, h110, h111, h112, h113, h114, h115, h116, h117, h118, h119⟩ := h
  exact ⟨ha.trans h0, (hq 0 (by decide)).trans h1, (hq 1 (by decide)).trans h2, (hq 2 (by decide)).trans h3, (hq 3 (by decide)).trans h4, (hq 4 (by decide)).trans h5, (hq 5 (by decide)).trans h6, (hq 12 (by decide)).trans h7, (hq 6 (by decide)).trans h8, (hq 7 (by decide)).trans h9, (hq 8 (by decide)).trans h10, (hq 9 (by decide)).trans h11, (hq 10 (by decide)).trans h12, (hq 11 (by decide)).trans h13, (hq 13 (by decide)).trans h14, (hq 14 (by decide)).trans h15, (hq 975 (by decide)).trans h16, (hq 976 (by decide)).trans h17, (hq 977 (by decide)).trans h18, (hq 978 (by decide)).trans h19, (hq 979 (by decide)).trans h20, (hq 980 (by decide)).trans h21, (hq 981 (by decide)).trans h22, (hq 982 (by decide)).trans h23, (hq 983 (by decide)).trans h24, (hq 984 (by decide)).trans h25, (hq 985 (by decide)).trans h26, (hq 986 (by decide)).trans h27, (hq 987 (by decide)).trans h28, (hq 988 (by decide)).trans h29, (hq 989 (by decide)).trans h30, (hq 990 (by decide)).trans h31, (hq 991 (by decide)).trans h32, (hq 992 (by decide)).trans h33, (hq 993 (by decide)).trans h34, (hq 994 (by decide)).trans h35, (hq 995 (by decide)).trans h36, (hq 996 (by decide)).trans h37, (hq 997 (by decide)).trans h38, (hq 998 (by decide)).trans h39, (hq 999 (by decide)).trans h40, (hq 1000 (by decide)).trans h41, (hq 1001 (by decide)).trans h42, (hq 1002 (by decide)).trans h43, (hq 1003 (by decide)).trans h44, (hq 1004 (by decide)).trans h45, (hq 1005 (by decide)).trans h46, (hq 1006 (by decide)).trans h47, (hq 1007 (by decide)).trans h48, (hq 1008 (by decide)).trans h49, (hq 1009 (by decide)).trans h50, (hq 1010 (by decide)).trans h51, (hq 1011 (by decide)).trans h52, (hq 1012 (by decide)).trans h53, (hq 1013 (by decide)).trans h54, (hq 1014 (by decide)).trans h55, (hq 1015 (by decide)).trans h56, (hq 1016 (by decide)).trans h57, (hq 1017 (by decide)).trans h58, (hq 1018 (by decide)).trans h59, (hq 1019 (by decide)).trans h60, (hq 1020 (by decide)).trans h61, (hq 1021 (by decide)).trans h62, (hq 1022 (by decide)).trans h63, (hq 1023 (by decide)).trans h64, (hq 1024 (by decide)).trans h65, (hq 1025 (by decide)).trans h66, (hq 1026 (by decide)).trans h67, (hq 1027 (by decide)).trans h68, (hq 1028 (by decide)).trans h69, (hq 1029 (by decide)).trans h70, (hq 1030 (by decide)).trans h71, (hq 1031 (by decide)).trans h72, (hq 1032 (by decide)).trans h73, (hq 1033 (by decide)).trans h74, (hq 1034 (by decide)).trans h75, (hq 1035 (by decide)).trans h76, (hq 1036 (by decide)).trans h77, (hq 1037 (by decide)).trans h78, (hq 1038 (by decide)).trans h79, (hq 1039 (by decide)).trans h80, (hq 1040 (by decide)).trans h81, (hq 1041 (by decide)).trans h82, (hq 1042 (by decide)).trans h83, (hq 1043 (by decide)).trans h84, (hq 1044 (by decide)).trans h85, (hq 1045 (by decide)).trans h86, (hq 1046 (by decide)).trans h87, (hq 1047 (by decide)).trans h88, (hq 1048 (by decide)).trans h89, (hq 1049 (by decide)).trans h90, (hq 1050 (by decide)).trans h91, (hq 1051 (by decide)).trans h92, (hq 1052 (by decide)).trans h93, (hq 1053 (by decide)).trans h94, (hq 1054 (by decide)).trans h95, (hq 1055 (by decide)).trans h96, (hq 1056 (by decide)).trans h97, (hq 1057 (by decide)).trans h98, (hq 1058 (by decide)).trans h99, (hq 1059 (by decide)).trans h100, (hq 1060 (by decide)).trans h101, (hq 1061 (by decide)).trans h102, (hq 1062 (by decide)).trans h103, (hq 1063 (by decide)).trans h104, (hq 1064 (by decide)).trans h105, (hq 1065 (by decide)).trans h106, (hq 1066 (by decide)).trans h107, (hq 1067 (by decide)).trans h108, (hq 1068 (by decide)).trans h109, (hq 1069 (by decide)).trans h110, (hq 1070 (by decide)).trans h111, (hq 1071 (by decide)).trans h112, (hq 1072 (by decide)).trans h113, (hq 1073 (by decide)).trans h114, (hq 1074 (by decide)).trans h115, (hq 1075 (by decide)).trans h116, (hq 1076 (by decide)).trans h117, (hq 1077 (by decide)).trans h118, ndAt_cg h119 (fun q h1 h2 => by rw [show q = n0 + (q - n0) by omega]; exact hq _ (by omega))⟩
theorem mmNew_cg {A : Nat → ClassId} {σ σ1 : hS} {a n0 : Nat} (h : mmNew A σ a n0) (ha : σ1.1 a = σ.1 a) (hq : ∀ k : Nat, k < 91 → σ1.1 (n0 + k) = σ.1 (n0 + k)) : mmNew A σ1 a n0 := by
  obtain ⟨h0, h1, h2, h3, h4, h5⟩ := h
  exact ⟨ha.trans h0, (hq 70 (by decide)).trans h1, (hq 46 (by decide)).trans h2, (hq 48 (by decide)).trans h3, (hq 47 (by decide)).trans h4, fun j hj a b c d => (hq j hj).trans (h5 j hj a b c d)⟩
theorem n0c : (0 : Int32).toNatClampNeg = 0 := by decide
theorem n1c : (1 : Int32).toNatClampNeg = 1 := by decide
theorem n2c : (2 : Int32).toNatClampNeg = 2 := by decide
theorem n3c : (3 : Int32).toNatClampNeg = 3 := by decide
theorem n4c : (4 : Int32).toNatClampNeg = 4 := by decide
theorem f4 {a b c e : Nat} {g : Nat → Option Nat} (g0 : g 0 = some a) (g1 : g 1 = some b) (g2 : g 2 = some c) (g3 : g 3 = some e) (h : ∀ u : Nat, 4 ≤ u → g u = none) : va_up (va_up (va_up (va_up (fun _ => none) (0 : Int32).toNatClampNeg (some a)) (1 : Int32).toNatClampNeg (some b)) (2 : Int32).toNatClampNeg (some c)) (3 : Int32).toNatClampNeg (some e) = g := by
  rw [n0c, n1c, n2c, n3c]
  funext u
  by_cases hu : u < 4
  · rcases (show u = 0 ∨ u = 1 ∨ u = 2 ∨ u = 3 by omega) with rfl | rfl | rfl | rfl
    · rw [g0]; rfl
    · rw [g1]; rfl
    · rw [g2]; rfl
    · rw [g3]; rfl
  · rw [h u (by omega)]
    unfold va_up
    rw [if_neg (by omega), if_neg (by omega), if_neg (by omega), if_neg (by omega)]
theorem f5 {a b c e x : Nat} {g : Nat → Option Nat} (g0 : g 0 = some a) (g1 : g 1 = some b) (g2 : g 2 = some c) (g3 : g 3 = some e) (g4 : g 4 = some x) (h : ∀ u : Nat, 5 ≤ u → g u = none) : va_up (va_up (va_up (va_up (va_up (fun _ => none) (0 : Int32).toNatClampNeg (some a)) (1 : Int32).toNatClampNeg (some b)) (2 : Int32).toNatClampNeg (some c)) (3 : Int32).toNatClampNeg (some e)) (4 : Int32).toNatClampNeg (some x) = g := by
  rw [n0c, n1c, n2c, n3c, n4c]
  funext u
  by_cases hu : u < 5
  · rcases (show u = 0 ∨ u = 1 ∨ u = 2 ∨ u = 3 ∨ u = 4 by omega) with rfl | rfl | rfl | rfl | rfl
    · rw [g0]; rfl
    · rw [g1]; rfl
    · rw [g2]; rfl
    · rw [g3]; rfl
    · rw [g4]; rfl
  · rw [h u (by omega)]
    unfold va_up
    rw [if_neg (by omega), if_neg (by omega), if_neg (by omega), if_neg (by omega), if_neg (by omega)]
/-- the bytes of the first mailbox's name -/
def ibF : Nat → Int32 := (t_puts 120 (fun _ => 0, 0) IBX).1
set_option maxRecDepth 100000 in
set_option maxHeartbeats 4000000 in
/-- what a fresh object of the class is -/
theorem sm_f {A : Nat → ClassId} {σ : hS} {a n0 : Nat} (h : smNew A σ a n0) : σ.1 a = some (smO n0 0 0 0 0 0 0 0 1) ∧ usAt A σ n0 (fun _ => 0) (fun _ => 0) (fun _ => 1) (fun _ => .null) ∧ (∀ (ea lb tx : Nat → Nat) (eu eb ef ed : Nat → Int32), mlAt A σ n0 0 ea lb tx eu eb ef ed) ∧ quAt A σ n0 (fun _ => []) ∧ ubAt A σ n0 (fun _ => 1) (fun _ _ => 0) (fun _ _ => 5) (fun _ => ibF) ∧
    σ.1 (n0 + 2) = some (.inl (A 5, 4, .inr (.inr (.inr (.inr (seF n0)))))) ∧ σ.1 (n0 + 0) = some (.inl (A 1, 6000, .inl (fun _ => 0))) ∧ σ.1 (n0 + 1041) = some (dlO n0 0 0 0 0 0 0 0) ∧ txA A σ (n0 + 1042) (n0 + 1043) (n0 + 1044) (n0 + 1045) 101 1 (fun _ => 0) (fun _ => 0) (fun _ => 0) 0 0 0 ∧ txA A σ (n0 + 1046) (n0 + 1047) (n0 + 1048) (n0 + 1049) 404 4 (fun _ => 0) (fun _ => 0) (fun _ => 0) 0 0 0 := by
  obtain ⟨h0, h1, h2, h3, h4, h5, h6, h7, h8, h9, h10, h11, h12, h13, h14, h15, h16, h17, h18, h19, h20, h21, h22, h23, h24, h25, h26, h27, h28, h29, h30, h31, h32, h33, h34, h35, h36, h37, h38, h39, h40, h41, h42, h43, h44, h45, h46, h47, h48, h49, h50, h51, h52, h53, h54, h55, h56, h57, h58, h59, h60, h61, h62, h63, h64, h65, h66, h67, h68, h69, h70, h71, h72, h73, h74, h75, h76, h77, h78, h79, h80, h81, h82, h83, h84, h85, h86, h87, h88, h89, h90, h91, h92, h93, h94, h95, h96, h97, h98, h99, h100, h101, h102, h103, h104, h105, h106, h107, h108, h109, h110, h111, h112, h113, h114, h115, h116, h117, h118, h119⟩ := h
  refine ⟨h0, ⟨?_, fun u hu => ?_⟩, fun _ _ _ _ _ _ _ => ⟨by decide, _, h5, fun j hj => absurd hj (Nat.not_lt_zero j)⟩, ⟨?_, fun s hs => ?_⟩, fun u hu => ?_, ?_, h1, h82, ⟨h83, h84, h85, h86, ⟨by omega, by omega, by omega⟩, by decide, by decide, by decide, by decide, by decide⟩, ⟨h87, h88, h89, h90, ⟨by omega, by omega, by omega⟩, by decide, by decide, by decide, by decide, by decide⟩⟩
  · rw [← f4 (g := usF n0) rfl rfl rfl rfl (fun u h => if_neg (by omega))]; exact h4
  · rcases (show u = 0 ∨ u = 1 ∨ u = 2 ∨ u = 3 by omega) with rfl | rfl | rfl | rfl
    · exact ⟨by decide, by decide, by decide, h25, nI 5, nI 5, h28⟩
    · exact ⟨by decide, by decide, by decide, h41, nI 5, nI 5, h44⟩
    · exact ⟨by decide, by decide, by decide, h57, nI 5, nI 5, h60⟩
    · exact ⟨by decide, by decide, by decide, h73, nI 5, nI 5, h76⟩
  · rw [← f5 (g := quF n0) rfl rfl rfl rfl rfl (fun u h => if_neg (by omega))]; exact h2
  · rcases (show s = 0 ∨ s = 1 ∨ s = 2 ∨ s = 3 ∨ s = 4 by omega) with rfl | rfl | rfl | rfl | rfl
    · exact ⟨0, fun _ => 0, by decide, by decide, h16, h17, fun j hj => absurd hj (Nat.not_lt_zero j)⟩
    · exact ⟨0, fun _ => 0, by decide, by decide, h32, h33, fun j hj => absurd hj (Nat.not_lt_zero j)⟩
    · exact ⟨0, fun _ => 0, by decide, by decide, h48, h49, fun j hj => absurd hj (Nat.not_lt_zero j)⟩
    · exact ⟨0, fun _ => 0, by decide, by decide, h64, h65, fun j hj => absurd hj (Nat.not_lt_zero j)⟩
    · exact ⟨0, fun _ => 0, by decide, by decide, h80, h81, fun j hj => absurd hj (Nat.not_lt_zero j)⟩
  · rcases (show u = 0 ∨ u = 1 ∨ u = 2 ∨ u = 3 by omega) with rfl | rfl | rfl | rfl
    · exact ⟨h29, _, _, h30, h31, fun k hk => by rw [show k = 0 from Nat.lt_one_iff.mp hk]; exact ⟨rfl, rfl, by decide, by decide⟩⟩
    · exact ⟨h45, _, _, h46, h47, fun k hk => by rw [show k = 0 from Nat.lt_one_iff.mp hk]; exact ⟨rfl, rfl, by decide, by decide⟩⟩
    · exact ⟨h61, _, _, h62, h63, fun k hk => by rw [show k = 0 from Nat.lt_one_iff.mp hk]; exact ⟨rfl, rfl, by decide, by decide⟩⟩
    · exact ⟨h77, _, _, h78, h79, fun k hk => by rw [show k = 0 from Nat.lt_one_iff.mp hk]; exact ⟨rfl, rfl, by decide, by decide⟩⟩
  · rw [← f4 (g := seF n0) rfl rfl rfl rfl (fun u h => if_neg (by omega))]; exact h3
/-- what a fresh reference is -/
def mV0 : Nat → Int32 := fun i => if i = 0 then 1 else 0
theorem mR_b : ∀ u : Nat, u < 4 → mR_boxes u = nI 1 := by decide +kernel
theorem mR_z : ∀ u : Nat, u < 4 → mR_boxSize (6 * u) = nI 5 := by decide +kernel
theorem mR_t : ∀ u : Nat, u < 4 → ∀ t : Nat, t < 5 → mR_boxText (120 * u + t) = ibF t &&& 255 := by decide +kernel
theorem mm_f {A : Nat → ClassId} {σ : hS} {a n0 : Nat} (h : mmNew A σ a n0) : σ.1 a = some (.inr (12, mFs n0 mV0)) ∧ σ.1 (n0 + 46) = some (.inl (A 0, 4, .inl mR_boxes)) ∧ σ.1 (n0 + 47) = some (.inl (A 0, 480, .inl mR_boxText)) ∧ σ.1 (n0 + 48) = some (.inl (A 0, 24, .inl mR_boxSize)) ∧ σ.1 (n0 + 44) = some (.inl (A 0, 10300, .inl (fun _ => 0))) ∧ σ.1 (n0 + 45) = some (.inl (A 0, 101, .inl (fun _ => 0))) ∧ σ.1 (n0 + 69) = some (.inl (A 0, 4, .inl (fun _ => 0))) ∧ σ.1 (n0 + 49) = some (.inl (A 0, 4, .inl (fun _ => 0))) ∧ σ.1 (n0 + 0) = some (.inl (A 0, 6000, .inl (fun _ => 0))) ∧ σ.1 (n0 + 6) = some (.inl (A 0, 5, .inl (fun _ => 0))) ∧ mqAt A σ n0 (fun _ => []) := by
  obtain ⟨h0, h1, h2, h3, h4, h5⟩ := h
  refine ⟨h0, h2, h4, h3, h5 44 (by decide) (by decide) (by decide) (by decide) (by decide), h5 45 (by decide) (by decide) (by decide) (by decide) (by decide), h5 69 (by decide) (by decide) (by decide) (by decide) (by decide), h5 49 (by decide) (by decide) (by decide) (by decide) (by decide), h5 0 (by decide) (by decide) (by decide) (by decide) (by decide), h5 6 (by decide) (by decide) (by decide) (by decide) (by decide), _, h5 6 (by decide) (by decide) (by decide) (by decide) (by decide), fun s hs => ⟨rfl, Nat.zero_le _, fun _ => 0, ?_, fun j hj => absurd hj (Nat.not_lt_zero j)⟩⟩
  rcases (show s = 0 ∨ s = 1 ∨ s = 2 ∨ s = 3 ∨ s = 4 by omega) with rfl | rfl | rfl | rfl | rfl
  · exact h5 1 (by decide) (by decide) (by decide) (by decide) (by decide)
  · exact h5 2 (by decide) (by decide) (by decide) (by decide) (by decide)
  · exact h5 3 (by decide) (by decide) (by decide) (by decide) (by decide)
  · exact h5 4 (by decide) (by decide) (by decide) (by decide) (by decide)
  · exact h5 5 (by decide) (by decide) (by decide) (by decide) (by decide)
