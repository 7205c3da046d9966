theorem ks_0 {s : State} {args : Array Value} (hts : ∀ w ∈ lw_tbl, w.before args s = true) (hn : narrow_1.before args s = true) : ∃ q w : Nat, (∀ (U : State) (H : Heap), Zc s s.heap.size U H → vk_R "SortedMail" 124 "syntax" q U) ∧ uStr s.heap.size (Zc s s.heap.size) q w kW_0 := by
  obtain ⟨q, w, h1, h2⟩ := sC_of (bs := kW_0) (i := 1611) hn (by decide +kernel) (by decide) (hts _ (w_t7 137 rfl))
  exact ⟨q, w, h1, h2, by decide, by decide⟩
theorem ks_1 {s : State} {args : Array Value} (hts : ∀ w ∈ lw_tbl, w.before args s = true) (hn : narrow_1.before args s = true) : ∃ q w : Nat, (∀ (U : State) (H : Heap), Zc s s.heap.size U H → vk_R "SortedMail" 236 "552 5.3.4 too big" q U) ∧ uStr s.heap.size (Zc s s.heap.size) q w kW_1 := by
  obtain ⟨q, w, h1, h2⟩ := sC_of (bs := kW_1) (i := 573) hn (by decide +kernel) (by decide) (hts _ (w_t4 142 rfl))
  exact ⟨q, w, h1, h2, by decide, by decide⟩
theorem ks_2 {s : State} {args : Array Value} (hts : ∀ w ∈ lw_tbl, w.before args s = true) (hn : narrow_1.before args s = true) : ∃ q w : Nat, (∀ (U : State) (H : Heap), Zc s s.heap.size U H → vk_R "SortedMail" 265 "452 4.2.2 full" q U) ∧ uStr s.heap.size (Zc s s.heap.size) q w kW_2 := by
  obtain ⟨q, w, h1, h2⟩ := sC_of (bs := kW_2) (i := 1379) hn (by decide +kernel) (by decide) (hts _ (w_t6 114 rfl))
  exact ⟨q, w, h1, h2, by decide, by decide⟩
theorem ks_3 {s : State} {args : Array Value} (hts : ∀ w ∈ lw_tbl, w.before args s = true) (hn : narrow_1.before args s = true) : ∃ q w : Nat, (∀ (U : State) (H : Heap), Zc s s.heap.size U H → vk_R "SortedMail" 375 "OK" q U) ∧ uStr s.heap.size (Zc s s.heap.size) q w kW_3 := by
  obtain ⟨q, w, h1, h2⟩ := sC_of (bs := kW_3) (i := 1535) hn (by decide +kernel) (by decide) (hts _ (w_t7 76 rfl))
  exact ⟨q, w, h1, h2, by decide, by decide⟩
theorem ks_4 {s : State} {args : Array Value} (hts : ∀ w ∈ lw_tbl, w.before args s = true) (hn : narrow_1.before args s = true) : ∃ q w : Nat, (∀ (U : State) (H : Heap), Zc s s.heap.size U H → vk_R "SortedMail" 387 "space" q U) ∧ uStr s.heap.size (Zc s s.heap.size) q w kW_4 := by
  obtain ⟨q, w, h1, h2⟩ := sC_of (bs := kW_4) (i := 1541) hn (by decide +kernel) (by decide) (hts _ (w_t7 81 rfl))
  exact ⟨q, w, h1, h2, by decide, by decide⟩
theorem ks_5 {s : State} {args : Array Value} (hts : ∀ w ∈ lw_tbl, w.before args s = true) (hn : narrow_1.before args s = true) : ∃ q w : Nat, (∀ (U : State) (H : Heap), Zc s s.heap.size U H → vk_R "SortedMail" 399 "none" q U) ∧ uStr s.heap.size (Zc s s.heap.size) q w kW_5 := by
  obtain ⟨q, w, h1, h2⟩ := sC_of (bs := kW_5) (i := 1558) hn (by decide +kernel) (by decide) (hts _ (w_t7 101 rfl))
  exact ⟨q, w, h1, h2, by decide, by decide⟩
theorem ks_6 {s : State} {args : Array Value} (hts : ∀ w ∈ lw_tbl, w.before args s = true) (hn : narrow_1.before args s = true) : ∃ q w : Nat, (∀ (U : State) (H : Heap), Zc s s.heap.size U H → vk_R "SortedMail" 411 " ACTIVE" q U) ∧ uStr s.heap.size (Zc s s.heap.size) q w kW_6 := by
  obtain ⟨q, w, h1, h2⟩ := sC_of (bs := kW_6) (i := 1575) hn (by decide +kernel) (by decide) (hts _ (w_t7 121 rfl))
  exact ⟨q, w, h1, h2, by decide, by decide⟩
theorem ks_7 {s : State} {args : Array Value} (hts : ∀ w ∈ lw_tbl, w.before args s = true) (hn : narrow_1.before args s = true) : ∃ q w : Nat, (∀ (U : State) (H : Heap), Zc s s.heap.size U H → vk_R "SortedMail" 413 "" q U) ∧ uStr s.heap.size (Zc s s.heap.size) q w kW_7 := by
  obtain ⟨q, w, h1, h2⟩ := sC_of (bs := kW_7) (i := 1586) hn (by decide +kernel) (by decide) (hts _ (w_t7 122 rfl))
  exact ⟨q, w, h1, h2, by decide, by decide⟩
theorem ks_8 {s : State} {args : Array Value} (hts : ∀ w ∈ lw_tbl, w.before args s = true) (hn : narrow_1.before args s = true) : ∃ q w : Nat, (∀ (U : State) (H : Heap), Zc s s.heap.size U H → vk_R "SortedMail" 415 "active" q U) ∧ uStr s.heap.size (Zc s s.heap.size) q w kW_8 := by
  obtain ⟨q, w, h1, h2⟩ := sC_of (bs := kW_8) (i := 1591) hn (by decide +kernel) (by decide) (hts _ (w_t7 127 rfl))
  exact ⟨q, w, h1, h2, by decide, by decide⟩
theorem ks_9 {s : State} {args : Array Value} (hts : ∀ w ∈ lw_tbl, w.before args s = true) (hn : narrow_1.before args s = true) : ∃ q w : Nat, (∀ (U : State) (H : Heap), Zc s s.heap.size U H → vk_R "SortedMail" 419 "exists" q U) ∧ uStr s.heap.size (Zc s s.heap.size) q w kW_9 := by
  obtain ⟨q, w, h1, h2⟩ := sC_of (bs := kW_9) (i := 1601) hn (by decide +kernel) (by decide) (hts _ (w_t7 136 rfl))
  exact ⟨q, w, h1, h2, by decide, by decide⟩
theorem ks_10 {s : State} {args : Array Value} (hts : ∀ w ∈ lw_tbl, w.before args s = true) (hn : narrow_1.before args s = true) : ∃ q w : Nat, (∀ (U : State) (H : Heap), Zc s s.heap.size U H → vk_R "SortedMail$Delivery" 39 "220 here LMTP" q U) ∧ uStr s.heap.size (Zc s s.heap.size) q w kW_10 := by
  obtain ⟨q, w, h1, h2⟩ := sC_of (bs := kW_10) (i := 141) hn (by decide +kernel) (by decide) (hts _ (w_t3 155 rfl))
  exact ⟨q, w, h1, h2, by decide, by decide⟩
theorem ks_11 {s : State} {args : Array Value} (hts : ∀ w ∈ lw_tbl, w.before args s = true) (hn : narrow_1.before args s = true) : ∃ q w : Nat, (∀ (U : State) (H : Heap), Zc s s.heap.size U H → vk_R "SortedMail$Delivery" 65 "anna@here ben@here cleo@here dan@here" q U) ∧ uStr s.heap.size (Zc s s.heap.size) q w kW_11 := by
  obtain ⟨q, w, h1, h2⟩ := sC_of (bs := kW_11) (i := 430) hn (by decide +kernel) (by decide) (hts _ (w_t4 94 rfl))
  exact ⟨q, w, h1, h2, by decide, by decide⟩
theorem ks_12 {s : State} {args : Array Value} (hts : ∀ w ∈ lw_tbl, w.before args s = true) (hn : narrow_1.before args s = true) : ∃ q w : Nat, (∀ (U : State) (H : Heap), Zc s s.heap.size U H → vk_R "SortedMail$Delivery" 77 "250 2.0.0 <" q U) ∧ uStr s.heap.size (Zc s s.heap.size) q w kW_12 := by
  obtain ⟨q, w, h1, h2⟩ := sC_of (bs := kW_12) (i := 1397) hn (by decide +kernel) (by decide) (hts _ (w_t6 206 rfl))
  exact ⟨q, w, h1, h2, by decide, by decide⟩
theorem ks_13 {s : State} {args : Array Value} (hts : ∀ w ∈ lw_tbl, w.before args s = true) (hn : narrow_1.before args s = true) : ∃ q w : Nat, (∀ (U : State) (H : Heap), Zc s s.heap.size U H → vk_R "SortedMail$Delivery" 95 ">" q U) ∧ uStr s.heap.size (Zc s s.heap.size) q w kW_13 := by
  obtain ⟨q, w, h1, h2⟩ := sC_of (bs := kW_13) (i := 1412) hn (by decide +kernel) (by decide) (hts _ (w_t6 212 rfl))
  exact ⟨q, w, h1, h2, by decide, by decide⟩
theorem ks_14 {s : State} {args : Array Value} (hts : ∀ w ∈ lw_tbl, w.before args s = true) (hn : narrow_1.before args s = true) : ∃ q w : Nat, (∀ (U : State) (H : Heap), Zc s s.heap.size U H → vk_R "SortedMail$Delivery" 111 "500 5.5.2 too long" q U) ∧ uStr s.heap.size (Zc s s.heap.size) q w kW_14 := by
  obtain ⟨q, w, h1, h2⟩ := sC_of (bs := kW_14) (i := 158) hn (by decide +kernel) (by decide) (hts _ (w_t3 197 rfl))
  exact ⟨q, w, h1, h2, by decide, by decide⟩
theorem ks_15 {s : State} {args : Array Value} (hts : ∀ w ∈ lw_tbl, w.before args s = true) (hn : narrow_1.before args s = true) : ∃ q w : Nat, (∀ (U : State) (H : Heap), Zc s s.heap.size U H → vk_R "SortedMail$Delivery" 117 "LHLO MAIL RCPT DATA RSET NOOP QUIT" q U) ∧ uStr s.heap.size (Zc s s.heap.size) q w kW_15 := by
  obtain ⟨q, w, h1, h2⟩ := sC_of (bs := kW_15) (i := 180) hn (by decide +kernel) (by decide) (hts _ (w_t3 201 rfl))
  exact ⟨q, w, h1, h2, by decide, by decide⟩
theorem ks_16 {s : State} {args : Array Value} (hts : ∀ w ∈ lw_tbl, w.before args s = true) (hn : narrow_1.before args s = true) : ∃ q w : Nat, (∀ (U : State) (H : Heap), Zc s s.heap.size U H → vk_R "SortedMail$Delivery" 123 "500 5.5.2 unknown" q U) ∧ uStr s.heap.size (Zc s s.heap.size) q w kW_16 := by
  obtain ⟨q, w, h1, h2⟩ := sC_of (bs := kW_16) (i := 218) hn (by decide +kernel) (by decide) (hts _ (w_t3 208 rfl))
  exact ⟨q, w, h1, h2, by decide, by decide⟩
theorem ks_17 {s : State} {args : Array Value} (hts : ∀ w ∈ lw_tbl, w.before args s = true) (hn : narrow_1.before args s = true) : ∃ q w : Nat, (∀ (U : State) (H : Heap), Zc s s.heap.size U H → vk_R "SortedMail$Delivery" 125 "503 5.5.1 order" q U) ∧ uStr s.heap.size (Zc s s.heap.size) q w kW_17 := by
  obtain ⟨q, w, h1, h2⟩ := sC_of (bs := kW_17) (i := 239) hn (by decide +kernel) (by decide) (hts _ (w_t3 209 rfl))
  exact ⟨q, w, h1, h2, by decide, by decide⟩
theorem ks_18 {s : State} {args : Array Value} (hts : ∀ w ∈ lw_tbl, w.before args s = true) (hn : narrow_1.before args s = true) : ∃ q w : Nat, (∀ (U : State) (H : Heap), Zc s s.heap.size U H → vk_R "SortedMail$Delivery" 136 "501 5.5.4 syntax" q U) ∧ uStr s.heap.size (Zc s s.heap.size) q w kW_18 := by
  obtain ⟨q, w, h1, h2⟩ := sC_of (bs := kW_18) (i := 263) hn (by decide +kernel) (by decide) (hts _ (w_t4 38 rfl))
  exact ⟨q, w, h1, h2, by decide, by decide⟩
theorem ks_19 {s : State} {args : Array Value} (hts : ∀ w ∈ lw_tbl, w.before args s = true) (hn : narrow_1.before args s = true) : ∃ q w : Nat, (∀ (U : State) (H : Heap), Zc s s.heap.size U H → vk_R "SortedMail$Delivery" 148 "250-here" q U) ∧ uStr s.heap.size (Zc s s.heap.size) q w kW_19 := by
  obtain ⟨q, w, h1, h2⟩ := sC_of (bs := kW_19) (i := 283) hn (by decide +kernel) (by decide) (hts _ (w_t4 43 rfl))
  exact ⟨q, w, h1, h2, by decide, by decide⟩
theorem ks_20 {s : State} {args : Array Value} (hts : ∀ w ∈ lw_tbl, w.before args s = true) (hn : narrow_1.before args s = true) : ∃ q w : Nat, (∀ (U : State) (H : Heap), Zc s s.heap.size U H → vk_R "SortedMail$Delivery" 150 "250-SIZE 4000" q U) ∧ uStr s.heap.size (Zc s s.heap.size) q w kW_20 := by
  obtain ⟨q, w, h1, h2⟩ := sC_of (bs := kW_20) (i := 295) hn (by decide +kernel) (by decide) (hts _ (w_t4 44 rfl))
  exact ⟨q, w, h1, h2, by decide, by decide⟩
theorem ks_21 {s : State} {args : Array Value} (hts : ∀ w ∈ lw_tbl, w.before args s = true) (hn : narrow_1.before args s = true) : ∃ q w : Nat, (∀ (U : State) (H : Heap), Zc s s.heap.size U H → vk_R "SortedMail$Delivery" 152 "250 8BITMIME" q U) ∧ uStr s.heap.size (Zc s s.heap.size) q w kW_21 := by
  obtain ⟨q, w, h1, h2⟩ := sC_of (bs := kW_21) (i := 312) hn (by decide +kernel) (by decide) (hts _ (w_t4 45 rfl))
  exact ⟨q, w, h1, h2, by decide, by decide⟩
theorem ks_22 {s : State} {args : Array Value} (hts : ∀ w ∈ lw_tbl, w.before args s = true) (hn : narrow_1.before args s = true) : ∃ q w : Nat, (∀ (U : State) (H : Heap), Zc s s.heap.size U H → vk_R "SortedMail$Delivery" 154 "FROM:" q U) ∧ uStr s.heap.size (Zc s s.heap.size) q w kW_22 := by
  obtain ⟨q, w, h1, h2⟩ := sC_of (bs := kW_22) (i := 328) hn (by decide +kernel) (by decide) (hts _ (w_t4 50 rfl))
  exact ⟨q, w, h1, h2, by decide, by decide⟩
theorem ks_23 {s : State} {args : Array Value} (hts : ∀ w ∈ lw_tbl, w.before args s = true) (hn : narrow_1.before args s = true) : ∃ q w : Nat, (∀ (U : State) (H : Heap), Zc s s.heap.size U H → vk_R "SortedMail$Delivery" 173 "552 5.3.4 too big" q U) ∧ uStr s.heap.size (Zc s s.heap.size) q w kW_23 := by
  obtain ⟨q, w, h1, h2⟩ := sC_of (bs := kW_23) (i := 386) hn (by decide +kernel) (by decide) (hts _ (w_t4 78 rfl))
  exact ⟨q, w, h1, h2, by decide, by decide⟩
theorem ks_24 {s : State} {args : Array Value} (hts : ∀ w ∈ lw_tbl, w.before args s = true) (hn : narrow_1.before args s = true) : ∃ q w : Nat, (∀ (U : State) (H : Heap), Zc s s.heap.size U H → vk_R "SortedMail$Delivery" 179 "250 2.1.0 ok" q U) ∧ uStr s.heap.size (Zc s s.heap.size) q w kW_24 := by
  obtain ⟨q, w, h1, h2⟩ := sC_of (bs := kW_24) (i := 407) hn (by decide +kernel) (by decide) (hts _ (w_t4 88 rfl))
  exact ⟨q, w, h1, h2, by decide, by decide⟩
theorem ks_25 {s : State} {args : Array Value} (hts : ∀ w ∈ lw_tbl, w.before args s = true) (hn : narrow_1.before args s = true) : ∃ q w : Nat, (∀ (U : State) (H : Heap), Zc s s.heap.size U H → vk_R "SortedMail$Delivery" 181 "TO:" q U) ∧ uStr s.heap.size (Zc s s.heap.size) q w kW_25 := by
  obtain ⟨q, w, h1, h2⟩ := sC_of (bs := kW_25) (i := 423) hn (by decide +kernel) (by decide) (hts _ (w_t4 93 rfl))
  exact ⟨q, w, h1, h2, by decide, by decide⟩
theorem ks_26 {s : State} {args : Array Value} (hts : ∀ w ∈ lw_tbl, w.before args s = true) (hn : narrow_1.before args s = true) : ∃ q w : Nat, (∀ (U : State) (H : Heap), Zc s s.heap.size U H → vk_R "SortedMail$Delivery" 183 "550 5.1.1 no such" q U) ∧ uStr s.heap.size (Zc s s.heap.size) q w kW_26 := by
  obtain ⟨q, w, h1, h2⟩ := sC_of (bs := kW_26) (i := 471) hn (by decide +kernel) (by decide) (hts _ (w_t4 95 rfl))
  exact ⟨q, w, h1, h2, by decide, by decide⟩
theorem ks_27 {s : State} {args : Array Value} (hts : ∀ w ∈ lw_tbl, w.before args s = true) (hn : narrow_1.before args s = true) : ∃ q w : Nat, (∀ (U : State) (H : Heap), Zc s s.heap.size U H → vk_R "SortedMail$Delivery" 185 "452 4.5.3 too many" q U) ∧ uStr s.heap.size (Zc s s.heap.size) q w kW_27 := by
  obtain ⟨q, w, h1, h2⟩ := sC_of (bs := kW_27) (i := 492) hn (by decide +kernel) (by decide) (hts _ (w_t4 96 rfl))
  exact ⟨q, w, h1, h2, by decide, by decide⟩
theorem ks_28 {s : State} {args : Array Value} (hts : ∀ w ∈ lw_tbl, w.before args s = true) (hn : narrow_1.before args s = true) : ∃ q w : Nat, (∀ (U : State) (H : Heap), Zc s s.heap.size U H → vk_R "SortedMail$Delivery" 187 "250 2.1.5 ok" q U) ∧ uStr s.heap.size (Zc s s.heap.size) q w kW_28 := by
  obtain ⟨q, w, h1, h2⟩ := sC_of (bs := kW_28) (i := 514) hn (by decide +kernel) (by decide) (hts _ (w_t4 97 rfl))
  exact ⟨q, w, h1, h2, by decide, by decide⟩
theorem ks_29 {s : State} {args : Array Value} (hts : ∀ w ∈ lw_tbl, w.before args s = true) (hn : narrow_1.before args s = true) : ∃ q w : Nat, (∀ (U : State) (H : Heap), Zc s s.heap.size U H → vk_R "SortedMail$Delivery" 192 "250 2.0.0 ok" q U) ∧ uStr s.heap.size (Zc s s.heap.size) q w kW_29 := by
  obtain ⟨q, w, h1, h2⟩ := sC_of (bs := kW_29) (i := 540) hn (by decide +kernel) (by decide) (hts _ (w_t4 107 rfl))
  exact ⟨q, w, h1, h2, by decide, by decide⟩
theorem ks_30 {s : State} {args : Array Value} (hts : ∀ w ∈ lw_tbl, w.before args s = true) (hn : narrow_1.before args s = true) : ∃ q w : Nat, (∀ (U : State) (H : Heap), Zc s s.heap.size U H → vk_R "SortedMail$Delivery" 194 "221 2.0.0 bye" q U) ∧ uStr s.heap.size (Zc s s.heap.size) q w kW_30 := by
  obtain ⟨q, w, h1, h2⟩ := sC_of (bs := kW_30) (i := 556) hn (by decide +kernel) (by decide) (hts _ (w_t4 108 rfl))
  exact ⟨q, w, h1, h2, by decide, by decide⟩
theorem ks_31 {s : State} {args : Array Value} (hts : ∀ w ∈ lw_tbl, w.before args s = true) (hn : narrow_1.before args s = true) : ∃ q w : Nat, (∀ (U : State) (H : Heap), Zc s s.heap.size U H → vk_R "SortedMail$Delivery" 196 "354 go" q U) ∧ uStr s.heap.size (Zc s s.heap.size) q w kW_31 := by
  obtain ⟨q, w, h1, h2⟩ := sC_of (bs := kW_31) (i := 530) hn (by decide +kernel) (by decide) (hts _ (w_t4 106 rfl))
  exact ⟨q, w, h1, h2, by decide, by decide⟩
theorem ks_32 {s : State} {args : Array Value} (hts : ∀ w ∈ lw_tbl, w.before args s = true) (hn : narrow_1.before args s = true) : ∃ q w : Nat, (∀ (U : State) (H : Heap), Zc s s.heap.size U H → vk_R "SortedMail$Delivery" 207 "BODY=8BITMIME" q U) ∧ uStr s.heap.size (Zc s s.heap.size) q w kW_32 := by
  obtain ⟨q, w, h1, h2⟩ := sC_of (bs := kW_32) (i := 360) hn (by decide +kernel) (by decide) (hts _ (w_t4 69 rfl))
  exact ⟨q, w, h1, h2, by decide, by decide⟩
theorem ks_33 {s : State} {args : Array Value} (hts : ∀ w ∈ lw_tbl, w.before args s = true) (hn : narrow_1.before args s = true) : ∃ q w : Nat, (∀ (U : State) (H : Heap), Zc s s.heap.size U H → vk_R "SortedMail$Delivery" 212 "SIZE=" q U) ∧ uStr s.heap.size (Zc s s.heap.size) q w kW_33 := by
  obtain ⟨q, w, h1, h2⟩ := sC_of (bs := kW_33) (i := 377) hn (by decide +kernel) (by decide) (hts _ (w_t4 74 rfl))
  exact ⟨q, w, h1, h2, by decide, by decide⟩
theorem ks_34 {s : State} {args : Array Value} (hts : ∀ w ∈ lw_tbl, w.before args s = true) (hn : narrow_1.before args s = true) : ∃ q w : Nat, (∀ (U : State) (H : Heap), Zc s s.heap.size U H → vk_R "SortedMail$Lexer" 76 ";,()[]{}" q U) ∧ uStr s.heap.size (Zc s s.heap.size) q w kW_34 := by
  obtain ⟨q, w, h1, h2⟩ := sC_of (bs := kW_34) (i := 603) hn (by decide +kernel) (by decide) (hts _ (w_t5 13 rfl))
  exact ⟨q, w, h1, h2, by decide, by decide⟩
theorem ks_35 {s : State} {args : Array Value} (hts : ∀ w ∈ lw_tbl, w.before args s = true) (hn : narrow_1.before args s = true) : ∃ q w : Nat, (∀ (U : State) (H : Heap), Zc s s.heap.size U H → vk_R "SortedMail$Lexer" 129 "text" q U) ∧ uStr s.heap.size (Zc s s.heap.size) q w kW_35 := by
  obtain ⟨q, w, h1, h2⟩ := sC_of (bs := kW_35) (i := 595) hn (by decide +kernel) (by decide) (hts _ (w_t4 227 rfl))
  exact ⟨q, w, h1, h2, by decide, by decide⟩
theorem ks_36 {s : State} {args : Array Value} (hts : ∀ w ∈ lw_tbl, w.before args s = true) (hn : narrow_1.before args s = true) : ∃ q w : Nat, (∀ (U : State) (H : Heap), Zc s s.heap.size U H → vk_R "SortedMail$Parser" 127 "require" q U) ∧ uStr s.heap.size (Zc s s.heap.size) q w kW_36 := by
  obtain ⟨q, w, h1, h2⟩ := sC_of (bs := kW_36) (i := 615) hn (by decide +kernel) (by decide) (hts _ (w_t5 23 rfl))
  exact ⟨q, w, h1, h2, by decide, by decide⟩
theorem ks_37 {s : State} {args : Array Value} (hts : ∀ w ∈ lw_tbl, w.before args s = true) (hn : narrow_1.before args s = true) : ∃ q w : Nat, (∀ (U : State) (H : Heap), Zc s s.heap.size U H → vk_R "SortedMail$Parser" 138 "if stop discard keep fileinto redirect reject setflag addflag removeflag vacation" q U) ∧ uStr s.heap.size (Zc s s.heap.size) q w kW_37 := by
  obtain ⟨q, w, h1, h2⟩ := sC_of (bs := kW_37) (i := 626) hn (by decide +kernel) (by decide) (hts _ (w_t5 36 rfl))
  exact ⟨q, w, h1, h2, by decide, by decide⟩
theorem ks_38 {s : State} {args : Array Value} (hts : ∀ w ∈ lw_tbl, w.before args s = true) (hn : narrow_1.before args s = true) : ∃ q w : Nat, (∀ (U : State) (H : Heap), Zc s s.heap.size U H → vk_R "SortedMail$Parser" 149 "elsif else" q U) ∧ uStr s.heap.size (Zc s s.heap.size) q w kW_38 := by
  obtain ⟨q, w, h1, h2⟩ := sC_of (bs := kW_38) (i := 711) hn (by decide +kernel) (by decide) (hts _ (w_t5 65 rfl))
  exact ⟨q, w, h1, h2, by decide, by decide⟩
theorem ks_39 {s : State} {args : Array Value} (hts : ∀ w ∈ lw_tbl, w.before args s = true) (hn : narrow_1.before args s = true) : ∃ q w : Nat, (∀ (U : State) (H : Heap), Zc s s.heap.size U H → vk_R "SortedMail$Parser" 151 "header address envelope hasflag exists size allof anyof not true false" q U) ∧ uStr s.heap.size (Zc s s.heap.size) q w kW_39 := by
  obtain ⟨q, w, h1, h2⟩ := sC_of (bs := kW_39) (i := 725) hn (by decide +kernel) (by decide) (hts _ (w_t5 70 rfl))
  exact ⟨q, w, h1, h2, by decide, by decide⟩
theorem ks_40 {s : State} {args : Array Value} (hts : ∀ w ∈ lw_tbl, w.before args s = true) (hn : narrow_1.before args s = true) : ∃ q w : Nat, (∀ (U : State) (H : Heap), Zc s s.heap.size U H → vk_R "SortedMail$Parser" 159 "is contains matches count value comparator all localpart domain flags copy days subject addresses handle over under" q U) ∧ uStr s.heap.size (Zc s s.heap.size) q w kW_40 := by
  obtain ⟨q, w, h1, h2⟩ := sC_of (bs := kW_40) (i := 799) hn (by decide +kernel) (by decide) (hts _ (w_t5 87 rfl))
  exact ⟨q, w, h1, h2, by decide, by decide⟩
theorem ks_41 {s : State} {args : Array Value} (hts : ∀ w ∈ lw_tbl, w.before args s = true) (hn : narrow_1.before args s = true) : ∃ q w : Nat, (∀ (U : State) (H : Heap), Zc s s.heap.size U H → vk_R "SortedMail$Parser" 210 "fileinto reject envelope copy imap4flags relational vacation comparator-i;ascii-numeric" q U) ∧ uStr s.heap.size (Zc s s.heap.size) q w kW_41 := by
  obtain ⟨q, w, h1, h2⟩ := sC_of (bs := kW_41) (i := 918) hn (by decide +kernel) (by decide) (hts _ (w_t5 108 rfl))
  exact ⟨q, w, h1, h2, by decide, by decide⟩
theorem ks_42 {s : State} {args : Array Value} (hts : ∀ w ∈ lw_tbl, w.before args s = true) (hn : narrow_1.before args s = true) : ∃ q w : Nat, (∀ (U : State) (H : Heap), Zc s s.heap.size U H → vk_R "SortedMail$Parser" 220 "gt ge lt le eq ne" q U) ∧ uStr s.heap.size (Zc s s.heap.size) q w kW_42 := by
  obtain ⟨q, w, h1, h2⟩ := sC_of (bs := kW_42) (i := 1009) hn (by decide +kernel) (by decide) (hts _ (w_t5 110 rfl))
  exact ⟨q, w, h1, h2, by decide, by decide⟩
theorem ks_43 {s : State} {args : Array Value} (hts : ∀ w ∈ lw_tbl, w.before args s = true) (hn : narrow_1.before args s = true) : ∃ q w : Nat, (∀ (U : State) (H : Heap), Zc s s.heap.size U H → vk_R "SortedMail$Parser" 225 "i;ascii-casemap i;octet i;ascii-numeric" q U) ∧ uStr s.heap.size (Zc s s.heap.size) q w kW_43 := by
  obtain ⟨q, w, h1, h2⟩ := sC_of (bs := kW_43) (i := 1030) hn (by decide +kernel) (by decide) (hts _ (w_t5 111 rfl))
  exact ⟨q, w, h1, h2, by decide, by decide⟩
theorem ks_44 {s : State} {args : Array Value} (hts : ∀ w ∈ lw_tbl, w.before args s = true) (hn : narrow_1.before args s = true) : ∃ q w : Nat, (∀ (U : State) (H : Heap), Zc s s.heap.size U H → vk_R "SortedMail$Parser" 232 "\\Seen \\Answered \\Flagged \\Deleted \\Draft" q U) ∧ uStr s.heap.size (Zc s s.heap.size) q w kW_44 := by
  obtain ⟨q, w, h1, h2⟩ := sC_of (bs := kW_44) (i := 1073) hn (by decide +kernel) (by decide) (hts _ (w_t5 112 rfl))
  exact ⟨q, w, h1, h2, by decide, by decide⟩
theorem ks_45 {s : State} {args : Array Value} (hts : ∀ w ∈ lw_tbl, w.before args s = true) (hn : narrow_1.before args s = true) : ∃ q w : Nat, (∀ (U : State) (H : Heap), Zc s s.heap.size U H → vk_R "SortedMail$Queue" 38 "NO \"" q U) ∧ uStr s.heap.size (Zc s s.heap.size) q w kW_45 := by
  obtain ⟨q, w, h1, h2⟩ := sC_of (bs := kW_45) (i := 1550) hn (by decide +kernel) (by decide) (hts _ (w_t7 86 rfl))
  exact ⟨q, w, h1, h2, by decide, by decide⟩
theorem ks_46 {s : State} {args : Array Value} (hts : ∀ w ∈ lw_tbl, w.before args s = true) (hn : narrow_1.before args s = true) : ∃ q w : Nat, (∀ (U : State) (H : Heap), Zc s s.heap.size U H → vk_R "SortedMail$Queue" 40 "\"" q U) ∧ uStr s.heap.size (Zc s s.heap.size) q w kW_46 := by
  obtain ⟨q, w, h1, h2⟩ := sC_of (bs := kW_46) (i := 1530) hn (by decide +kernel) (by decide) (hts _ (w_t7 74 rfl))
  exact ⟨q, w, h1, h2, by decide, by decide⟩
theorem ks_47 {s : State} {args : Array Value} (hts : ∀ w ∈ lw_tbl, w.before args s = true) (hn : narrow_1.before args s = true) : ∃ q w : Nat, (∀ (U : State) (H : Heap), Zc s s.heap.size U H → vk_R "SortedMail$Queue" 45 "NO \"line " q U) ∧ uStr s.heap.size (Zc s s.heap.size) q w kW_47 := by
  obtain ⟨q, w, h1, h2⟩ := sC_of (bs := kW_47) (i := 1517) hn (by decide +kernel) (by decide) (hts _ (w_t7 69 rfl))
  exact ⟨q, w, h1, h2, by decide, by decide⟩
theorem ks_48 {s : State} {args : Array Value} (hts : ∀ w ∈ lw_tbl, w.before args s = true) (hn : narrow_1.before args s = true) : ∃ q w : Nat, (∀ (U : State) (H : Heap), Zc s s.heap.size U H → vk_R "SortedMail$Queue" 50 "}" q U) ∧ uStr s.heap.size (Zc s s.heap.size) q w kW_48 := by
  obtain ⟨q, w, h1, h2⟩ := sC_of (bs := kW_48) (i := 1566) hn (by decide +kernel) (by decide) (hts _ (w_t7 110 rfl))
  exact ⟨q, w, h1, h2, by decide, by decide⟩
theorem ks_49 {s : State} {args : Array Value} (hts : ∀ w ∈ lw_tbl, w.before args s = true) (hn : narrow_1.before args s = true) : ∃ q w : Nat, (∀ (U : State) (H : Heap), Zc s s.heap.size U H → vk_R "SortedMail$Queue" 56 "" q U) ∧ uStr s.heap.size (Zc s s.heap.size) q w kW_49 := by
  obtain ⟨q, w, h1, h2⟩ := sC_of (bs := kW_49) (i := 1571) hn (by decide +kernel) (by decide) (hts _ (w_t7 112 rfl))
  exact ⟨q, w, h1, h2, by decide, by decide⟩
theorem ks_50 {s : State} {args : Array Value} (hts : ∀ w ∈ lw_tbl, w.before args s = true) (hn : narrow_1.before args s = true) : ∃ q w : Nat, (∀ (U : State) (H : Heap), Zc s s.heap.size U H → vk_R "SortedMail$Reader" 147 "from to" q U) ∧ uStr s.heap.size (Zc s s.heap.size) q w kW_50 := by
  obtain ⟨q, w, h1, h2⟩ := sC_of (bs := kW_50) (i := 1117) hn (by decide +kernel) (by decide) (hts _ (w_t5 173 rfl))
  exact ⟨q, w, h1, h2, by decide, by decide⟩
theorem ks_51 {s : State} {args : Array Value} (hts : ∀ w ∈ lw_tbl, w.before args s = true) (hn : narrow_1.before args s = true) : ∃ q w : Nat, (∀ (U : State) (H : Heap), Zc s s.heap.size U H → vk_R "SortedMail$Reader" 159 "\\Seen \\Answered \\Flagged \\Deleted \\Draft" q U) ∧ uStr s.heap.size (Zc s s.heap.size) q w kW_51 := by
  obtain ⟨q, w, h1, h2⟩ := sC_of (bs := kW_51) (i := 1128) hn (by decide +kernel) (by decide) (hts _ (w_t5 179 rfl))
  exact ⟨q, w, h1, h2, by decide, by decide⟩
theorem ks_52 {s : State} {args : Array Value} (hts : ∀ w ∈ lw_tbl, w.before args s = true) (hn : narrow_1.before args s = true) : ∃ q w : Nat, (∀ (U : State) (H : Heap), Zc s s.heap.size U H → vk_R "SortedMail$Reader" 210 "List-Id List-Post Precedence" q U) ∧ uStr s.heap.size (Zc s s.heap.size) q w kW_52 := by
  obtain ⟨q, w, h1, h2⟩ := sC_of (bs := kW_52) (i := 1252) hn (by decide +kernel) (by decide) (hts _ (w_t6 79 rfl))
  exact ⟨q, w, h1, h2, by decide, by decide⟩
theorem ks_53 {s : State} {args : Array Value} (hts : ∀ w ∈ lw_tbl, w.before args s = true) (hn : narrow_1.before args s = true) : ∃ q w : Nat, (∀ (U : State) (H : Heap), Zc s s.heap.size U H → vk_R "SortedMail$Reader" 216 "Auto-Submitted" q U) ∧ uStr s.heap.size (Zc s s.heap.size) q w kW_53 := by
  obtain ⟨q, w, h1, h2⟩ := sC_of (bs := kW_53) (i := 1284) hn (by decide +kernel) (by decide) (hts _ (w_t6 81 rfl))
  exact ⟨q, w, h1, h2, by decide, by decide⟩
theorem ks_54 {s : State} {args : Array Value} (hts : ∀ w ∈ lw_tbl, w.before args s = true) (hn : narrow_1.before args s = true) : ∃ q w : Nat, (∀ (U : State) (H : Heap), Zc s s.heap.size U H → vk_R "SortedMail$Reader" 222 "no" q U) ∧ uStr s.heap.size (Zc s s.heap.size) q w kW_54 := by
  obtain ⟨q, w, h1, h2⟩ := sC_of (bs := kW_54) (i := 1302) hn (by decide +kernel) (by decide) (hts _ (w_t6 83 rfl))
  exact ⟨q, w, h1, h2, by decide, by decide⟩
theorem ks_55 {s : State} {args : Array Value} (hts : ∀ w ∈ lw_tbl, w.before args s = true) (hn : narrow_1.before args s = true) : ∃ q w : Nat, (∀ (U : State) (H : Heap), Zc s s.heap.size U H → vk_R "SortedMail$Reader" 224 "mailer-daemon listserv majordomo" q U) ∧ uStr s.heap.size (Zc s s.heap.size) q w kW_55 := by
  obtain ⟨q, w, h1, h2⟩ := sC_of (bs := kW_55) (i := 1308) hn (by decide +kernel) (by decide) (hts _ (w_t6 84 rfl))
  exact ⟨q, w, h1, h2, by decide, by decide⟩
theorem ks_56 {s : State} {args : Array Value} (hts : ∀ w ∈ lw_tbl, w.before args s = true) (hn : narrow_1.before args s = true) : ∃ q w : Nat, (∀ (U : State) (H : Heap), Zc s s.heap.size U H → vk_R "SortedMail$Reader" 226 "owner-" q U) ∧ uStr s.heap.size (Zc s s.heap.size) q w kW_56 := by
  obtain ⟨q, w, h1, h2⟩ := sC_of (bs := kW_56) (i := 1344) hn (by decide +kernel) (by decide) (hts _ (w_t6 85 rfl))
  exact ⟨q, w, h1, h2, by decide, by decide⟩
theorem ks_57 {s : State} {args : Array Value} (hts : ∀ w ∈ lw_tbl, w.before args s = true) (hn : narrow_1.before args s = true) : ∃ q w : Nat, (∀ (U : State) (H : Heap), Zc s s.heap.size U H → vk_R "SortedMail$Reader" 228 "-request" q U) ∧ uStr s.heap.size (Zc s s.heap.size) q w kW_57 := by
  obtain ⟨q, w, h1, h2⟩ := sC_of (bs := kW_57) (i := 1354) hn (by decide +kernel) (by decide) (hts _ (w_t6 86 rfl))
  exact ⟨q, w, h1, h2, by decide, by decide⟩
theorem ks_58 {s : State} {args : Array Value} (hts : ∀ w ∈ lw_tbl, w.before args s = true) (hn : narrow_1.before args s = true) : ∃ q w : Nat, (∀ (U : State) (H : Heap), Zc s s.heap.size U H → vk_R "SortedMail$Reader" 230 "To Cc Bcc" q U) ∧ uStr s.heap.size (Zc s s.heap.size) q w kW_58 := by
  obtain ⟨q, w, h1, h2⟩ := sC_of (bs := kW_58) (i := 1366) hn (by decide +kernel) (by decide) (hts _ (w_t6 91 rfl))
  exact ⟨q, w, h1, h2, by decide, by decide⟩
theorem ks_59 {s : State} {args : Array Value} (hts : ∀ w ∈ lw_tbl, w.before args s = true) (hn : narrow_1.before args s = true) : ∃ q w : Nat, (∀ (U : State) (H : Heap), Zc s s.heap.size U H → vk_R "SortedMail$Runner" 187 "INBOX" q U) ∧ uStr s.heap.size (Zc s s.heap.size) q w kW_59 := by
  obtain ⟨q, w, h1, h2⟩ := sC_of (bs := kW_59) (i := 1173) hn (by decide +kernel) (by decide) (hts _ (w_t6 33 rfl))
  exact ⟨q, w, h1, h2, by decide, by decide⟩
theorem ks_60 {s : State} {args : Array Value} (hts : ∀ w ∈ lw_tbl, w.before args s = true) (hn : narrow_1.before args s = true) : ∃ q w : Nat, (∀ (U : State) (H : Heap), Zc s s.heap.size U H → vk_R "SortedMail$Runner" 261 "To: " q U) ∧ uStr s.heap.size (Zc s s.heap.size) q w kW_60 := by
  obtain ⟨q, w, h1, h2⟩ := sC_of (bs := kW_60) (i := 1183) hn (by decide +kernel) (by decide) (hts _ (w_t6 58 rfl))
  exact ⟨q, w, h1, h2, by decide, by decide⟩
theorem ks_61 {s : State} {args : Array Value} (hts : ∀ w ∈ lw_tbl, w.before args s = true) (hn : narrow_1.before args s = true) : ∃ q w : Nat, (∀ (U : State) (H : Heap), Zc s s.heap.size U H → vk_R "SortedMail$Runner" 271 "\r\nSubject: " q U) ∧ uStr s.heap.size (Zc s s.heap.size) q w kW_61 := by
  obtain ⟨q, w, h1, h2⟩ := sC_of (bs := kW_61) (i := 1191) hn (by decide +kernel) (by decide) (hts _ (w_t6 64 rfl))
  exact ⟨q, w, h1, h2, by decide, by decide⟩
theorem ks_62 {s : State} {args : Array Value} (hts : ∀ w ∈ lw_tbl, w.before args s = true) (hn : narrow_1.before args s = true) : ∃ q w : Nat, (∀ (U : State) (H : Heap), Zc s s.heap.size U H → vk_R "SortedMail$Runner" 273 "Refused" q U) ∧ uStr s.heap.size (Zc s s.heap.size) q w kW_62 := by
  obtain ⟨q, w, h1, h2⟩ := sC_of (bs := kW_62) (i := 1206) hn (by decide +kernel) (by decide) (hts _ (w_t6 65 rfl))
  exact ⟨q, w, h1, h2, by decide, by decide⟩
theorem ks_63 {s : State} {args : Array Value} (hts : ∀ w ∈ lw_tbl, w.before args s = true) (hn : narrow_1.before args s = true) : ∃ q w : Nat, (∀ (U : State) (H : Heap), Zc s s.heap.size U H → vk_R "SortedMail$Runner" 275 "Auto: " q U) ∧ uStr s.heap.size (Zc s s.heap.size) q w kW_63 := by
  obtain ⟨q, w, h1, h2⟩ := sC_of (bs := kW_63) (i := 1217) hn (by decide +kernel) (by decide) (hts _ (w_t6 66 rfl))
  exact ⟨q, w, h1, h2, by decide, by decide⟩
theorem ks_64 {s : State} {args : Array Value} (hts : ∀ w ∈ lw_tbl, w.before args s = true) (hn : narrow_1.before args s = true) : ∃ q w : Nat, (∀ (U : State) (H : Heap), Zc s s.heap.size U H → vk_R "SortedMail$Runner" 280 "Subject" q U) ∧ uStr s.heap.size (Zc s s.heap.size) q w kW_64 := by
  obtain ⟨q, w, h1, h2⟩ := sC_of (bs := kW_64) (i := 1227) hn (by decide +kernel) (by decide) (hts _ (w_t6 67 rfl))
  exact ⟨q, w, h1, h2, by decide, by decide⟩
theorem ks_65 {s : State} {args : Array Value} (hts : ∀ w ∈ lw_tbl, w.before args s = true) (hn : narrow_1.before args s = true) : ∃ q w : Nat, (∀ (U : State) (H : Heap), Zc s s.heap.size U H → vk_R "SortedMail$Runner" 286 "\r\n\r\n" q U) ∧ uStr s.heap.size (Zc s s.heap.size) q w kW_65 := by
  obtain ⟨q, w, h1, h2⟩ := sC_of (bs := kW_65) (i := 1238) hn (by decide +kernel) (by decide) (hts _ (w_t6 72 rfl))
  exact ⟨q, w, h1, h2, by decide, by decide⟩
theorem ks_66 {s : State} {args : Array Value} (hts : ∀ w ∈ lw_tbl, w.before args s = true) (hn : narrow_1.before args s = true) : ∃ q w : Nat, (∀ (U : State) (H : Heap), Zc s s.heap.size U H → vk_R "SortedMail$Runner" 288 "\r\n" q U) ∧ uStr s.heap.size (Zc s s.heap.size) q w kW_66 := by
  obtain ⟨q, w, h1, h2⟩ := sC_of (bs := kW_66) (i := 1246) hn (by decide +kernel) (by decide) (hts _ (w_t6 73 rfl))
  exact ⟨q, w, h1, h2, by decide, by decide⟩
theorem ks_67 {s : State} {args : Array Value} (hts : ∀ w ∈ lw_tbl, w.before args s = true) (hn : narrow_1.before args s = true) : ∃ q w : Nat, (∀ (U : State) (H : Heap), Zc s s.heap.size U H → vk_R "SortedMail$ScriptSession" 106 "PUTSCRIPT CHECKSCRIPT HAVESPACE SETACTIVE GETSCRIPT LISTSCRIPTS DELETESCRIPT RENAMESCRIPT LOGOUT" q U) ∧ uStr s.heap.size (Zc s s.heap.size) q w kW_67 := by
  obtain ⟨q, w, h1, h2⟩ := sC_of (bs := kW_67) (i := 1417) hn (by decide +kernel) (by decide) (hts _ (w_t7 38 rfl))
  exact ⟨q, w, h1, h2, by decide, by decide⟩
theorem ks_68 {s : State} {args : Array Value} (hts : ∀ w ∈ lw_tbl, w.before args s = true) (hn : narrow_1.before args s = true) : ∃ q w : Nat, (∀ (U : State) (H : Heap), Zc s s.heap.size U H → vk_R "SortedMail$Texts" 96 "!#$%&'*+-/=?^_`{|}~" q U) ∧ uStr s.heap.size (Zc s s.heap.size) q w kW_68 := by
  obtain ⟨q, w, h1, h2⟩ := sC_of (bs := kW_68) (i := 337) hn (by decide +kernel) (by decide) (hts _ (w_t4 64 rfl))
  exact ⟨q, w, h1, h2, by decide, by decide⟩
theorem ks_69 {s : State} {args : Array Value} (hts : ∀ w ∈ lw_tbl, w.before args s = true) (hn : narrow_1.before args s = true) : ∃ q w : Nat, (∀ (U : State) (H : Heap), Zc s s.heap.size U H → vk_R "SortedMail$Texts" 102 "-" q U) ∧ uStr s.heap.size (Zc s s.heap.size) q w kW_69 := by
  obtain ⟨q, w, h1, h2⟩ := sC_of (bs := kW_69) (i := 258) hn (by decide +kernel) (by decide) (hts _ (w_t3 217 rfl))
  exact ⟨q, w, h1, h2, by decide, by decide⟩
theorem ks_70 {s : State} {args : Array Value} (hts : ∀ w ∈ lw_tbl, w.before args s = true) (hn : narrow_1.before args s = true) : ∃ q w : Nat, (∀ (U : State) (H : Heap), Zc s s.heap.size U H → vk_R "SortedMail$User" 27 "INBOX" q U) ∧ uStr s.heap.size (Zc s s.heap.size) q w kW_70 := by
  obtain ⟨q, w, h1, h2⟩ := sC_of (bs := kW_70) (i := 132) hn (by decide +kernel) (by decide) (hts _ (w_t2 71 rfl))
  exact ⟨q, w, h1, h2, by decide, by decide⟩
theorem ks_71 {s : State} {args : Array Value} (hts : ∀ w ∈ lw_tbl, w.before args s = true) (hn : narrow_1.before args s = true) : ∃ q w : Nat, (∀ (U : State) (H : Heap), Zc s s.heap.size U H → vk_R "SortedMailModel" 150 "anna@here" q U) ∧ uStr s.heap.size (Zc s s.heap.size) q w kW_71 := by
  obtain ⟨q, w, h1, h2⟩ := sC_of (bs := kW_71) (i := 2873) hn (by decide +kernel) (by decide) (hts _ (w_t11 9 rfl))
  exact ⟨q, w, h1, h2, by decide, by decide⟩
theorem ks_72 {s : State} {args : Array Value} (hts : ∀ w ∈ lw_tbl, w.before args s = true) (hn : narrow_1.before args s = true) : ∃ q w : Nat, (∀ (U : State) (H : Heap), Zc s s.heap.size U H → vk_R "SortedMailModel" 152 "ben@here" q U) ∧ uStr s.heap.size (Zc s s.heap.size) q w kW_72 := by
  obtain ⟨q, w, h1, h2⟩ := sC_of (bs := kW_72) (i := 2886) hn (by decide +kernel) (by decide) (hts _ (w_t11 10 rfl))
  exact ⟨q, w, h1, h2, by decide, by decide⟩
theorem ks_73 {s : State} {args : Array Value} (hts : ∀ w ∈ lw_tbl, w.before args s = true) (hn : narrow_1.before args s = true) : ∃ q w : Nat, (∀ (U : State) (H : Heap), Zc s s.heap.size U H → vk_R "SortedMailModel" 154 "cleo@here" q U) ∧ uStr s.heap.size (Zc s s.heap.size) q w kW_73 := by
  obtain ⟨q, w, h1, h2⟩ := sC_of (bs := kW_73) (i := 2898) hn (by decide +kernel) (by decide) (hts _ (w_t11 11 rfl))
  exact ⟨q, w, h1, h2, by decide, by decide⟩
theorem ks_74 {s : State} {args : Array Value} (hts : ∀ w ∈ lw_tbl, w.before args s = true) (hn : narrow_1.before args s = true) : ∃ q w : Nat, (∀ (U : State) (H : Heap), Zc s s.heap.size U H → vk_R "SortedMailModel" 156 "dan@here" q U) ∧ uStr s.heap.size (Zc s s.heap.size) q w kW_74 := by
  obtain ⟨q, w, h1, h2⟩ := sC_of (bs := kW_74) (i := 2911) hn (by decide +kernel) (by decide) (hts _ (w_t11 12 rfl))
  exact ⟨q, w, h1, h2, by decide, by decide⟩
theorem ks_75 {s : State} {args : Array Value} (hts : ∀ w ∈ lw_tbl, w.before args s = true) (hn : narrow_1.before args s = true) : ∃ q w : Nat, (∀ (U : State) (H : Heap), Zc s s.heap.size U H → vk_R "SortedMailModel" 233 "text" q U) ∧ uStr s.heap.size (Zc s s.heap.size) q w kW_75 := by
  obtain ⟨q, w, h1, h2⟩ := sC_of (bs := kW_75) (i := 1662) hn (by decide +kernel) (by decide) (hts _ (w_t8 94 rfl))
  exact ⟨q, w, h1, h2, by decide, by decide⟩
theorem ks_76 {s : State} {args : Array Value} (hts : ∀ w ∈ lw_tbl, w.before args s = true) (hn : narrow_1.before args s = true) : ∃ q w : Nat, (∀ (U : State) (H : Heap), Zc s s.heap.size U H → vk_R "SortedMailModel" 364 "require" q U) ∧ uStr s.heap.size (Zc s s.heap.size) q w kW_76 := by
  obtain ⟨q, w, h1, h2⟩ := sC_of (bs := kW_76) (i := 1671) hn (by decide +kernel) (by decide) (hts _ (w_t8 131 rfl))
  exact ⟨q, w, h1, h2, by decide, by decide⟩
theorem ks_77 {s : State} {args : Array Value} (hts : ∀ w ∈ lw_tbl, w.before args s = true) (hn : narrow_1.before args s = true) : ∃ q w : Nat, (∀ (U : State) (H : Heap), Zc s s.heap.size U H → vk_R "SortedMailModel" 380 "fileinto" q U) ∧ uStr s.heap.size (Zc s s.heap.size) q w kW_77 := by
  obtain ⟨q, w, h1, h2⟩ := sC_of (bs := kW_77) (i := 1683) hn (by decide +kernel) (by decide) (hts _ (w_t8 156 rfl))
  exact ⟨q, w, h1, h2, by decide, by decide⟩
theorem ks_78 {s : State} {args : Array Value} (hts : ∀ w ∈ lw_tbl, w.before args s = true) (hn : narrow_1.before args s = true) : ∃ q w : Nat, (∀ (U : State) (H : Heap), Zc s s.heap.size U H → vk_R "SortedMailModel" 386 "reject" q U) ∧ uStr s.heap.size (Zc s s.heap.size) q w kW_78 := by
  obtain ⟨q, w, h1, h2⟩ := sC_of (bs := kW_78) (i := 1695) hn (by decide +kernel) (by decide) (hts _ (w_t8 161 rfl))
  exact ⟨q, w, h1, h2, by decide, by decide⟩
theorem ks_79 {s : State} {args : Array Value} (hts : ∀ w ∈ lw_tbl, w.before args s = true) (hn : narrow_1.before args s = true) : ∃ q w : Nat, (∀ (U : State) (H : Heap), Zc s s.heap.size U H → vk_R "SortedMailModel" 388 "envelope" q U) ∧ uStr s.heap.size (Zc s s.heap.size) q w kW_79 := by
  obtain ⟨q, w, h1, h2⟩ := sC_of (bs := kW_79) (i := 1705) hn (by decide +kernel) (by decide) (hts _ (w_t8 162 rfl))
  exact ⟨q, w, h1, h2, by decide, by decide⟩
theorem ks_80 {s : State} {args : Array Value} (hts : ∀ w ∈ lw_tbl, w.before args s = true) (hn : narrow_1.before args s = true) : ∃ q w : Nat, (∀ (U : State) (H : Heap), Zc s s.heap.size U H → vk_R "SortedMailModel" 390 "copy" q U) ∧ uStr s.heap.size (Zc s s.heap.size) q w kW_80 := by
  obtain ⟨q, w, h1, h2⟩ := sC_of (bs := kW_80) (i := 1717) hn (by decide +kernel) (by decide) (hts _ (w_t8 163 rfl))
  exact ⟨q, w, h1, h2, by decide, by decide⟩
theorem ks_81 {s : State} {args : Array Value} (hts : ∀ w ∈ lw_tbl, w.before args s = true) (hn : narrow_1.before args s = true) : ∃ q w : Nat, (∀ (U : State) (H : Heap), Zc s s.heap.size U H → vk_R "SortedMailModel" 392 "imap4flags" q U) ∧ uStr s.heap.size (Zc s s.heap.size) q w kW_81 := by
  obtain ⟨q, w, h1, h2⟩ := sC_of (bs := kW_81) (i := 1725) hn (by decide +kernel) (by decide) (hts _ (w_t8 164 rfl))
  exact ⟨q, w, h1, h2, by decide, by decide⟩
theorem ks_82 {s : State} {args : Array Value} (hts : ∀ w ∈ lw_tbl, w.before args s = true) (hn : narrow_1.before args s = true) : ∃ q w : Nat, (∀ (U : State) (H : Heap), Zc s s.heap.size U H → vk_R "SortedMailModel" 394 "relational" q U) ∧ uStr s.heap.size (Zc s s.heap.size) q w kW_82 := by
  obtain ⟨q, w, h1, h2⟩ := sC_of (bs := kW_82) (i := 1739) hn (by decide +kernel) (by decide) (hts _ (w_t8 165 rfl))
  exact ⟨q, w, h1, h2, by decide, by decide⟩
theorem ks_83 {s : State} {args : Array Value} (hts : ∀ w ∈ lw_tbl, w.before args s = true) (hn : narrow_1.before args s = true) : ∃ q w : Nat, (∀ (U : State) (H : Heap), Zc s s.heap.size U H → vk_R "SortedMailModel" 396 "vacation" q U) ∧ uStr s.heap.size (Zc s s.heap.size) q w kW_83 := by
  obtain ⟨q, w, h1, h2⟩ := sC_of (bs := kW_83) (i := 1753) hn (by decide +kernel) (by decide) (hts _ (w_t8 166 rfl))
  exact ⟨q, w, h1, h2, by decide, by decide⟩
theorem ks_84 {s : State} {args : Array Value} (hts : ∀ w ∈ lw_tbl, w.before args s = true) (hn : narrow_1.before args s = true) : ∃ q w : Nat, (∀ (U : State) (H : Heap), Zc s s.heap.size U H → vk_R "SortedMailModel" 398 "comparator-i;ascii-numeric" q U) ∧ uStr s.heap.size (Zc s s.heap.size) q w kW_84 := by
  obtain ⟨q, w, h1, h2⟩ := sC_of (bs := kW_84) (i := 1765) hn (by decide +kernel) (by decide) (hts _ (w_t8 167 rfl))
  exact ⟨q, w, h1, h2, by decide, by decide⟩
theorem ks_85 {s : State} {args : Array Value} (hts : ∀ w ∈ lw_tbl, w.before args s = true) (hn : narrow_1.before args s = true) : ∃ q w : Nat, (∀ (U : State) (H : Heap), Zc s s.heap.size U H → vk_R "SortedMailModel" 406 "if" q U) ∧ uStr s.heap.size (Zc s s.heap.size) q w kW_85 := by
  obtain ⟨q, w, h1, h2⟩ := sC_of (bs := kW_85) (i := 1795) hn (by decide +kernel) (by decide) (hts _ (w_t8 184 rfl))
  exact ⟨q, w, h1, h2, by decide, by decide⟩
theorem ks_86 {s : State} {args : Array Value} (hts : ∀ w ∈ lw_tbl, w.before args s = true) (hn : narrow_1.before args s = true) : ∃ q w : Nat, (∀ (U : State) (H : Heap), Zc s s.heap.size U H → vk_R "SortedMailModel" 411 "stop" q U) ∧ uStr s.heap.size (Zc s s.heap.size) q w kW_86 := by
  obtain ⟨q, w, h1, h2⟩ := sC_of (bs := kW_86) (i := 2104) hn (by decide +kernel) (by decide) (hts _ (w_t9 29 rfl))
  exact ⟨q, w, h1, h2, by decide, by decide⟩
theorem ks_87 {s : State} {args : Array Value} (hts : ∀ w ∈ lw_tbl, w.before args s = true) (hn : narrow_1.before args s = true) : ∃ q w : Nat, (∀ (U : State) (H : Heap), Zc s s.heap.size U H → vk_R "SortedMailModel" 413 "discard" q U) ∧ uStr s.heap.size (Zc s s.heap.size) q w kW_87 := by
  obtain ⟨q, w, h1, h2⟩ := sC_of (bs := kW_87) (i := 2112) hn (by decide +kernel) (by decide) (hts _ (w_t9 30 rfl))
  exact ⟨q, w, h1, h2, by decide, by decide⟩
theorem ks_88 {s : State} {args : Array Value} (hts : ∀ w ∈ lw_tbl, w.before args s = true) (hn : narrow_1.before args s = true) : ∃ q w : Nat, (∀ (U : State) (H : Heap), Zc s s.heap.size U H → vk_R "SortedMailModel" 415 "keep" q U) ∧ uStr s.heap.size (Zc s s.heap.size) q w kW_88 := by
  obtain ⟨q, w, h1, h2⟩ := sC_of (bs := kW_88) (i := 2123) hn (by decide +kernel) (by decide) (hts _ (w_t9 31 rfl))
  exact ⟨q, w, h1, h2, by decide, by decide⟩
theorem ks_89 {s : State} {args : Array Value} (hts : ∀ w ∈ lw_tbl, w.before args s = true) (hn : narrow_1.before args s = true) : ∃ q w : Nat, (∀ (U : State) (H : Heap), Zc s s.heap.size U H → vk_R "SortedMailModel" 417 "redirect" q U) ∧ uStr s.heap.size (Zc s s.heap.size) q w kW_89 := by
  obtain ⟨q, w, h1, h2⟩ := sC_of (bs := kW_89) (i := 2131) hn (by decide +kernel) (by decide) (hts _ (w_t9 32 rfl))
  exact ⟨q, w, h1, h2, by decide, by decide⟩
theorem ks_90 {s : State} {args : Array Value} (hts : ∀ w ∈ lw_tbl, w.before args s = true) (hn : narrow_1.before args s = true) : ∃ q w : Nat, (∀ (U : State) (H : Heap), Zc s s.heap.size U H → vk_R "SortedMailModel" 419 "setflag" q U) ∧ uStr s.heap.size (Zc s s.heap.size) q w kW_90 := by
  obtain ⟨q, w, h1, h2⟩ := sC_of (bs := kW_90) (i := 2143) hn (by decide +kernel) (by decide) (hts _ (w_t9 33 rfl))
  exact ⟨q, w, h1, h2, by decide, by decide⟩
theorem ks_91 {s : State} {args : Array Value} (hts : ∀ w ∈ lw_tbl, w.before args s = true) (hn : narrow_1.before args s = true) : ∃ q w : Nat, (∀ (U : State) (H : Heap), Zc s s.heap.size U H → vk_R "SortedMailModel" 421 "addflag" q U) ∧ uStr s.heap.size (Zc s s.heap.size) q w kW_91 := by
  obtain ⟨q, w, h1, h2⟩ := sC_of (bs := kW_91) (i := 2154) hn (by decide +kernel) (by decide) (hts _ (w_t9 34 rfl))
  exact ⟨q, w, h1, h2, by decide, by decide⟩
theorem ks_92 {s : State} {args : Array Value} (hts : ∀ w ∈ lw_tbl, w.before args s = true) (hn : narrow_1.before args s = true) : ∃ q w : Nat, (∀ (U : State) (H : Heap), Zc s s.heap.size U H → vk_R "SortedMailModel" 423 "removeflag" q U) ∧ uStr s.heap.size (Zc s s.heap.size) q w kW_92 := by
  obtain ⟨q, w, h1, h2⟩ := sC_of (bs := kW_92) (i := 2165) hn (by decide +kernel) (by decide) (hts _ (w_t9 35 rfl))
  exact ⟨q, w, h1, h2, by decide, by decide⟩
theorem ks_93 {s : State} {args : Array Value} (hts : ∀ w ∈ lw_tbl, w.before args s = true) (hn : narrow_1.before args s = true) : ∃ q w : Nat, (∀ (U : State) (H : Heap), Zc s s.heap.size U H → vk_R "SortedMailModel" 457 "elsif" q U) ∧ uStr s.heap.size (Zc s s.heap.size) q w kW_93 := by
  obtain ⟨q, w, h1, h2⟩ := sC_of (bs := kW_93) (i := 2087) hn (by decide +kernel) (by decide) (hts _ (w_t9 27 rfl))
  exact ⟨q, w, h1, h2, by decide, by decide⟩
theorem ks_94 {s : State} {args : Array Value} (hts : ∀ w ∈ lw_tbl, w.before args s = true) (hn : narrow_1.before args s = true) : ∃ q w : Nat, (∀ (U : State) (H : Heap), Zc s s.heap.size U H → vk_R "SortedMailModel" 459 "else" q U) ∧ uStr s.heap.size (Zc s s.heap.size) q w kW_94 := by
  obtain ⟨q, w, h1, h2⟩ := sC_of (bs := kW_94) (i := 2096) hn (by decide +kernel) (by decide) (hts _ (w_t9 28 rfl))
  exact ⟨q, w, h1, h2, by decide, by decide⟩
theorem ks_95 {s : State} {args : Array Value} (hts : ∀ w ∈ lw_tbl, w.before args s = true) (hn : narrow_1.before args s = true) : ∃ q w : Nat, (∀ (U : State) (H : Heap), Zc s s.heap.size U H → vk_R "SortedMailModel" 461 "flags" q U) ∧ uStr s.heap.size (Zc s s.heap.size) q w kW_95 := by
  obtain ⟨q, w, h1, h2⟩ := sC_of (bs := kW_95) (i := 2179) hn (by decide +kernel) (by decide) (hts _ (w_t9 40 rfl))
  exact ⟨q, w, h1, h2, by decide, by decide⟩
theorem ks_96 {s : State} {args : Array Value} (hts : ∀ w ∈ lw_tbl, w.before args s = true) (hn : narrow_1.before args s = true) : ∃ q w : Nat, (∀ (U : State) (H : Heap), Zc s s.heap.size U H → vk_R "SortedMailModel" 472 "days" q U) ∧ uStr s.heap.size (Zc s s.heap.size) q w kW_96 := by
  obtain ⟨q, w, h1, h2⟩ := sC_of (bs := kW_96) (i := 2188) hn (by decide +kernel) (by decide) (hts _ (w_t9 71 rfl))
  exact ⟨q, w, h1, h2, by decide, by decide⟩
theorem ks_97 {s : State} {args : Array Value} (hts : ∀ w ∈ lw_tbl, w.before args s = true) (hn : narrow_1.before args s = true) : ∃ q w : Nat, (∀ (U : State) (H : Heap), Zc s s.heap.size U H → vk_R "SortedMailModel" 474 "subject" q U) ∧ uStr s.heap.size (Zc s s.heap.size) q w kW_97 := by
  obtain ⟨q, w, h1, h2⟩ := sC_of (bs := kW_97) (i := 2196) hn (by decide +kernel) (by decide) (hts _ (w_t9 72 rfl))
  exact ⟨q, w, h1, h2, by decide, by decide⟩
theorem ks_98 {s : State} {args : Array Value} (hts : ∀ w ∈ lw_tbl, w.before args s = true) (hn : narrow_1.before args s = true) : ∃ q w : Nat, (∀ (U : State) (H : Heap), Zc s s.heap.size U H → vk_R "SortedMailModel" 476 "addresses" q U) ∧ uStr s.heap.size (Zc s s.heap.size) q w kW_98 := by
  obtain ⟨q, w, h1, h2⟩ := sC_of (bs := kW_98) (i := 2207) hn (by decide +kernel) (by decide) (hts _ (w_t9 73 rfl))
  exact ⟨q, w, h1, h2, by decide, by decide⟩
theorem ks_99 {s : State} {args : Array Value} (hts : ∀ w ∈ lw_tbl, w.before args s = true) (hn : narrow_1.before args s = true) : ∃ q w : Nat, (∀ (U : State) (H : Heap), Zc s s.heap.size U H → vk_R "SortedMailModel" 478 "handle" q U) ∧ uStr s.heap.size (Zc s s.heap.size) q w kW_99 := by
  obtain ⟨q, w, h1, h2⟩ := sC_of (bs := kW_99) (i := 2220) hn (by decide +kernel) (by decide) (hts _ (w_t9 74 rfl))
  exact ⟨q, w, h1, h2, by decide, by decide⟩
theorem ks_100 {s : State} {args : Array Value} (hts : ∀ w ∈ lw_tbl, w.before args s = true) (hn : narrow_1.before args s = true) : ∃ q w : Nat, (∀ (U : State) (H : Heap), Zc s s.heap.size U H → vk_R "SortedMailModel" 480 "header" q U) ∧ uStr s.heap.size (Zc s s.heap.size) q w kW_100 := by
  obtain ⟨q, w, h1, h2⟩ := sC_of (bs := kW_100) (i := 1801) hn (by decide +kernel) (by decide) (hts _ (w_t8 197 rfl))
  exact ⟨q, w, h1, h2, by decide, by decide⟩
theorem ks_101 {s : State} {args : Array Value} (hts : ∀ w ∈ lw_tbl, w.before args s = true) (hn : narrow_1.before args s = true) : ∃ q w : Nat, (∀ (U : State) (H : Heap), Zc s s.heap.size U H → vk_R "SortedMailModel" 482 "address" q U) ∧ uStr s.heap.size (Zc s s.heap.size) q w kW_101 := by
  obtain ⟨q, w, h1, h2⟩ := sC_of (bs := kW_101) (i := 1811) hn (by decide +kernel) (by decide) (hts _ (w_t8 198 rfl))
  exact ⟨q, w, h1, h2, by decide, by decide⟩
theorem ks_102 {s : State} {args : Array Value} (hts : ∀ w ∈ lw_tbl, w.before args s = true) (hn : narrow_1.before args s = true) : ∃ q w : Nat, (∀ (U : State) (H : Heap), Zc s s.heap.size U H → vk_R "SortedMailModel" 484 "hasflag" q U) ∧ uStr s.heap.size (Zc s s.heap.size) q w kW_102 := by
  obtain ⟨q, w, h1, h2⟩ := sC_of (bs := kW_102) (i := 1822) hn (by decide +kernel) (by decide) (hts _ (w_t8 199 rfl))
  exact ⟨q, w, h1, h2, by decide, by decide⟩
theorem ks_103 {s : State} {args : Array Value} (hts : ∀ w ∈ lw_tbl, w.before args s = true) (hn : narrow_1.before args s = true) : ∃ q w : Nat, (∀ (U : State) (H : Heap), Zc s s.heap.size U H → vk_R "SortedMailModel" 486 "exists" q U) ∧ uStr s.heap.size (Zc s s.heap.size) q w kW_103 := by
  obtain ⟨q, w, h1, h2⟩ := sC_of (bs := kW_103) (i := 1833) hn (by decide +kernel) (by decide) (hts _ (w_t8 200 rfl))
  exact ⟨q, w, h1, h2, by decide, by decide⟩
theorem ks_104 {s : State} {args : Array Value} (hts : ∀ w ∈ lw_tbl, w.before args s = true) (hn : narrow_1.before args s = true) : ∃ q w : Nat, (∀ (U : State) (H : Heap), Zc s s.heap.size U H → vk_R "SortedMailModel" 488 "size" q U) ∧ uStr s.heap.size (Zc s s.heap.size) q w kW_104 := by
  obtain ⟨q, w, h1, h2⟩ := sC_of (bs := kW_104) (i := 1844) hn (by decide +kernel) (by decide) (hts _ (w_t8 201 rfl))
  exact ⟨q, w, h1, h2, by decide, by decide⟩
theorem ks_105 {s : State} {args : Array Value} (hts : ∀ w ∈ lw_tbl, w.before args s = true) (hn : narrow_1.before args s = true) : ∃ q w : Nat, (∀ (U : State) (H : Heap), Zc s s.heap.size U H → vk_R "SortedMailModel" 490 "allof" q U) ∧ uStr s.heap.size (Zc s s.heap.size) q w kW_105 := by
  obtain ⟨q, w, h1, h2⟩ := sC_of (bs := kW_105) (i := 1852) hn (by decide +kernel) (by decide) (hts _ (w_t8 202 rfl))
  exact ⟨q, w, h1, h2, by decide, by decide⟩
theorem ks_106 {s : State} {args : Array Value} (hts : ∀ w ∈ lw_tbl, w.before args s = true) (hn : narrow_1.before args s = true) : ∃ q w : Nat, (∀ (U : State) (H : Heap), Zc s s.heap.size U H → vk_R "SortedMailModel" 492 "anyof" q U) ∧ uStr s.heap.size (Zc s s.heap.size) q w kW_106 := by
  obtain ⟨q, w, h1, h2⟩ := sC_of (bs := kW_106) (i := 1861) hn (by decide +kernel) (by decide) (hts _ (w_t8 203 rfl))
  exact ⟨q, w, h1, h2, by decide, by decide⟩
theorem ks_107 {s : State} {args : Array Value} (hts : ∀ w ∈ lw_tbl, w.before args s = true) (hn : narrow_1.before args s = true) : ∃ q w : Nat, (∀ (U : State) (H : Heap), Zc s s.heap.size U H → vk_R "SortedMailModel" 494 "not" q U) ∧ uStr s.heap.size (Zc s s.heap.size) q w kW_107 := by
  obtain ⟨q, w, h1, h2⟩ := sC_of (bs := kW_107) (i := 1870) hn (by decide +kernel) (by decide) (hts _ (w_t8 204 rfl))
  exact ⟨q, w, h1, h2, by decide, by decide⟩
theorem ks_108 {s : State} {args : Array Value} (hts : ∀ w ∈ lw_tbl, w.before args s = true) (hn : narrow_1.before args s = true) : ∃ q w : Nat, (∀ (U : State) (H : Heap), Zc s s.heap.size U H → vk_R "SortedMailModel" 496 "true" q U) ∧ uStr s.heap.size (Zc s s.heap.size) q w kW_108 := by
  obtain ⟨q, w, h1, h2⟩ := sC_of (bs := kW_108) (i := 1877) hn (by decide +kernel) (by decide) (hts _ (w_t8 205 rfl))
  exact ⟨q, w, h1, h2, by decide, by decide⟩
theorem ks_109 {s : State} {args : Array Value} (hts : ∀ w ∈ lw_tbl, w.before args s = true) (hn : narrow_1.before args s = true) : ∃ q w : Nat, (∀ (U : State) (H : Heap), Zc s s.heap.size U H → vk_R "SortedMailModel" 498 "false" q U) ∧ uStr s.heap.size (Zc s s.heap.size) q w kW_109 := by
  obtain ⟨q, w, h1, h2⟩ := sC_of (bs := kW_109) (i := 1885) hn (by decide +kernel) (by decide) (hts _ (w_t8 206 rfl))
  exact ⟨q, w, h1, h2, by decide, by decide⟩
theorem ks_110 {s : State} {args : Array Value} (hts : ∀ w ∈ lw_tbl, w.before args s = true) (hn : narrow_1.before args s = true) : ∃ q w : Nat, (∀ (U : State) (H : Heap), Zc s s.heap.size U H → vk_R "SortedMailModel" 508 "over" q U) ∧ uStr s.heap.size (Zc s s.heap.size) q w kW_110 := by
  obtain ⟨q, w, h1, h2⟩ := sC_of (bs := kW_110) (i := 2070) hn (by decide +kernel) (by decide) (hts _ (w_t9 13 rfl))
  exact ⟨q, w, h1, h2, by decide, by decide⟩
theorem ks_111 {s : State} {args : Array Value} (hts : ∀ w ∈ lw_tbl, w.before args s = true) (hn : narrow_1.before args s = true) : ∃ q w : Nat, (∀ (U : State) (H : Heap), Zc s s.heap.size U H → vk_R "SortedMailModel" 510 "under" q U) ∧ uStr s.heap.size (Zc s s.heap.size) q w kW_111 := by
  obtain ⟨q, w, h1, h2⟩ := sC_of (bs := kW_111) (i := 2078) hn (by decide +kernel) (by decide) (hts _ (w_t9 14 rfl))
  exact ⟨q, w, h1, h2, by decide, by decide⟩
theorem ks_112 {s : State} {args : Array Value} (hts : ∀ w ∈ lw_tbl, w.before args s = true) (hn : narrow_1.before args s = true) : ∃ q w : Nat, (∀ (U : State) (H : Heap), Zc s s.heap.size U H → vk_R "SortedMailModel" 512 "is" q U) ∧ uStr s.heap.size (Zc s s.heap.size) q w kW_112 := by
  obtain ⟨q, w, h1, h2⟩ := sC_of (bs := kW_112) (i := 1894) hn (by decide +kernel) (by decide) (hts _ (w_t8 215 rfl))
  exact ⟨q, w, h1, h2, by decide, by decide⟩
theorem ks_113 {s : State} {args : Array Value} (hts : ∀ w ∈ lw_tbl, w.before args s = true) (hn : narrow_1.before args s = true) : ∃ q w : Nat, (∀ (U : State) (H : Heap), Zc s s.heap.size U H → vk_R "SortedMailModel" 513 "contains" q U) ∧ uStr s.heap.size (Zc s s.heap.size) q w kW_113 := by
  obtain ⟨q, w, h1, h2⟩ := sC_of (bs := kW_113) (i := 1900) hn (by decide +kernel) (by decide) (hts _ (w_t8 216 rfl))
  exact ⟨q, w, h1, h2, by decide, by decide⟩
theorem ks_114 {s : State} {args : Array Value} (hts : ∀ w ∈ lw_tbl, w.before args s = true) (hn : narrow_1.before args s = true) : ∃ q w : Nat, (∀ (U : State) (H : Heap), Zc s s.heap.size U H → vk_R "SortedMailModel" 515 "matches" q U) ∧ uStr s.heap.size (Zc s s.heap.size) q w kW_114 := by
  obtain ⟨q, w, h1, h2⟩ := sC_of (bs := kW_114) (i := 1912) hn (by decide +kernel) (by decide) (hts _ (w_t8 217 rfl))
  exact ⟨q, w, h1, h2, by decide, by decide⟩
theorem ks_115 {s : State} {args : Array Value} (hts : ∀ w ∈ lw_tbl, w.before args s = true) (hn : narrow_1.before args s = true) : ∃ q w : Nat, (∀ (U : State) (H : Heap), Zc s s.heap.size U H → vk_R "SortedMailModel" 516 "count" q U) ∧ uStr s.heap.size (Zc s s.heap.size) q w kW_115 := by
  obtain ⟨q, w, h1, h2⟩ := sC_of (bs := kW_115) (i := 1923) hn (by decide +kernel) (by decide) (hts _ (w_t8 218 rfl))
  exact ⟨q, w, h1, h2, by decide, by decide⟩
theorem ks_116 {s : State} {args : Array Value} (hts : ∀ w ∈ lw_tbl, w.before args s = true) (hn : narrow_1.before args s = true) : ∃ q w : Nat, (∀ (U : State) (H : Heap), Zc s s.heap.size U H → vk_R "SortedMailModel" 518 "value" q U) ∧ uStr s.heap.size (Zc s s.heap.size) q w kW_116 := by
  obtain ⟨q, w, h1, h2⟩ := sC_of (bs := kW_116) (i := 1932) hn (by decide +kernel) (by decide) (hts _ (w_t8 219 rfl))
  exact ⟨q, w, h1, h2, by decide, by decide⟩
theorem ks_117 {s : State} {args : Array Value} (hts : ∀ w ∈ lw_tbl, w.before args s = true) (hn : narrow_1.before args s = true) : ∃ q w : Nat, (∀ (U : State) (H : Heap), Zc s s.heap.size U H → vk_R "SortedMailModel" 520 "all" q U) ∧ uStr s.heap.size (Zc s s.heap.size) q w kW_117 := by
  obtain ⟨q, w, h1, h2⟩ := sC_of (bs := kW_117) (i := 1941) hn (by decide +kernel) (by decide) (hts _ (w_t8 220 rfl))
  exact ⟨q, w, h1, h2, by decide, by decide⟩
theorem ks_118 {s : State} {args : Array Value} (hts : ∀ w ∈ lw_tbl, w.before args s = true) (hn : narrow_1.before args s = true) : ∃ q w : Nat, (∀ (U : State) (H : Heap), Zc s s.heap.size U H → vk_R "SortedMailModel" 522 "localpart" q U) ∧ uStr s.heap.size (Zc s s.heap.size) q w kW_118 := by
  obtain ⟨q, w, h1, h2⟩ := sC_of (bs := kW_118) (i := 1948) hn (by decide +kernel) (by decide) (hts _ (w_t8 221 rfl))
  exact ⟨q, w, h1, h2, by decide, by decide⟩
theorem ks_119 {s : State} {args : Array Value} (hts : ∀ w ∈ lw_tbl, w.before args s = true) (hn : narrow_1.before args s = true) : ∃ q w : Nat, (∀ (U : State) (H : Heap), Zc s s.heap.size U H → vk_R "SortedMailModel" 524 "domain" q U) ∧ uStr s.heap.size (Zc s s.heap.size) q w kW_119 := by
  obtain ⟨q, w, h1, h2⟩ := sC_of (bs := kW_119) (i := 1961) hn (by decide +kernel) (by decide) (hts _ (w_t8 222 rfl))
  exact ⟨q, w, h1, h2, by decide, by decide⟩
theorem ks_120 {s : State} {args : Array Value} (hts : ∀ w ∈ lw_tbl, w.before args s = true) (hn : narrow_1.before args s = true) : ∃ q w : Nat, (∀ (U : State) (H : Heap), Zc s s.heap.size U H → vk_R "SortedMailModel" 526 "comparator" q U) ∧ uStr s.heap.size (Zc s s.heap.size) q w kW_120 := by
  obtain ⟨q, w, h1, h2⟩ := sC_of (bs := kW_120) (i := 1971) hn (by decide +kernel) (by decide) (hts _ (w_t8 223 rfl))
  exact ⟨q, w, h1, h2, by decide, by decide⟩
theorem ks_121 {s : State} {args : Array Value} (hts : ∀ w ∈ lw_tbl, w.before args s = true) (hn : narrow_1.before args s = true) : ∃ q w : Nat, (∀ (U : State) (H : Heap), Zc s s.heap.size U H → vk_R "SortedMailModel" 534 "gt" q U) ∧ uStr s.heap.size (Zc s s.heap.size) q w kW_121 := by
  obtain ⟨q, w, h1, h2⟩ := sC_of (bs := kW_121) (i := 1985) hn (by decide +kernel) (by decide) (hts _ (w_t8 228 rfl))
  exact ⟨q, w, h1, h2, by decide, by decide⟩
theorem ks_122 {s : State} {args : Array Value} (hts : ∀ w ∈ lw_tbl, w.before args s = true) (hn : narrow_1.before args s = true) : ∃ q w : Nat, (∀ (U : State) (H : Heap), Zc s s.heap.size U H → vk_R "SortedMailModel" 536 "ge" q U) ∧ uStr s.heap.size (Zc s s.heap.size) q w kW_122 := by
  obtain ⟨q, w, h1, h2⟩ := sC_of (bs := kW_122) (i := 1991) hn (by decide +kernel) (by decide) (hts _ (w_t8 229 rfl))
  exact ⟨q, w, h1, h2, by decide, by decide⟩
theorem ks_123 {s : State} {args : Array Value} (hts : ∀ w ∈ lw_tbl, w.before args s = true) (hn : narrow_1.before args s = true) : ∃ q w : Nat, (∀ (U : State) (H : Heap), Zc s s.heap.size U H → vk_R "SortedMailModel" 538 "lt" q U) ∧ uStr s.heap.size (Zc s s.heap.size) q w kW_123 := by
  obtain ⟨q, w, h1, h2⟩ := sC_of (bs := kW_123) (i := 1997) hn (by decide +kernel) (by decide) (hts _ (w_t8 230 rfl))
  exact ⟨q, w, h1, h2, by decide, by decide⟩
theorem ks_124 {s : State} {args : Array Value} (hts : ∀ w ∈ lw_tbl, w.before args s = true) (hn : narrow_1.before args s = true) : ∃ q w : Nat, (∀ (U : State) (H : Heap), Zc s s.heap.size U H → vk_R "SortedMailModel" 540 "le" q U) ∧ uStr s.heap.size (Zc s s.heap.size) q w kW_124 := by
  obtain ⟨q, w, h1, h2⟩ := sC_of (bs := kW_124) (i := 2003) hn (by decide +kernel) (by decide) (hts _ (w_t8 231 rfl))
  exact ⟨q, w, h1, h2, by decide, by decide⟩
theorem ks_125 {s : State} {args : Array Value} (hts : ∀ w ∈ lw_tbl, w.before args s = true) (hn : narrow_1.before args s = true) : ∃ q w : Nat, (∀ (U : State) (H : Heap), Zc s s.heap.size U H → vk_R "SortedMailModel" 542 "eq" q U) ∧ uStr s.heap.size (Zc s s.heap.size) q w kW_125 := by
  obtain ⟨q, w, h1, h2⟩ := sC_of (bs := kW_125) (i := 2009) hn (by decide +kernel) (by decide) (hts _ (w_t8 232 rfl))
  exact ⟨q, w, h1, h2, by decide, by decide⟩
theorem ks_126 {s : State} {args : Array Value} (hts : ∀ w ∈ lw_tbl, w.before args s = true) (hn : narrow_1.before args s = true) : ∃ q w : Nat, (∀ (U : State) (H : Heap), Zc s s.heap.size U H → vk_R "SortedMailModel" 544 "ne" q U) ∧ uStr s.heap.size (Zc s s.heap.size) q w kW_126 := by
  obtain ⟨q, w, h1, h2⟩ := sC_of (bs := kW_126) (i := 2015) hn (by decide +kernel) (by decide) (hts _ (w_t8 233 rfl))
  exact ⟨q, w, h1, h2, by decide, by decide⟩
theorem ks_127 {s : State} {args : Array Value} (hts : ∀ w ∈ lw_tbl, w.before args s = true) (hn : narrow_1.before args s = true) : ∃ q w : Nat, (∀ (U : State) (H : Heap), Zc s s.heap.size U H → vk_R "SortedMailModel" 546 "i;octet" q U) ∧ uStr s.heap.size (Zc s s.heap.size) q w kW_127 := by
  obtain ⟨q, w, h1, h2⟩ := sC_of (bs := kW_127) (i := 2021) hn (by decide +kernel) (by decide) (hts _ (w_t8 238 rfl))
  exact ⟨q, w, h1, h2, by decide, by decide⟩
theorem ks_128 {s : State} {args : Array Value} (hts : ∀ w ∈ lw_tbl, w.before args s = true) (hn : narrow_1.before args s = true) : ∃ q w : Nat, (∀ (U : State) (H : Heap), Zc s s.heap.size U H → vk_R "SortedMailModel" 548 "i;ascii-casemap" q U) ∧ uStr s.heap.size (Zc s s.heap.size) q w kW_128 := by
  obtain ⟨q, w, h1, h2⟩ := sC_of (bs := kW_128) (i := 2032) hn (by decide +kernel) (by decide) (hts _ (w_t8 239 rfl))
  exact ⟨q, w, h1, h2, by decide, by decide⟩
theorem ks_129 {s : State} {args : Array Value} (hts : ∀ w ∈ lw_tbl, w.before args s = true) (hn : narrow_1.before args s = true) : ∃ q w : Nat, (∀ (U : State) (H : Heap), Zc s s.heap.size U H → vk_R "SortedMailModel" 550 "i;ascii-numeric" q U) ∧ uStr s.heap.size (Zc s s.heap.size) q w kW_129 := by
  obtain ⟨q, w, h1, h2⟩ := sC_of (bs := kW_129) (i := 2051) hn (by decide +kernel) (by decide) (hts _ (w_t9 0 rfl))
  exact ⟨q, w, h1, h2, by decide, by decide⟩
theorem ks_130 {s : State} {args : Array Value} (hts : ∀ w ∈ lw_tbl, w.before args s = true) (hn : narrow_1.before args s = true) : ∃ q w : Nat, (∀ (U : State) (H : Heap), Zc s s.heap.size U H → vk_R "SortedMailModel" 590 "\\seen" q U) ∧ uStr s.heap.size (Zc s s.heap.size) q w kW_130 := by
  obtain ⟨q, w, h1, h2⟩ := sC_of (bs := kW_130) (i := 2300) hn (by decide +kernel) (by decide) (hts _ (w_t9 230 rfl))
  exact ⟨q, w, h1, h2, by decide, by decide⟩
theorem ks_131 {s : State} {args : Array Value} (hts : ∀ w ∈ lw_tbl, w.before args s = true) (hn : narrow_1.before args s = true) : ∃ q w : Nat, (∀ (U : State) (H : Heap), Zc s s.heap.size U H → vk_R "SortedMailModel" 592 "\\answered" q U) ∧ uStr s.heap.size (Zc s s.heap.size) q w kW_131 := by
  obtain ⟨q, w, h1, h2⟩ := sC_of (bs := kW_131) (i := 2309) hn (by decide +kernel) (by decide) (hts _ (w_t9 231 rfl))
  exact ⟨q, w, h1, h2, by decide, by decide⟩
theorem ks_132 {s : State} {args : Array Value} (hts : ∀ w ∈ lw_tbl, w.before args s = true) (hn : narrow_1.before args s = true) : ∃ q w : Nat, (∀ (U : State) (H : Heap), Zc s s.heap.size U H → vk_R "SortedMailModel" 594 "\\flagged" q U) ∧ uStr s.heap.size (Zc s s.heap.size) q w kW_132 := by
  obtain ⟨q, w, h1, h2⟩ := sC_of (bs := kW_132) (i := 2322) hn (by decide +kernel) (by decide) (hts _ (w_t9 232 rfl))
  exact ⟨q, w, h1, h2, by decide, by decide⟩
theorem ks_133 {s : State} {args : Array Value} (hts : ∀ w ∈ lw_tbl, w.before args s = true) (hn : narrow_1.before args s = true) : ∃ q w : Nat, (∀ (U : State) (H : Heap), Zc s s.heap.size U H → vk_R "SortedMailModel" 596 "\\deleted" q U) ∧ uStr s.heap.size (Zc s s.heap.size) q w kW_133 := by
  obtain ⟨q, w, h1, h2⟩ := sC_of (bs := kW_133) (i := 2334) hn (by decide +kernel) (by decide) (hts _ (w_t9 233 rfl))
  exact ⟨q, w, h1, h2, by decide, by decide⟩
theorem ks_134 {s : State} {args : Array Value} (hts : ∀ w ∈ lw_tbl, w.before args s = true) (hn : narrow_1.before args s = true) : ∃ q w : Nat, (∀ (U : State) (H : Heap), Zc s s.heap.size U H → vk_R "SortedMailModel" 598 "\\draft" q U) ∧ uStr s.heap.size (Zc s s.heap.size) q w kW_134 := by
  obtain ⟨q, w, h1, h2⟩ := sC_of (bs := kW_134) (i := 2346) hn (by decide +kernel) (by decide) (hts _ (w_t9 234 rfl))
  exact ⟨q, w, h1, h2, by decide, by decide⟩
theorem ks_135 {s : State} {args : Array Value} (hts : ∀ w ∈ lw_tbl, w.before args s = true) (hn : narrow_1.before args s = true) : ∃ q w : Nat, (∀ (U : State) (H : Heap), Zc s s.heap.size U H → vk_R "SortedMailModel" 690 "from" q U) ∧ uStr s.heap.size (Zc s s.heap.size) q w kW_135 := by
  obtain ⟨q, w, h1, h2⟩ := sC_of (bs := kW_135) (i := 2230) hn (by decide +kernel) (by decide) (hts _ (w_t9 187 rfl))
  exact ⟨q, w, h1, h2, by decide, by decide⟩
theorem ks_136 {s : State} {args : Array Value} (hts : ∀ w ∈ lw_tbl, w.before args s = true) (hn : narrow_1.before args s = true) : ∃ q w : Nat, (∀ (U : State) (H : Heap), Zc s s.heap.size U H → vk_R "SortedMailModel" 692 "to" q U) ∧ uStr s.heap.size (Zc s s.heap.size) q w kW_136 := by
  obtain ⟨q, w, h1, h2⟩ := sC_of (bs := kW_136) (i := 2238) hn (by decide +kernel) (by decide) (hts _ (w_t9 200 rfl))
  exact ⟨q, w, h1, h2, by decide, by decide⟩
theorem ks_137 {s : State} {args : Array Value} (hts : ∀ w ∈ lw_tbl, w.before args s = true) (hn : narrow_1.before args s = true) : ∃ q w : Nat, (∀ (U : State) (H : Heap), Zc s s.heap.size U H → vk_R "SortedMailModel" 702 "\\Seen" q U) ∧ uStr s.heap.size (Zc s s.heap.size) q w kW_137 := by
  obtain ⟨q, w, h1, h2⟩ := sC_of (bs := kW_137) (i := 2244) hn (by decide +kernel) (by decide) (hts _ (w_t9 213 rfl))
  exact ⟨q, w, h1, h2, by decide, by decide⟩
theorem ks_138 {s : State} {args : Array Value} (hts : ∀ w ∈ lw_tbl, w.before args s = true) (hn : narrow_1.before args s = true) : ∃ q w : Nat, (∀ (U : State) (H : Heap), Zc s s.heap.size U H → vk_R "SortedMailModel" 704 "\\Answered" q U) ∧ uStr s.heap.size (Zc s s.heap.size) q w kW_138 := by
  obtain ⟨q, w, h1, h2⟩ := sC_of (bs := kW_138) (i := 2253) hn (by decide +kernel) (by decide) (hts _ (w_t9 214 rfl))
  exact ⟨q, w, h1, h2, by decide, by decide⟩
theorem ks_139 {s : State} {args : Array Value} (hts : ∀ w ∈ lw_tbl, w.before args s = true) (hn : narrow_1.before args s = true) : ∃ q w : Nat, (∀ (U : State) (H : Heap), Zc s s.heap.size U H → vk_R "SortedMailModel" 706 "\\Flagged" q U) ∧ uStr s.heap.size (Zc s s.heap.size) q w kW_139 := by
  obtain ⟨q, w, h1, h2⟩ := sC_of (bs := kW_139) (i := 2266) hn (by decide +kernel) (by decide) (hts _ (w_t9 215 rfl))
  exact ⟨q, w, h1, h2, by decide, by decide⟩
theorem ks_140 {s : State} {args : Array Value} (hts : ∀ w ∈ lw_tbl, w.before args s = true) (hn : narrow_1.before args s = true) : ∃ q w : Nat, (∀ (U : State) (H : Heap), Zc s s.heap.size U H → vk_R "SortedMailModel" 708 "\\Deleted" q U) ∧ uStr s.heap.size (Zc s s.heap.size) q w kW_140 := by
  obtain ⟨q, w, h1, h2⟩ := sC_of (bs := kW_140) (i := 2278) hn (by decide +kernel) (by decide) (hts _ (w_t9 216 rfl))
  exact ⟨q, w, h1, h2, by decide, by decide⟩
theorem ks_141 {s : State} {args : Array Value} (hts : ∀ w ∈ lw_tbl, w.before args s = true) (hn : narrow_1.before args s = true) : ∃ q w : Nat, (∀ (U : State) (H : Heap), Zc s s.heap.size U H → vk_R "SortedMailModel" 710 "\\Draft" q U) ∧ uStr s.heap.size (Zc s s.heap.size) q w kW_141 := by
  obtain ⟨q, w, h1, h2⟩ := sC_of (bs := kW_141) (i := 2290) hn (by decide +kernel) (by decide) (hts _ (w_t9 217 rfl))
  exact ⟨q, w, h1, h2, by decide, by decide⟩
theorem ks_142 {s : State} {args : Array Value} (hts : ∀ w ∈ lw_tbl, w.before args s = true) (hn : narrow_1.before args s = true) : ∃ q w : Nat, (∀ (U : State) (H : Heap), Zc s s.heap.size U H → vk_R "SortedMailModel" 767 "inbox" q U) ∧ uStr s.heap.size (Zc s s.heap.size) q w kW_142 := by
  obtain ⟨q, w, h1, h2⟩ := sC_of (bs := kW_142) (i := 2356) hn (by decide +kernel) (by decide) (hts _ (w_t10 7 rfl))
  exact ⟨q, w, h1, h2, by decide, by decide⟩
theorem ks_143 {s : State} {args : Array Value} (hts : ∀ w ∈ lw_tbl, w.before args s = true) (hn : narrow_1.before args s = true) : ∃ q w : Nat, (∀ (U : State) (H : Heap), Zc s s.heap.size U H → vk_R "SortedMailModel" 814 "auto-submitted" q U) ∧ uStr s.heap.size (Zc s s.heap.size) q w kW_143 := by
  obtain ⟨q, w, h1, h2⟩ := sC_of (bs := kW_143) (i := 2469) hn (by decide +kernel) (by decide) (hts _ (w_t10 68 rfl))
  exact ⟨q, w, h1, h2, by decide, by decide⟩
theorem ks_144 {s : State} {args : Array Value} (hts : ∀ w ∈ lw_tbl, w.before args s = true) (hn : narrow_1.before args s = true) : ∃ q w : Nat, (∀ (U : State) (H : Heap), Zc s s.heap.size U H → vk_R "SortedMailModel" 816 "no" q U) ∧ uStr s.heap.size (Zc s s.heap.size) q w kW_144 := by
  obtain ⟨q, w, h1, h2⟩ := sC_of (bs := kW_144) (i := 2487) hn (by decide +kernel) (by decide) (hts _ (w_t10 69 rfl))
  exact ⟨q, w, h1, h2, by decide, by decide⟩
theorem ks_145 {s : State} {args : Array Value} (hts : ∀ w ∈ lw_tbl, w.before args s = true) (hn : narrow_1.before args s = true) : ∃ q w : Nat, (∀ (U : State) (H : Heap), Zc s s.heap.size U H → vk_R "SortedMailModel" 818 "mailer-daemon" q U) ∧ uStr s.heap.size (Zc s s.heap.size) q w kW_145 := by
  obtain ⟨q, w, h1, h2⟩ := sC_of (bs := kW_145) (i := 2365) hn (by decide +kernel) (by decide) (hts _ (w_t10 40 rfl))
  exact ⟨q, w, h1, h2, by decide, by decide⟩
theorem ks_146 {s : State} {args : Array Value} (hts : ∀ w ∈ lw_tbl, w.before args s = true) (hn : narrow_1.before args s = true) : ∃ q w : Nat, (∀ (U : State) (H : Heap), Zc s s.heap.size U H → vk_R "SortedMailModel" 824 "listserv" q U) ∧ uStr s.heap.size (Zc s s.heap.size) q w kW_146 := by
  obtain ⟨q, w, h1, h2⟩ := sC_of (bs := kW_146) (i := 2382) hn (by decide +kernel) (by decide) (hts _ (w_t10 45 rfl))
  exact ⟨q, w, h1, h2, by decide, by decide⟩
theorem ks_147 {s : State} {args : Array Value} (hts : ∀ w ∈ lw_tbl, w.before args s = true) (hn : narrow_1.before args s = true) : ∃ q w : Nat, (∀ (U : State) (H : Heap), Zc s s.heap.size U H → vk_R "SortedMailModel" 826 "majordomo" q U) ∧ uStr s.heap.size (Zc s s.heap.size) q w kW_147 := by
  obtain ⟨q, w, h1, h2⟩ := sC_of (bs := kW_147) (i := 2394) hn (by decide +kernel) (by decide) (hts _ (w_t10 46 rfl))
  exact ⟨q, w, h1, h2, by decide, by decide⟩
theorem ks_148 {s : State} {args : Array Value} (hts : ∀ w ∈ lw_tbl, w.before args s = true) (hn : narrow_1.before args s = true) : ∃ q w : Nat, (∀ (U : State) (H : Heap), Zc s s.heap.size U H → vk_R "SortedMailModel" 828 "owner-" q U) ∧ uStr s.heap.size (Zc s s.heap.size) q w kW_148 := by
  obtain ⟨q, w, h1, h2⟩ := sC_of (bs := kW_148) (i := 2407) hn (by decide +kernel) (by decide) (hts _ (w_t10 47 rfl))
  exact ⟨q, w, h1, h2, by decide, by decide⟩
theorem ks_149 {s : State} {args : Array Value} (hts : ∀ w ∈ lw_tbl, w.before args s = true) (hn : narrow_1.before args s = true) : ∃ q w : Nat, (∀ (U : State) (H : Heap), Zc s s.heap.size U H → vk_R "SortedMailModel" 830 "-request" q U) ∧ uStr s.heap.size (Zc s s.heap.size) q w kW_149 := by
  obtain ⟨q, w, h1, h2⟩ := sC_of (bs := kW_149) (i := 2418) hn (by decide +kernel) (by decide) (hts _ (w_t10 48 rfl))
  exact ⟨q, w, h1, h2, by decide, by decide⟩
theorem ks_150 {s : State} {args : Array Value} (hts : ∀ w ∈ lw_tbl, w.before args s = true) (hn : narrow_1.before args s = true) : ∃ q w : Nat, (∀ (U : State) (H : Heap), Zc s s.heap.size U H → vk_R "SortedMailModel" 835 "cc" q U) ∧ uStr s.heap.size (Zc s s.heap.size) q w kW_150 := by
  obtain ⟨q, w, h1, h2⟩ := sC_of (bs := kW_150) (i := 2494) hn (by decide +kernel) (by decide) (hts _ (w_t10 74 rfl))
  exact ⟨q, w, h1, h2, by decide, by decide⟩
theorem ks_151 {s : State} {args : Array Value} (hts : ∀ w ∈ lw_tbl, w.before args s = true) (hn : narrow_1.before args s = true) : ∃ q w : Nat, (∀ (U : State) (H : Heap), Zc s s.heap.size U H → vk_R "SortedMailModel" 837 "bcc" q U) ∧ uStr s.heap.size (Zc s s.heap.size) q w kW_151 := by
  obtain ⟨q, w, h1, h2⟩ := sC_of (bs := kW_151) (i := 2500) hn (by decide +kernel) (by decide) (hts _ (w_t10 75 rfl))
  exact ⟨q, w, h1, h2, by decide, by decide⟩
theorem ks_152 {s : State} {args : Array Value} (hts : ∀ w ∈ lw_tbl, w.before args s = true) (hn : narrow_1.before args s = true) : ∃ q w : Nat, (∀ (U : State) (H : Heap), Zc s s.heap.size U H → vk_R "SortedMailModel" 872 "list-id" q U) ∧ uStr s.heap.size (Zc s s.heap.size) q w kW_152 := by
  obtain ⟨q, w, h1, h2⟩ := sC_of (bs := kW_152) (i := 2431) hn (by decide +kernel) (by decide) (hts _ (w_t10 53 rfl))
  exact ⟨q, w, h1, h2, by decide, by decide⟩
theorem ks_153 {s : State} {args : Array Value} (hts : ∀ w ∈ lw_tbl, w.before args s = true) (hn : narrow_1.before args s = true) : ∃ q w : Nat, (∀ (U : State) (H : Heap), Zc s s.heap.size U H → vk_R "SortedMailModel" 877 "list-post" q U) ∧ uStr s.heap.size (Zc s s.heap.size) q w kW_153 := by
  obtain ⟨q, w, h1, h2⟩ := sC_of (bs := kW_153) (i := 2442) hn (by decide +kernel) (by decide) (hts _ (w_t10 62 rfl))
  exact ⟨q, w, h1, h2, by decide, by decide⟩
theorem ks_154 {s : State} {args : Array Value} (hts : ∀ w ∈ lw_tbl, w.before args s = true) (hn : narrow_1.before args s = true) : ∃ q w : Nat, (∀ (U : State) (H : Heap), Zc s s.heap.size U H → vk_R "SortedMailModel" 879 "precedence" q U) ∧ uStr s.heap.size (Zc s s.heap.size) q w kW_154 := by
  obtain ⟨q, w, h1, h2⟩ := sC_of (bs := kW_154) (i := 2455) hn (by decide +kernel) (by decide) (hts _ (w_t10 63 rfl))
  exact ⟨q, w, h1, h2, by decide, by decide⟩
theorem ks_155 {s : State} {args : Array Value} (hts : ∀ w ∈ lw_tbl, w.before args s = true) (hn : narrow_1.before args s = true) : ∃ q w : Nat, (∀ (U : State) (H : Heap), Zc s s.heap.size U H → vk_R "SortedMailModel" 906 "To: " q U) ∧ uStr s.heap.size (Zc s s.heap.size) q w kW_155 := by
  obtain ⟨q, w, h1, h2⟩ := sC_of (bs := kW_155) (i := 2507) hn (by decide +kernel) (by decide) (hts _ (w_t10 100 rfl))
  exact ⟨q, w, h1, h2, by decide, by decide⟩
theorem ks_156 {s : State} {args : Array Value} (hts : ∀ w ∈ lw_tbl, w.before args s = true) (hn : narrow_1.before args s = true) : ∃ q w : Nat, (∀ (U : State) (H : Heap), Zc s s.heap.size U H → vk_R "SortedMailModel" 914 "Subject: " q U) ∧ uStr s.heap.size (Zc s s.heap.size) q w kW_156 := by
  obtain ⟨q, w, h1, h2⟩ := sC_of (bs := kW_156) (i := 2516) hn (by decide +kernel) (by decide) (hts _ (w_t10 113 rfl))
  exact ⟨q, w, h1, h2, by decide, by decide⟩
theorem ks_157 {s : State} {args : Array Value} (hts : ∀ w ∈ lw_tbl, w.before args s = true) (hn : narrow_1.before args s = true) : ∃ q w : Nat, (∀ (U : State) (H : Heap), Zc s s.heap.size U H → vk_R "SortedMailModel" 916 "Refused" q U) ∧ uStr s.heap.size (Zc s s.heap.size) q w kW_157 := by
  obtain ⟨q, w, h1, h2⟩ := sC_of (bs := kW_157) (i := 2529) hn (by decide +kernel) (by decide) (hts _ (w_t10 114 rfl))
  exact ⟨q, w, h1, h2, by decide, by decide⟩
theorem ks_158 {s : State} {args : Array Value} (hts : ∀ w ∈ lw_tbl, w.before args s = true) (hn : narrow_1.before args s = true) : ∃ q w : Nat, (∀ (U : State) (H : Heap), Zc s s.heap.size U H → vk_R "SortedMailModel" 921 "Auto: " q U) ∧ uStr s.heap.size (Zc s s.heap.size) q w kW_158 := by
  obtain ⟨q, w, h1, h2⟩ := sC_of (bs := kW_158) (i := 2541) hn (by decide +kernel) (by decide) (hts _ (w_t10 119 rfl))
  exact ⟨q, w, h1, h2, by decide, by decide⟩
theorem ks_159 {s : State} {args : Array Value} (hts : ∀ w ∈ lw_tbl, w.before args s = true) (hn : narrow_1.before args s = true) : ∃ q w : Nat, (∀ (U : State) (H : Heap), Zc s s.heap.size U H → vk_R "SortedMailModel" 972 "552 5.3.4 too big" q U) ∧ uStr s.heap.size (Zc s s.heap.size) q w kW_159 := by
  obtain ⟨q, w, h1, h2⟩ := sC_of (bs := kW_159) (i := 1639) hn (by decide +kernel) (by decide) (hts _ (w_t8 24 rfl))
  exact ⟨q, w, h1, h2, by decide, by decide⟩
theorem ks_160 {s : State} {args : Array Value} (hts : ∀ w ∈ lw_tbl, w.before args s = true) (hn : narrow_1.before args s = true) : ∃ q w : Nat, (∀ (U : State) (H : Heap), Zc s s.heap.size U H → vk_R "SortedMailModel" 991 "452 4.2.2 full" q U) ∧ uStr s.heap.size (Zc s s.heap.size) q w kW_160 := by
  obtain ⟨q, w, h1, h2⟩ := sC_of (bs := kW_160) (i := 2552) hn (by decide +kernel) (by decide) (hts _ (w_t10 125 rfl))
  exact ⟨q, w, h1, h2, by decide, by decide⟩
theorem ks_161 {s : State} {args : Array Value} (hts : ∀ w ∈ lw_tbl, w.before args s = true) (hn : narrow_1.before args s = true) : ∃ q w : Nat, (∀ (U : State) (H : Heap), Zc s s.heap.size U H → vk_R "SortedMailModel" 1008 "250 2.0.0 <" q U) ∧ uStr s.heap.size (Zc s s.heap.size) q w kW_161 := by
  obtain ⟨q, w, h1, h2⟩ := sC_of (bs := kW_161) (i := 2571) hn (by decide +kernel) (by decide) (hts _ (w_t10 172 rfl))
  exact ⟨q, w, h1, h2, by decide, by decide⟩
theorem ks_162 {s : State} {args : Array Value} (hts : ∀ w ∈ lw_tbl, w.before args s = true) (hn : narrow_1.before args s = true) : ∃ q w : Nat, (∀ (U : State) (H : Heap), Zc s s.heap.size U H → vk_R "SortedMailModel" 1010 ">" q U) ∧ uStr s.heap.size (Zc s s.heap.size) q w kW_162 := by
  obtain ⟨q, w, h1, h2⟩ := sC_of (bs := kW_162) (i := 2587) hn (by decide +kernel) (by decide) (hts _ (w_t10 173 rfl))
  exact ⟨q, w, h1, h2, by decide, by decide⟩
theorem ks_163 {s : State} {args : Array Value} (hts : ∀ w ∈ lw_tbl, w.before args s = true) (hn : narrow_1.before args s = true) : ∃ q w : Nat, (∀ (U : State) (H : Heap), Zc s s.heap.size U H → vk_R "SortedMailModel" 1027 "220 here LMTP" q U) ∧ uStr s.heap.size (Zc s s.heap.size) q w kW_163 := by
  obtain ⟨q, w, h1, h2⟩ := sC_of (bs := kW_163) (i := 1621) hn (by decide +kernel) (by decide) (hts _ (w_t7 232 rfl))
  exact ⟨q, w, h1, h2, by decide, by decide⟩
theorem ks_164 {s : State} {args : Array Value} (hts : ∀ w ∈ lw_tbl, w.before args s = true) (hn : narrow_1.before args s = true) : ∃ q w : Nat, (∀ (U : State) (H : Heap), Zc s s.heap.size U H → vk_R "SortedMailModel" 1063 "500 5.5.2 too long" q U) ∧ uStr s.heap.size (Zc s s.heap.size) q w kW_164 := by
  obtain ⟨q, w, h1, h2⟩ := sC_of (bs := kW_164) (i := 2593) hn (by decide +kernel) (by decide) (hts _ (w_t10 178 rfl))
  exact ⟨q, w, h1, h2, by decide, by decide⟩
theorem ks_165 {s : State} {args : Array Value} (hts : ∀ w ∈ lw_tbl, w.before args s = true) (hn : narrow_1.before args s = true) : ∃ q w : Nat, (∀ (U : State) (H : Heap), Zc s s.heap.size U H → vk_R "SortedMailModel" 1077 "501 5.5.4 syntax" q U) ∧ uStr s.heap.size (Zc s s.heap.size) q w kW_165 := by
  obtain ⟨q, w, h1, h2⟩ := sC_of (bs := kW_165) (i := 2629) hn (by decide +kernel) (by decide) (hts _ (w_t10 201 rfl))
  exact ⟨q, w, h1, h2, by decide, by decide⟩
theorem ks_166 {s : State} {args : Array Value} (hts : ∀ w ∈ lw_tbl, w.before args s = true) (hn : narrow_1.before args s = true) : ∃ q w : Nat, (∀ (U : State) (H : Heap), Zc s s.heap.size U H → vk_R "SortedMailModel" 1079 "lhlo" q U) ∧ uStr s.heap.size (Zc s s.heap.size) q w kW_166 := by
  obtain ⟨q, w, h1, h2⟩ := sC_of (bs := kW_166) (i := 2616) hn (by decide +kernel) (by decide) (hts _ (w_t10 183 rfl))
  exact ⟨q, w, h1, h2, by decide, by decide⟩
theorem ks_167 {s : State} {args : Array Value} (hts : ∀ w ∈ lw_tbl, w.before args s = true) (hn : narrow_1.before args s = true) : ∃ q w : Nat, (∀ (U : State) (H : Heap), Zc s s.heap.size U H → vk_R "SortedMailModel" 1087 "noop" q U) ∧ uStr s.heap.size (Zc s s.heap.size) q w kW_167 := by
  obtain ⟨q, w, h1, h2⟩ := sC_of (bs := kW_167) (i := 2698) hn (by decide +kernel) (by decide) (hts _ (w_t10 205 rfl))
  exact ⟨q, w, h1, h2, by decide, by decide⟩
theorem ks_168 {s : State} {args : Array Value} (hts : ∀ w ∈ lw_tbl, w.before args s = true) (hn : narrow_1.before args s = true) : ∃ q w : Nat, (∀ (U : State) (H : Heap), Zc s s.heap.size U H → vk_R "SortedMailModel" 1089 "250 2.0.0 ok" q U) ∧ uStr s.heap.size (Zc s s.heap.size) q w kW_168 := by
  obtain ⟨q, w, h1, h2⟩ := sC_of (bs := kW_168) (i := 2706) hn (by decide +kernel) (by decide) (hts _ (w_t10 206 rfl))
  exact ⟨q, w, h1, h2, by decide, by decide⟩
theorem ks_169 {s : State} {args : Array Value} (hts : ∀ w ∈ lw_tbl, w.before args s = true) (hn : narrow_1.before args s = true) : ∃ q w : Nat, (∀ (U : State) (H : Heap), Zc s s.heap.size U H → vk_R "SortedMailModel" 1094 "rset" q U) ∧ uStr s.heap.size (Zc s s.heap.size) q w kW_169 := by
  obtain ⟨q, w, h1, h2⟩ := sC_of (bs := kW_169) (i := 2723) hn (by decide +kernel) (by decide) (hts _ (w_t10 211 rfl))
  exact ⟨q, w, h1, h2, by decide, by decide⟩
theorem ks_170 {s : State} {args : Array Value} (hts : ∀ w ∈ lw_tbl, w.before args s = true) (hn : narrow_1.before args s = true) : ∃ q w : Nat, (∀ (U : State) (H : Heap), Zc s s.heap.size U H → vk_R "SortedMailModel" 1096 "quit" q U) ∧ uStr s.heap.size (Zc s s.heap.size) q w kW_170 := by
  obtain ⟨q, w, h1, h2⟩ := sC_of (bs := kW_170) (i := 2731) hn (by decide +kernel) (by decide) (hts _ (w_t10 212 rfl))
  exact ⟨q, w, h1, h2, by decide, by decide⟩
theorem ks_171 {s : State} {args : Array Value} (hts : ∀ w ∈ lw_tbl, w.before args s = true) (hn : narrow_1.before args s = true) : ∃ q w : Nat, (∀ (U : State) (H : Heap), Zc s s.heap.size U H → vk_R "SortedMailModel" 1098 "221 2.0.0 bye" q U) ∧ uStr s.heap.size (Zc s s.heap.size) q w kW_171 := by
  obtain ⟨q, w, h1, h2⟩ := sC_of (bs := kW_171) (i := 2739) hn (by decide +kernel) (by decide) (hts _ (w_t10 213 rfl))
  exact ⟨q, w, h1, h2, by decide, by decide⟩
theorem ks_172 {s : State} {args : Array Value} (hts : ∀ w ∈ lw_tbl, w.before args s = true) (hn : narrow_1.before args s = true) : ∃ q w : Nat, (∀ (U : State) (H : Heap), Zc s s.heap.size U H → vk_R "SortedMailModel" 1100 "mail" q U) ∧ uStr s.heap.size (Zc s s.heap.size) q w kW_172 := by
  obtain ⟨q, w, h1, h2⟩ := sC_of (bs := kW_172) (i := 2757) hn (by decide +kernel) (by decide) (hts _ (w_t10 214 rfl))
  exact ⟨q, w, h1, h2, by decide, by decide⟩
theorem ks_173 {s : State} {args : Array Value} (hts : ∀ w ∈ lw_tbl, w.before args s = true) (hn : narrow_1.before args s = true) : ∃ q w : Nat, (∀ (U : State) (H : Heap), Zc s s.heap.size U H → vk_R "SortedMailModel" 1101 "rcpt" q U) ∧ uStr s.heap.size (Zc s s.heap.size) q w kW_173 := by
  obtain ⟨q, w, h1, h2⟩ := sC_of (bs := kW_173) (i := 2765) hn (by decide +kernel) (by decide) (hts _ (w_t10 215 rfl))
  exact ⟨q, w, h1, h2, by decide, by decide⟩
theorem ks_174 {s : State} {args : Array Value} (hts : ∀ w ∈ lw_tbl, w.before args s = true) (hn : narrow_1.before args s = true) : ∃ q w : Nat, (∀ (U : State) (H : Heap), Zc s s.heap.size U H → vk_R "SortedMailModel" 1103 "data" q U) ∧ uStr s.heap.size (Zc s s.heap.size) q w kW_174 := by
  obtain ⟨q, w, h1, h2⟩ := sC_of (bs := kW_174) (i := 2773) hn (by decide +kernel) (by decide) (hts _ (w_t10 216 rfl))
  exact ⟨q, w, h1, h2, by decide, by decide⟩
theorem ks_175 {s : State} {args : Array Value} (hts : ∀ w ∈ lw_tbl, w.before args s = true) (hn : narrow_1.before args s = true) : ∃ q w : Nat, (∀ (U : State) (H : Heap), Zc s s.heap.size U H → vk_R "SortedMailModel" 1108 "503 5.5.1 order" q U) ∧ uStr s.heap.size (Zc s s.heap.size) q w kW_175 := by
  obtain ⟨q, w, h1, h2⟩ := sC_of (bs := kW_175) (i := 2828) hn (by decide +kernel) (by decide) (hts _ (w_t10 238 rfl))
  exact ⟨q, w, h1, h2, by decide, by decide⟩
theorem ks_176 {s : State} {args : Array Value} (hts : ∀ w ∈ lw_tbl, w.before args s = true) (hn : narrow_1.before args s = true) : ∃ q w : Nat, (∀ (U : State) (H : Heap), Zc s s.heap.size U H → vk_R "SortedMailModel" 1110 "500 5.5.2 unknown" q U) ∧ uStr s.heap.size (Zc s s.heap.size) q w kW_176 := by
  obtain ⟨q, w, h1, h2⟩ := sC_of (bs := kW_176) (i := 2996) hn (by decide +kernel) (by decide) (hts _ (w_t11 21 rfl))
  exact ⟨q, w, h1, h2, by decide, by decide⟩
theorem ks_177 {s : State} {args : Array Value} (hts : ∀ w ∈ lw_tbl, w.before args s = true) (hn : narrow_1.before args s = true) : ∃ q w : Nat, (∀ (U : State) (H : Heap), Zc s s.heap.size U H → vk_R "SortedMailModel" 1112 " " q U) ∧ uStr s.heap.size (Zc s s.heap.size) q w kW_177 := by
  obtain ⟨q, w, h1, h2⟩ := sC_of (bs := kW_177) (i := 2624) hn (by decide +kernel) (by decide) (hts _ (w_t10 196 rfl))
  exact ⟨q, w, h1, h2, by decide, by decide⟩
theorem ks_178 {s : State} {args : Array Value} (hts : ∀ w ∈ lw_tbl, w.before args s = true) (hn : narrow_1.before args s = true) : ∃ q w : Nat, (∀ (U : State) (H : Heap), Zc s s.heap.size U H → vk_R "SortedMailModel" 1117 "250-here" q U) ∧ uStr s.heap.size (Zc s s.heap.size) q w kW_178 := by
  obtain ⟨q, w, h1, h2⟩ := sC_of (bs := kW_178) (i := 2650) hn (by decide +kernel) (by decide) (hts _ (w_t10 202 rfl))
  exact ⟨q, w, h1, h2, by decide, by decide⟩
theorem ks_179 {s : State} {args : Array Value} (hts : ∀ w ∈ lw_tbl, w.before args s = true) (hn : narrow_1.before args s = true) : ∃ q w : Nat, (∀ (U : State) (H : Heap), Zc s s.heap.size U H → vk_R "SortedMailModel" 1119 "250-SIZE 4000" q U) ∧ uStr s.heap.size (Zc s s.heap.size) q w kW_179 := by
  obtain ⟨q, w, h1, h2⟩ := sC_of (bs := kW_179) (i := 2663) hn (by decide +kernel) (by decide) (hts _ (w_t10 203 rfl))
  exact ⟨q, w, h1, h2, by decide, by decide⟩
theorem ks_180 {s : State} {args : Array Value} (hts : ∀ w ∈ lw_tbl, w.before args s = true) (hn : narrow_1.before args s = true) : ∃ q w : Nat, (∀ (U : State) (H : Heap), Zc s s.heap.size U H → vk_R "SortedMailModel" 1121 "250 8BITMIME" q U) ∧ uStr s.heap.size (Zc s s.heap.size) q w kW_180 := by
  obtain ⟨q, w, h1, h2⟩ := sC_of (bs := kW_180) (i := 2681) hn (by decide +kernel) (by decide) (hts _ (w_t10 204 rfl))
  exact ⟨q, w, h1, h2, by decide, by decide⟩
theorem ks_181 {s : State} {args : Array Value} (hts : ∀ w ∈ lw_tbl, w.before args s = true) (hn : narrow_1.before args s = true) : ∃ q w : Nat, (∀ (U : State) (H : Heap), Zc s s.heap.size U H → vk_R "SortedMailModel" 1123 "<" q U) ∧ uStr s.heap.size (Zc s s.heap.size) q w kW_181 := by
  obtain ⟨q, w, h1, h2⟩ := sC_of (bs := kW_181) (i := 2797) hn (by decide +kernel) (by decide) (hts _ (w_t10 231 rfl))
  exact ⟨q, w, h1, h2, by decide, by decide⟩
theorem ks_182 {s : State} {args : Array Value} (hts : ∀ w ∈ lw_tbl, w.before args s = true) (hn : narrow_1.before args s = true) : ∃ q w : Nat, (∀ (U : State) (H : Heap), Zc s s.heap.size U H → vk_R "SortedMailModel" 1136 "body=8bitmime" q U) ∧ uStr s.heap.size (Zc s s.heap.size) q w kW_182 := by
  obtain ⟨q, w, h1, h2⟩ := sC_of (bs := kW_182) (i := 2802) hn (by decide +kernel) (by decide) (hts _ (w_t10 236 rfl))
  exact ⟨q, w, h1, h2, by decide, by decide⟩
theorem ks_183 {s : State} {args : Array Value} (hts : ∀ w ∈ lw_tbl, w.before args s = true) (hn : narrow_1.before args s = true) : ∃ q w : Nat, (∀ (U : State) (H : Heap), Zc s s.heap.size U H → vk_R "SortedMailModel" 1138 "size=" q U) ∧ uStr s.heap.size (Zc s s.heap.size) q w kW_183 := by
  obtain ⟨q, w, h1, h2⟩ := sC_of (bs := kW_183) (i := 2819) hn (by decide +kernel) (by decide) (hts _ (w_t10 237 rfl))
  exact ⟨q, w, h1, h2, by decide, by decide⟩
theorem ks_184 {s : State} {args : Array Value} (hts : ∀ w ∈ lw_tbl, w.before args s = true) (hn : narrow_1.before args s = true) : ∃ q w : Nat, (∀ (U : State) (H : Heap), Zc s s.heap.size U H → vk_R "SortedMailModel" 1140 " from:" q U) ∧ uStr s.heap.size (Zc s s.heap.size) q w kW_184 := by
  obtain ⟨q, w, h1, h2⟩ := sC_of (bs := kW_184) (i := 2781) hn (by decide +kernel) (by decide) (hts _ (w_t10 225 rfl))
  exact ⟨q, w, h1, h2, by decide, by decide⟩
theorem ks_185 {s : State} {args : Array Value} (hts : ∀ w ∈ lw_tbl, w.before args s = true) (hn : narrow_1.before args s = true) : ∃ q w : Nat, (∀ (U : State) (H : Heap), Zc s s.heap.size U H → vk_R "SortedMailModel" 1145 "<>" q U) ∧ uStr s.heap.size (Zc s s.heap.size) q w kW_185 := by
  obtain ⟨q, w, h1, h2⟩ := sC_of (bs := kW_185) (i := 2791) hn (by decide +kernel) (by decide) (hts _ (w_t10 226 rfl))
  exact ⟨q, w, h1, h2, by decide, by decide⟩
theorem ks_186 {s : State} {args : Array Value} (hts : ∀ w ∈ lw_tbl, w.before args s = true) (hn : narrow_1.before args s = true) : ∃ q w : Nat, (∀ (U : State) (H : Heap), Zc s s.heap.size U H → vk_R "SortedMailModel" 1156 "250 2.1.0 ok" q U) ∧ uStr s.heap.size (Zc s s.heap.size) q w kW_186 := by
  obtain ⟨q, w, h1, h2⟩ := sC_of (bs := kW_186) (i := 2848) hn (by decide +kernel) (by decide) (hts _ (w_t10 239 rfl))
  exact ⟨q, w, h1, h2, by decide, by decide⟩
theorem ks_187 {s : State} {args : Array Value} (hts : ∀ w ∈ lw_tbl, w.before args s = true) (hn : narrow_1.before args s = true) : ∃ q w : Nat, (∀ (U : State) (H : Heap), Zc s s.heap.size U H → vk_R "SortedMailModel" 1158 " to:" q U) ∧ uStr s.heap.size (Zc s s.heap.size) q w kW_187 := by
  obtain ⟨q, w, h1, h2⟩ := sC_of (bs := kW_187) (i := 2865) hn (by decide +kernel) (by decide) (hts _ (w_t11 4 rfl))
  exact ⟨q, w, h1, h2, by decide, by decide⟩
theorem ks_188 {s : State} {args : Array Value} (hts : ∀ w ∈ lw_tbl, w.before args s = true) (hn : narrow_1.before args s = true) : ∃ q w : Nat, (∀ (U : State) (H : Heap), Zc s s.heap.size U H → vk_R "SortedMailModel" 1163 "550 5.1.1 no such" q U) ∧ uStr s.heap.size (Zc s s.heap.size) q w kW_188 := by
  obtain ⟨q, w, h1, h2⟩ := sC_of (bs := kW_188) (i := 2923) hn (by decide +kernel) (by decide) (hts _ (w_t11 13 rfl))
  exact ⟨q, w, h1, h2, by decide, by decide⟩
theorem ks_189 {s : State} {args : Array Value} (hts : ∀ w ∈ lw_tbl, w.before args s = true) (hn : narrow_1.before args s = true) : ∃ q w : Nat, (∀ (U : State) (H : Heap), Zc s s.heap.size U H → vk_R "SortedMailModel" 1165 "452 4.5.3 too many" q U) ∧ uStr s.heap.size (Zc s s.heap.size) q w kW_189 := by
  obtain ⟨q, w, h1, h2⟩ := sC_of (bs := kW_189) (i := 2945) hn (by decide +kernel) (by decide) (hts _ (w_t11 14 rfl))
  exact ⟨q, w, h1, h2, by decide, by decide⟩
theorem ks_190 {s : State} {args : Array Value} (hts : ∀ w ∈ lw_tbl, w.before args s = true) (hn : narrow_1.before args s = true) : ∃ q w : Nat, (∀ (U : State) (H : Heap), Zc s s.heap.size U H → vk_R "SortedMailModel" 1167 "250 2.1.5 ok" q U) ∧ uStr s.heap.size (Zc s s.heap.size) q w kW_190 := by
  obtain ⟨q, w, h1, h2⟩ := sC_of (bs := kW_190) (i := 2968) hn (by decide +kernel) (by decide) (hts _ (w_t11 15 rfl))
  exact ⟨q, w, h1, h2, by decide, by decide⟩
theorem ks_191 {s : State} {args : Array Value} (hts : ∀ w ∈ lw_tbl, w.before args s = true) (hn : narrow_1.before args s = true) : ∃ q w : Nat, (∀ (U : State) (H : Heap), Zc s s.heap.size U H → vk_R "SortedMailModel" 1169 "354 go" q U) ∧ uStr s.heap.size (Zc s s.heap.size) q w kW_191 := by
  obtain ⟨q, w, h1, h2⟩ := sC_of (bs := kW_191) (i := 2985) hn (by decide +kernel) (by decide) (hts _ (w_t11 20 rfl))
  exact ⟨q, w, h1, h2, by decide, by decide⟩
theorem ks_192 {s : State} {args : Array Value} (hts : ∀ w ∈ lw_tbl, w.before args s = true) (hn : narrow_1.before args s = true) : ∃ q w : Nat, (∀ (U : State) (H : Heap), Zc s s.heap.size U H → vk_R "SortedMailModel" 1222 "putscript" q U) ∧ uStr s.heap.size (Zc s s.heap.size) q w kW_192 := by
  obtain ⟨q, w, h1, h2⟩ := sC_of (bs := kW_192) (i := 3018) hn (by decide +kernel) (by decide) (hts _ (w_t11 51 rfl))
  exact ⟨q, w, h1, h2, by decide, by decide⟩
theorem ks_193 {s : State} {args : Array Value} (hts : ∀ w ∈ lw_tbl, w.before args s = true) (hn : narrow_1.before args s = true) : ∃ q w : Nat, (∀ (U : State) (H : Heap), Zc s s.heap.size U H → vk_R "SortedMailModel" 1227 "checkscript" q U) ∧ uStr s.heap.size (Zc s s.heap.size) q w kW_193 := by
  obtain ⟨q, w, h1, h2⟩ := sC_of (bs := kW_193) (i := 3031) hn (by decide +kernel) (by decide) (hts _ (w_t11 56 rfl))
  exact ⟨q, w, h1, h2, by decide, by decide⟩
theorem ks_194 {s : State} {args : Array Value} (hts : ∀ w ∈ lw_tbl, w.before args s = true) (hn : narrow_1.before args s = true) : ∃ q w : Nat, (∀ (U : State) (H : Heap), Zc s s.heap.size U H → vk_R "SortedMailModel" 1229 "havespace" q U) ∧ uStr s.heap.size (Zc s s.heap.size) q w kW_194 := by
  obtain ⟨q, w, h1, h2⟩ := sC_of (bs := kW_194) (i := 3046) hn (by decide +kernel) (by decide) (hts _ (w_t11 57 rfl))
  exact ⟨q, w, h1, h2, by decide, by decide⟩
theorem ks_195 {s : State} {args : Array Value} (hts : ∀ w ∈ lw_tbl, w.before args s = true) (hn : narrow_1.before args s = true) : ∃ q w : Nat, (∀ (U : State) (H : Heap), Zc s s.heap.size U H → vk_R "SortedMailModel" 1231 "setactive" q U) ∧ uStr s.heap.size (Zc s s.heap.size) q w kW_195 := by
  obtain ⟨q, w, h1, h2⟩ := sC_of (bs := kW_195) (i := 3059) hn (by decide +kernel) (by decide) (hts _ (w_t11 58 rfl))
  exact ⟨q, w, h1, h2, by decide, by decide⟩
theorem ks_196 {s : State} {args : Array Value} (hts : ∀ w ∈ lw_tbl, w.before args s = true) (hn : narrow_1.before args s = true) : ∃ q w : Nat, (∀ (U : State) (H : Heap), Zc s s.heap.size U H → vk_R "SortedMailModel" 1233 "getscript" q U) ∧ uStr s.heap.size (Zc s s.heap.size) q w kW_196 := by
  obtain ⟨q, w, h1, h2⟩ := sC_of (bs := kW_196) (i := 3072) hn (by decide +kernel) (by decide) (hts _ (w_t11 59 rfl))
  exact ⟨q, w, h1, h2, by decide, by decide⟩
theorem ks_197 {s : State} {args : Array Value} (hts : ∀ w ∈ lw_tbl, w.before args s = true) (hn : narrow_1.before args s = true) : ∃ q w : Nat, (∀ (U : State) (H : Heap), Zc s s.heap.size U H → vk_R "SortedMailModel" 1235 "listscripts" q U) ∧ uStr s.heap.size (Zc s s.heap.size) q w kW_197 := by
  obtain ⟨q, w, h1, h2⟩ := sC_of (bs := kW_197) (i := 3085) hn (by decide +kernel) (by decide) (hts _ (w_t11 60 rfl))
  exact ⟨q, w, h1, h2, by decide, by decide⟩
theorem ks_198 {s : State} {args : Array Value} (hts : ∀ w ∈ lw_tbl, w.before args s = true) (hn : narrow_1.before args s = true) : ∃ q w : Nat, (∀ (U : State) (H : Heap), Zc s s.heap.size U H → vk_R "SortedMailModel" 1237 "deletescript" q U) ∧ uStr s.heap.size (Zc s s.heap.size) q w kW_198 := by
  obtain ⟨q, w, h1, h2⟩ := sC_of (bs := kW_198) (i := 3100) hn (by decide +kernel) (by decide) (hts _ (w_t11 61 rfl))
  exact ⟨q, w, h1, h2, by decide, by decide⟩
theorem ks_199 {s : State} {args : Array Value} (hts : ∀ w ∈ lw_tbl, w.before args s = true) (hn : narrow_1.before args s = true) : ∃ q w : Nat, (∀ (U : State) (H : Heap), Zc s s.heap.size U H → vk_R "SortedMailModel" 1239 "renamescript" q U) ∧ uStr s.heap.size (Zc s s.heap.size) q w kW_199 := by
  obtain ⟨q, w, h1, h2⟩ := sC_of (bs := kW_199) (i := 3116) hn (by decide +kernel) (by decide) (hts _ (w_t11 62 rfl))
  exact ⟨q, w, h1, h2, by decide, by decide⟩
theorem ks_200 {s : State} {args : Array Value} (hts : ∀ w ∈ lw_tbl, w.before args s = true) (hn : narrow_1.before args s = true) : ∃ q w : Nat, (∀ (U : State) (H : Heap), Zc s s.heap.size U H → vk_R "SortedMailModel" 1241 "logout" q U) ∧ uStr s.heap.size (Zc s s.heap.size) q w kW_200 := by
  obtain ⟨q, w, h1, h2⟩ := sC_of (bs := kW_200) (i := 3132) hn (by decide +kernel) (by decide) (hts _ (w_t11 63 rfl))
  exact ⟨q, w, h1, h2, by decide, by decide⟩
theorem ks_201 {s : State} {args : Array Value} (hts : ∀ w ∈ lw_tbl, w.before args s = true) (hn : narrow_1.before args s = true) : ∃ q w : Nat, (∀ (U : State) (H : Heap), Zc s s.heap.size U H → vk_R "SortedMailModel" 1302 "syntax" q U) ∧ uStr s.heap.size (Zc s s.heap.size) q w kW_201 := by
  obtain ⟨q, w, h1, h2⟩ := sC_of (bs := kW_201) (i := 3142) hn (by decide +kernel) (by decide) (hts _ (w_t11 101 rfl))
  exact ⟨q, w, h1, h2, by decide, by decide⟩
theorem ks_202 {s : State} {args : Array Value} (hts : ∀ w ∈ lw_tbl, w.before args s = true) (hn : narrow_1.before args s = true) : ∃ q w : Nat, (∀ (U : State) (H : Heap), Zc s s.heap.size U H → vk_R "SortedMailModel" 1315 "NO \"" q U) ∧ uStr s.heap.size (Zc s s.heap.size) q w kW_202 := by
  obtain ⟨q, w, h1, h2⟩ := sC_of (bs := kW_202) (i := 3153) hn (by decide +kernel) (by decide) (hts _ (w_t11 106 rfl))
  exact ⟨q, w, h1, h2, by decide, by decide⟩
theorem ks_203 {s : State} {args : Array Value} (hts : ∀ w ∈ lw_tbl, w.before args s = true) (hn : narrow_1.before args s = true) : ∃ q w : Nat, (∀ (U : State) (H : Heap), Zc s s.heap.size U H → vk_R "SortedMailModel" 1317 "\"" q U) ∧ uStr s.heap.size (Zc s s.heap.size) q w kW_203 := by
  obtain ⟨q, w, h1, h2⟩ := sC_of (bs := kW_203) (i := 3162) hn (by decide +kernel) (by decide) (hts _ (w_t11 107 rfl))
  exact ⟨q, w, h1, h2, by decide, by decide⟩
theorem ks_204 {s : State} {args : Array Value} (hts : ∀ w ∈ lw_tbl, w.before args s = true) (hn : narrow_1.before args s = true) : ∃ q w : Nat, (∀ (U : State) (H : Heap), Zc s s.heap.size U H → vk_R "SortedMailModel" 1334 "OK" q U) ∧ uStr s.heap.size (Zc s s.heap.size) q w kW_204 := by
  obtain ⟨q, w, h1, h2⟩ := sC_of (bs := kW_204) (i := 3192) hn (by decide +kernel) (by decide) (hts _ (w_t11 169 rfl))
  exact ⟨q, w, h1, h2, by decide, by decide⟩
theorem ks_205 {s : State} {args : Array Value} (hts : ∀ w ∈ lw_tbl, w.before args s = true) (hn : narrow_1.before args s = true) : ∃ q w : Nat, (∀ (U : State) (H : Heap), Zc s s.heap.size U H → vk_R "SortedMailModel" 1339 "space" q U) ∧ uStr s.heap.size (Zc s s.heap.size) q w kW_205 := by
  obtain ⟨q, w, h1, h2⟩ := sC_of (bs := kW_205) (i := 3182) hn (by decide +kernel) (by decide) (hts _ (w_t11 156 rfl))
  exact ⟨q, w, h1, h2, by decide, by decide⟩
theorem ks_206 {s : State} {args : Array Value} (hts : ∀ w ∈ lw_tbl, w.before args s = true) (hn : narrow_1.before args s = true) : ∃ q w : Nat, (∀ (U : State) (H : Heap), Zc s s.heap.size U H → vk_R "SortedMailModel" 1356 "NO \"line " q U) ∧ uStr s.heap.size (Zc s s.heap.size) q w kW_206 := by
  obtain ⟨q, w, h1, h2⟩ := sC_of (bs := kW_206) (i := 3168) hn (by decide +kernel) (by decide) (hts _ (w_t11 147 rfl))
  exact ⟨q, w, h1, h2, by decide, by decide⟩
theorem ks_207 {s : State} {args : Array Value} (hts : ∀ w ∈ lw_tbl, w.before args s = true) (hn : narrow_1.before args s = true) : ∃ q w : Nat, (∀ (U : State) (H : Heap), Zc s s.heap.size U H → vk_R "SortedMailModel" 1370 "none" q U) ∧ uStr s.heap.size (Zc s s.heap.size) q w kW_207 := by
  obtain ⟨q, w, h1, h2⟩ := sC_of (bs := kW_207) (i := 3199) hn (by decide +kernel) (by decide) (hts _ (w_t11 174 rfl))
  exact ⟨q, w, h1, h2, by decide, by decide⟩
theorem ks_208 {s : State} {args : Array Value} (hts : ∀ w ∈ lw_tbl, w.before args s = true) (hn : narrow_1.before args s = true) : ∃ q w : Nat, (∀ (U : State) (H : Heap), Zc s s.heap.size U H → vk_R "SortedMailModel" 1372 "}" q U) ∧ uStr s.heap.size (Zc s s.heap.size) q w kW_208 := by
  obtain ⟨q, w, h1, h2⟩ := sC_of (bs := kW_208) (i := 3208) hn (by decide +kernel) (by decide) (hts _ (w_t11 179 rfl))
  exact ⟨q, w, h1, h2, by decide, by decide⟩
theorem ks_209 {s : State} {args : Array Value} (hts : ∀ w ∈ lw_tbl, w.before args s = true) (hn : narrow_1.before args s = true) : ∃ q w : Nat, (∀ (U : State) (H : Heap), Zc s s.heap.size U H → vk_R "SortedMailModel" 1374 "" q U) ∧ uStr s.heap.size (Zc s s.heap.size) q w kW_209 := by
  obtain ⟨q, w, h1, h2⟩ := sC_of (bs := kW_209) (i := 3214) hn (by decide +kernel) (by decide) (hts _ (w_t11 180 rfl))
  exact ⟨q, w, h1, h2, by decide, by decide⟩
theorem ks_210 {s : State} {args : Array Value} (hts : ∀ w ∈ lw_tbl, w.before args s = true) (hn : narrow_1.before args s = true) : ∃ q w : Nat, (∀ (U : State) (H : Heap), Zc s s.heap.size U H → vk_R "SortedMailModel" 1376 "\" ACTIVE" q U) ∧ uStr s.heap.size (Zc s s.heap.size) q w kW_210 := by
  obtain ⟨q, w, h1, h2⟩ := sC_of (bs := kW_210) (i := 3220) hn (by decide +kernel) (by decide) (hts _ (w_t11 185 rfl))
  exact ⟨q, w, h1, h2, by decide, by decide⟩
theorem ks_211 {s : State} {args : Array Value} (hts : ∀ w ∈ lw_tbl, w.before args s = true) (hn : narrow_1.before args s = true) : ∃ q w : Nat, (∀ (U : State) (H : Heap), Zc s s.heap.size U H → vk_R "SortedMailModel" 1378 "active" q U) ∧ uStr s.heap.size (Zc s s.heap.size) q w kW_211 := by
  obtain ⟨q, w, h1, h2⟩ := sC_of (bs := kW_211) (i := 3232) hn (by decide +kernel) (by decide) (hts _ (w_t11 190 rfl))
  exact ⟨q, w, h1, h2, by decide, by decide⟩
theorem ks_212 {s : State} {args : Array Value} (hts : ∀ w ∈ lw_tbl, w.before args s = true) (hn : narrow_1.before args s = true) : ∃ q w : Nat, (∀ (U : State) (H : Heap), Zc s s.heap.size U H → vk_R "SortedMailModel" 1387 "INBOX" q U) ∧ uStr s.heap.size (Zc s s.heap.size) q w kW_212 := by
  obtain ⟨q, w, h1, h2⟩ := sC_of (bs := kW_212) (i := 3243) hn (by decide +kernel) (by decide) (hts _ (w_t11 200 rfl))
  exact ⟨q, w, h1, h2, by decide, by decide⟩
set_option maxRecDepth 100000 in
set_option maxHeartbeats 4000000 in
theorem ks_all {s : State} {args : Array Value} (hts : ∀ w ∈ lw_tbl, w.before args s = true) (hn : narrow_1.before args s = true) : ∀ (j : Nat) (e : String × Nat × String × List Nat), kAll[j]? = some e → ∃ q w : Nat, (∀ (U : State) (H : Heap), Zc s s.heap.size U H → vk_R e.1 e.2.1 e.2.2.1 q U) ∧ uStr s.heap.size (Zc s s.heap.size) q w e.2.2.2 := by
  intro j e he
  match j, he with
  | 0, he => cases he; exact ks_0 hts hn
  | 1, he => cases he; exact ks_1 hts hn
  | 2, he => cases he; exact ks_2 hts hn
  | 3, he => cases he; exact ks_3 hts hn
  | 4, he => cases he; exact ks_4 hts hn
  | 5, he => cases he; exact ks_5 hts hn
  | 6, he => cases he; exact ks_6 hts hn
  | 7, he => cases he; exact ks_7 hts hn
  | 8, he => cases he; exact ks_8 hts hn
  | 9, he => cases he; exact ks_9 hts hn
  | 10, he => cases he; exact ks_10 hts hn
  | 11, he => cases he; exact ks_11 hts hn
  | 12, he => cases he; exact ks_12 hts hn
  | 13, he => cases he; exact ks_13 hts hn
  | 14, he => cases he; exact ks_14 hts hn
  | 15, he => cases he; exact ks_15 hts hn
  | 16, he => cases he; exact ks_16 hts hn
  | 17, he => cases he; exact ks_17 hts hn
  | 18, he => cases he; exact ks_18 hts hn
  | 19, he => cases he; exact ks_19 hts hn
  | 20, he => cases he; exact ks_20 hts hn
  | 21, he => cases he; exact ks_21 hts hn
  | 22, he => cases he; exact ks_22 hts hn
  | 23, he => cases he; exact ks_23 hts hn
  | 24, he => cases he; exact ks_24 hts hn
  | 25, he => cases he; exact ks_25 hts hn
  | 26, he => cases he; exact ks_26 hts hn
  | 27, he => cases he; exact ks_27 hts hn
  | 28, he => cases he; exact ks_28 hts hn
  | 29, he => cases he; exact ks_29 hts hn
  | 30, he => cases he; exact ks_30 hts hn
  | 31, he => cases he; exact ks_31 hts hn
  | 32, he => cases he; exact ks_32 hts hn
  | 33, he => cases he; exact ks_33 hts hn
  | 34, he => cases he; exact ks_34 hts hn
  | 35, he => cases he; exact ks_35 hts hn
  | 36, he => cases he; exact ks_36 hts hn
  | 37, he => cases he; exact ks_37 hts hn
  | 38, he => cases he; exact ks_38 hts hn
  | 39, he => cases he; exact ks_39 hts hn
  | 40, he => cases he; exact ks_40 hts hn
  | 41, he => cases he; exact ks_41 hts hn
  | 42, he => cases he; exact ks_42 hts hn
  | 43, he => cases he; exact ks_43 hts hn
  | 44, he => cases he; exact ks_44 hts hn
  | 45, he => cases he; exact ks_45 hts hn
  | 46, he => cases he; exact ks_46 hts hn
  | 47, he => cases he; exact ks_47 hts hn
  | 48, he => cases he; exact ks_48 hts hn
  | 49, he => cases he; exact ks_49 hts hn
  | 50, he => cases he; exact ks_50 hts hn
  | 51, he => cases he; exact ks_51 hts hn
  | 52, he => cases he; exact ks_52 hts hn
  | 53, he => cases he; exact ks_53 hts hn
  | 54, he => cases he; exact ks_54 hts hn
  | 55, he => cases he; exact ks_55 hts hn
  | 56, he => cases he; exact ks_56 hts hn
  | 57, he => cases he; exact ks_57 hts hn
  | 58, he => cases he; exact ks_58 hts hn
  | 59, he => cases he; exact ks_59 hts hn
  | 60, he => cases he; exact ks_60 hts hn
  | 61, he => cases he; exact ks_61 hts hn
  | 62, he => cases he; exact ks_62 hts hn
  | 63, he => cases he; exact ks_63 hts hn
  | 64, he => cases he; exact ks_64 hts hn
  | 65, he => cases he; exact ks_65 hts hn
  | 66, he => cases he; exact ks_66 hts hn
  | 67, he => cases he; exact ks_67 hts hn
  | 68, he => cases he; exact ks_68 hts hn
  | 69, he => cases he; exact ks_69 hts hn
  | 70, he => cases he; exact ks_70 hts hn
  | 71, he => cases he; exact ks_71 hts hn
  | 72, he => cases he; exact ks_72 hts hn
  | 73, he => cases he; exact ks_73 hts hn
  | 74, he => cases he; exact ks_74 hts hn
  | 75, he => cases he; exact ks_75 hts hn
  | 76, he => cases he; exact ks_76 hts hn
  | 77, he => cases he; exact ks_77 hts hn
  | 78, he => cases he; exact ks_78 hts hn
  | 79, he => cases he; exact ks_79 hts hn
  | 80, he => cases he; exact ks_80 hts hn
  | 81, he => cases he; exact ks_81 hts hn
  | 82, he => cases he; exact ks_82 hts hn
  | 83, he => cases he; exact ks_83 hts hn
  | 84, he => cases he; exact ks_84 hts hn
  | 85, he => cases he; exact ks_85 hts hn
  | 86, he => cases he; exact ks_86 hts hn
  | 87, he => cases he; exact ks_87 hts hn
  | 88, he => cases he; exact ks_88 hts hn
  | 89, he => cases he; exact ks_89 hts hn
  | 90, he => cases he; exact ks_90 hts hn
  | 91, he => cases he; exact ks_91 hts hn
  | 92, he => cases he; exact ks_92 hts hn
  | 93, he => cases he; exact ks_93 hts hn
  | 94, he => cases he; exact ks_94 hts hn
  | 95, he => cases he; exact ks_95 hts hn
  | 96, he => cases he; exact ks_96 hts hn
  | 97, he => cases he; exact ks_97 hts hn
  | 98, he => cases he; exact ks_98 hts hn
  | 99, he => cases he; exact ks_99 hts hn
  | 100, he => cases he; exact ks_100 hts hn
  | 101, he => cases he; exact ks_101 hts hn
  | 102, he => cases he; exact ks_102 hts hn
  | 103, he => cases he; exact ks_103 hts hn
  | 104, he => cases he; exact ks_104 hts hn
  | 105, he => cases he; exact ks_105 hts hn
  | 106, he => cases he; exact ks_106 hts hn
  | 107, he => cases he; exact ks_107 hts hn
  | 108, he => cases he; exact ks_108 hts hn
  | 109, he => cases he; exact ks_109 hts hn
  | 110, he => cases he; exact ks_110 hts hn
  | 111, he => cases he; exact ks_111 hts hn
  | 112, he => cases he; exact ks_112 hts hn
  | 113, he => cases he; exact ks_113 hts hn
  | 114, he => cases he; exact ks_114 hts hn
  | 115, he => cases he; exact ks_115 hts hn
  | 116, he => cases he; exact ks_116 hts hn
  | 117, he => cases he; exact ks_117 hts hn
  | 118, he => cases he; exact ks_118 hts hn
  | 119, he => cases he; exact ks_119 hts hn
  | 120, he => cases he; exact ks_120 hts hn
  | 121, he => cases he; exact ks_121 hts hn
  | 122, he => cases he; exact ks_122 hts hn
  | 123, he => cases he; exact ks_123 hts hn
  | 124, he => cases he; exact ks_124 hts hn
  | 125, he => cases he; exact ks_125 hts hn
  | 126, he => cases he; exact ks_126 hts hn
  | 127, he => cases he; exact ks_127 hts hn
  | 128, he => cases he; exact ks_128 hts hn
  | 129, he => cases he; exact ks_129 hts hn
  | 130, he => cases he; exact ks_130 hts hn
  | 131, he => cases he; exact ks_131 hts hn
  | 132, he => cases he; exact ks_132 hts hn
  | 133, he => cases he; exact ks_133 hts hn
  | 134, he => cases he; exact ks_134 hts hn
  | 135, he => cases he; exact ks_135 hts hn
  | 136, he => cases he; exact ks_136 hts hn
  | 137, he => cases he; exact ks_137 hts hn
  | 138, he => cases he; exact ks_138 hts hn
  | 139, he => cases he; exact ks_139 hts hn
  | 140, he => cases he; exact ks_140 hts hn
  | 141, he => cases he; exact ks_141 hts hn
  | 142, he => cases he; exact ks_142 hts hn
  | 143, he => cases he; exact ks_143 hts hn
  | 144, he => cases he; exact ks_144 hts hn
  | 145, he => cases he; exact ks_145 hts hn
  | 146, he => cases he; exact ks_146 hts hn
  | 147, he => cases he; exact ks_147 hts hn
  | 148, he => cases he; exact ks_148 hts hn
  | 149, he => cases he; exact ks_149 hts hn
  | 150, he => cases he; exact ks_150 hts hn
  | 151, he => cases he; exact ks_151 hts hn
  | 152, he => cases he; exact ks_152 hts hn
  | 153, he => cases he; exact ks_153 hts hn
  | 154, he => cases he; exact ks_154 hts hn
  | 155, he => cases he; exact ks_155 hts hn
  | 156, he => cases he; exact ks_156 hts hn
  | 157, he => cases he; exact ks_157 hts hn
  | 158, he => cases he; exact ks_158 hts hn
  | 159, he => cases he; exact ks_159 hts hn
  | 160, he => cases he; exact ks_160 hts hn
  | 161, he => cases he; exact ks_161 hts hn
  | 162, he => cases he; exact ks_162 hts hn
  | 163, he => cases he; exact ks_163 hts hn
  | 164, he => cases he; exact ks_164 hts hn
  | 165, he => cases he; exact ks_165 hts hn
  | 166, he => cases he; exact ks_166 hts hn
  | 167, he => cases he; exact ks_167 hts hn
  | 168, he => cases he; exact ks_168 hts hn
  | 169, he => cases he; exact ks_169 hts hn
  | 170, he => cases he; exact ks_170 hts hn
  | 171, he => cases he; exact ks_171 hts hn
  | 172, he => cases he; exact ks_172 hts hn
  | 173, he => cases he; exact ks_173 hts hn
  | 174, he => cases he; exact ks_174 hts hn
  | 175, he => cases he; exact ks_175 hts hn
  | 176, he => cases he; exact ks_176 hts hn
  | 177, he => cases he; exact ks_177 hts hn
  | 178, he => cases he; exact ks_178 hts hn
  | 179, he => cases he; exact ks_179 hts hn
  | 180, he => cases he; exact ks_180 hts hn
  | 181, he => cases he; exact ks_181 hts hn
  | 182, he => cases he; exact ks_182 hts hn
  | 183, he => cases he; exact ks_183 hts hn
  | 184, he => cases he; exact ks_184 hts hn
  | 185, he => cases he; exact ks_185 hts hn
  | 186, he => cases he; exact ks_186 hts hn
  | 187, he => cases he; exact ks_187 hts hn
  | 188, he => cases he; exact ks_188 hts hn
  | 189, he => cases he; exact ks_189 hts hn
  | 190, he => cases he; exact ks_190 hts hn
  | 191, he => cases he; exact ks_191 hts hn
  | 192, he => cases he; exact ks_192 hts hn
  | 193, he => cases he; exact ks_193 hts hn
  | 194, he => cases he; exact ks_194 hts hn
  | 195, he => cases he; exact ks_195 hts hn
  | 196, he => cases he; exact ks_196 hts hn
  | 197, he => cases he; exact ks_197 hts hn
  | 198, he => cases he; exact ks_198 hts hn
  | 199, he => cases he; exact ks_199 hts hn
  | 200, he => cases he; exact ks_200 hts hn
  | 201, he => cases he; exact ks_201 hts hn
  | 202, he => cases he; exact ks_202 hts hn
  | 203, he => cases he; exact ks_203 hts hn
  | 204, he => cases he; exact ks_204 hts hn
  | 205, he => cases he; exact ks_205 hts hn
  | 206, he => cases he; exact ks_206 hts hn
  | 207, he => cases he; exact ks_207 hts hn
  | 208, he => cases he; exact ks_208 hts hn
  | 209, he => cases he; exact ks_209 hts hn
  | 210, he => cases he; exact ks_210 hts hn
  | 211, he => cases he; exact ks_211 hts hn
  | 212, he => cases he; exact ks_212 hts hn
  | j + 213, he => exact absurd (List.getElem?_eq_some_iff.mp he).1 (by show ¬ j + 213 < 213; omega)
