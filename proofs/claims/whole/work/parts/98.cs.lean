/-! how a test compares: the tags of tests -/
theorem hw_0 {K : Int32 → uS → Option uS} {n v : Nat} {t : uS} (hn : n < 520) (hv : v = 0) (hi : fn_X12_is 2 t = some true) (w : ∀ (W : List Nat) (j : Nat), tagWd W j → ∀ U : uS, ol rnJ rnK rNo t U → fn_X12_wordIs W U = some (decide (v = j))) : fb_X12_how_0 K (nI n) t = (if 0 ≤ t.F 1109 n then fb_X12_how_213 K (nI n) (nI 0) (-1) false true t else fb_X12_how_213 K (nI n) (nI 0) (-1) false false t) := by
  have w0 : fn_X12_wordIs kW_112 t = some true := by rw [w kW_112 0 tw_112 t ol_r, decide_eq_true (by omega)]
  have w1 : fn_X12_wordIs kW_113 t = some false := by rw [w kW_113 1 tw_113 t ol_r, decide_eq_false (by omega)]
  have w2 : fn_X12_wordIs kW_114 t = some false := by rw [w kW_114 2 tw_114 t ol_r, decide_eq_false (by omega)]
  have w3 : fn_X12_wordIs kW_115 t = some false := by rw [w kW_115 3 tw_115 t ol_r, decide_eq_false (by omega)]
  have w4 : fn_X12_wordIs kW_116 t = some false := by rw [w kW_116 4 tw_116 t ol_r, decide_eq_false (by omega)]
  have w5 : fn_X12_wordIs kW_120 t = some false := by rw [w kW_120 5 tw_120 t ol_r, decide_eq_false (by omega)]
  have w6 : fn_X12_wordIs kW_117 t = some false := by rw [w kW_117 6 tw_117 t ol_r, decide_eq_false (by omega)]
  have w7 : fn_X12_wordIs kW_118 t = some false := by rw [w kW_118 7 tw_118 t ol_r, decide_eq_false (by omega)]
  have w8 : fn_X12_wordIs kW_119 t = some false := by rw [w kW_119 8 tw_119 t ol_r, decide_eq_false (by omega)]
  unfold fb_X12_how_0
  rw [hi, Option.bind_some, if_pos rfl]
  rw [w0, Option.bind_some, if_pos rfl]
  unfold fb_X12_how_79
  rw [w6, Option.bind_some, if_neg (show ¬ false = true by decide), w7, Option.bind_some, if_neg (show ¬ false = true by decide), w8, Option.bind_some, if_neg (show ¬ false = true by decide)]
  unfold fb_X12_how_123
  rw [w5, Option.bind_some]
  rw [if_pos (show (0 : Int32) ≤ 0 by decide)]
  unfold fb_X12_how_146
  rw [if_neg (show ¬ (0 : Int32) < 0 by decide), g_1109 hn, Option.bind_some]
  unfold fb_X12_how_159 fb_X12_how_173
  rw [if_neg (show ¬ false = true by decide), if_pos (show (-1 : Int32) < 0 by decide)]
  rfl
theorem hw_1 {K : Int32 → uS → Option uS} {n v : Nat} {t : uS} (hn : n < 520) (hv : v = 1) (hi : fn_X12_is 2 t = some true) (w : ∀ (W : List Nat) (j : Nat), tagWd W j → ∀ U : uS, ol rnJ rnK rNo t U → fn_X12_wordIs W U = some (decide (v = j))) : fb_X12_how_0 K (nI n) t = (if 0 ≤ t.F 1109 n then fb_X12_how_213 K (nI n) (nI 1) (-1) false true t else fb_X12_how_213 K (nI n) (nI 1) (-1) false false t) := by
  have w0 : fn_X12_wordIs kW_112 t = some false := by rw [w kW_112 0 tw_112 t ol_r, decide_eq_false (by omega)]
  have w1 : fn_X12_wordIs kW_113 t = some true := by rw [w kW_113 1 tw_113 t ol_r, decide_eq_true (by omega)]
  have w2 : fn_X12_wordIs kW_114 t = some false := by rw [w kW_114 2 tw_114 t ol_r, decide_eq_false (by omega)]
  have w3 : fn_X12_wordIs kW_115 t = some false := by rw [w kW_115 3 tw_115 t ol_r, decide_eq_false (by omega)]
  have w4 : fn_X12_wordIs kW_116 t = some false := by rw [w kW_116 4 tw_116 t ol_r, decide_eq_false (by omega)]
  have w5 : fn_X12_wordIs kW_120 t = some false := by rw [w kW_120 5 tw_120 t ol_r, decide_eq_false (by omega)]
  have w6 : fn_X12_wordIs kW_117 t = some false := by rw [w kW_117 6 tw_117 t ol_r, decide_eq_false (by omega)]
  have w7 : fn_X12_wordIs kW_118 t = some false := by rw [w kW_118 7 tw_118 t ol_r, decide_eq_false (by omega)]
  have w8 : fn_X12_wordIs kW_119 t = some false := by rw [w kW_119 8 tw_119 t ol_r, decide_eq_false (by omega)]
  unfold fb_X12_how_0
  rw [hi, Option.bind_some, if_pos rfl]
  rw [w0, Option.bind_some, if_neg (show ¬ false = true by decide), w1, Option.bind_some, if_pos rfl]
  unfold fb_X12_how_79
  rw [w6, Option.bind_some, if_neg (show ¬ false = true by decide), w7, Option.bind_some, if_neg (show ¬ false = true by decide), w8, Option.bind_some, if_neg (show ¬ false = true by decide)]
  unfold fb_X12_how_123
  rw [w5, Option.bind_some]
  rw [if_pos (show (0 : Int32) ≤ 1 by decide)]
  unfold fb_X12_how_146
  rw [if_neg (show ¬ (1 : Int32) < 0 by decide), g_1109 hn, Option.bind_some]
  unfold fb_X12_how_159 fb_X12_how_173
  rw [if_neg (show ¬ false = true by decide), if_pos (show (-1 : Int32) < 0 by decide)]
  rfl
theorem hw_2 {K : Int32 → uS → Option uS} {n v : Nat} {t : uS} (hn : n < 520) (hv : v = 2) (hi : fn_X12_is 2 t = some true) (w : ∀ (W : List Nat) (j : Nat), tagWd W j → ∀ U : uS, ol rnJ rnK rNo t U → fn_X12_wordIs W U = some (decide (v = j))) : fb_X12_how_0 K (nI n) t = (if 0 ≤ t.F 1109 n then fb_X12_how_213 K (nI n) (nI 2) (-1) false true t else fb_X12_how_213 K (nI n) (nI 2) (-1) false false t) := by
  have w0 : fn_X12_wordIs kW_112 t = some false := by rw [w kW_112 0 tw_112 t ol_r, decide_eq_false (by omega)]
  have w1 : fn_X12_wordIs kW_113 t = some false := by rw [w kW_113 1 tw_113 t ol_r, decide_eq_false (by omega)]
  have w2 : fn_X12_wordIs kW_114 t = some true := by rw [w kW_114 2 tw_114 t ol_r, decide_eq_true (by omega)]
  have w3 : fn_X12_wordIs kW_115 t = some false := by rw [w kW_115 3 tw_115 t ol_r, decide_eq_false (by omega)]
  have w4 : fn_X12_wordIs kW_116 t = some false := by rw [w kW_116 4 tw_116 t ol_r, decide_eq_false (by omega)]
  have w5 : fn_X12_wordIs kW_120 t = some false := by rw [w kW_120 5 tw_120 t ol_r, decide_eq_false (by omega)]
  have w6 : fn_X12_wordIs kW_117 t = some false := by rw [w kW_117 6 tw_117 t ol_r, decide_eq_false (by omega)]
  have w7 : fn_X12_wordIs kW_118 t = some false := by rw [w kW_118 7 tw_118 t ol_r, decide_eq_false (by omega)]
  have w8 : fn_X12_wordIs kW_119 t = some false := by rw [w kW_119 8 tw_119 t ol_r, decide_eq_false (by omega)]
  unfold fb_X12_how_0
  rw [hi, Option.bind_some, if_pos rfl]
  rw [w0, Option.bind_some, if_neg (show ¬ false = true by decide), w1, Option.bind_some, if_neg (show ¬ false = true by decide), w2, Option.bind_some, if_pos rfl]
  unfold fb_X12_how_79
  rw [w6, Option.bind_some, if_neg (show ¬ false = true by decide), w7, Option.bind_some, if_neg (show ¬ false = true by decide), w8, Option.bind_some, if_neg (show ¬ false = true by decide)]
  unfold fb_X12_how_123
  rw [w5, Option.bind_some]
  rw [if_pos (show (0 : Int32) ≤ 2 by decide)]
  unfold fb_X12_how_146
  rw [if_neg (show ¬ (2 : Int32) < 0 by decide), g_1109 hn, Option.bind_some]
  unfold fb_X12_how_159 fb_X12_how_173
  rw [if_neg (show ¬ false = true by decide), if_pos (show (-1 : Int32) < 0 by decide)]
  rfl
theorem hw_3 {K : Int32 → uS → Option uS} {n v : Nat} {t : uS} (hn : n < 520) (hv : v = 3) (hi : fn_X12_is 2 t = some true) (w : ∀ (W : List Nat) (j : Nat), tagWd W j → ∀ U : uS, ol rnJ rnK rNo t U → fn_X12_wordIs W U = some (decide (v = j))) : fb_X12_how_0 K (nI n) t = (if 0 ≤ t.F 1109 n then fb_X12_how_213 K (nI n) (nI 3) (-1) false true t else fb_X12_how_213 K (nI n) (nI 3) (-1) false false t) := by
  have w0 : fn_X12_wordIs kW_112 t = some false := by rw [w kW_112 0 tw_112 t ol_r, decide_eq_false (by omega)]
  have w1 : fn_X12_wordIs kW_113 t = some false := by rw [w kW_113 1 tw_113 t ol_r, decide_eq_false (by omega)]
  have w2 : fn_X12_wordIs kW_114 t = some false := by rw [w kW_114 2 tw_114 t ol_r, decide_eq_false (by omega)]
  have w3 : fn_X12_wordIs kW_115 t = some true := by rw [w kW_115 3 tw_115 t ol_r, decide_eq_true (by omega)]
  have w4 : fn_X12_wordIs kW_116 t = some false := by rw [w kW_116 4 tw_116 t ol_r, decide_eq_false (by omega)]
  have w5 : fn_X12_wordIs kW_120 t = some false := by rw [w kW_120 5 tw_120 t ol_r, decide_eq_false (by omega)]
  have w6 : fn_X12_wordIs kW_117 t = some false := by rw [w kW_117 6 tw_117 t ol_r, decide_eq_false (by omega)]
  have w7 : fn_X12_wordIs kW_118 t = some false := by rw [w kW_118 7 tw_118 t ol_r, decide_eq_false (by omega)]
  have w8 : fn_X12_wordIs kW_119 t = some false := by rw [w kW_119 8 tw_119 t ol_r, decide_eq_false (by omega)]
  unfold fb_X12_how_0
  rw [hi, Option.bind_some, if_pos rfl]
  rw [w0, Option.bind_some, if_neg (show ¬ false = true by decide), w1, Option.bind_some, if_neg (show ¬ false = true by decide), w2, Option.bind_some, if_neg (show ¬ false = true by decide), w3, Option.bind_some, if_pos rfl]
  unfold fb_X12_how_79
  rw [w6, Option.bind_some, if_neg (show ¬ false = true by decide), w7, Option.bind_some, if_neg (show ¬ false = true by decide), w8, Option.bind_some, if_neg (show ¬ false = true by decide)]
  unfold fb_X12_how_123
  rw [w5, Option.bind_some]
  rw [if_pos (show (0 : Int32) ≤ 3 by decide)]
  unfold fb_X12_how_146
  rw [if_neg (show ¬ (3 : Int32) < 0 by decide), g_1109 hn, Option.bind_some]
  unfold fb_X12_how_159 fb_X12_how_173
  rw [if_neg (show ¬ false = true by decide), if_pos (show (-1 : Int32) < 0 by decide)]
  rfl
theorem hw_4 {K : Int32 → uS → Option uS} {n v : Nat} {t : uS} (hn : n < 520) (hv : v = 4) (hi : fn_X12_is 2 t = some true) (w : ∀ (W : List Nat) (j : Nat), tagWd W j → ∀ U : uS, ol rnJ rnK rNo t U → fn_X12_wordIs W U = some (decide (v = j))) : fb_X12_how_0 K (nI n) t = (if 0 ≤ t.F 1109 n then fb_X12_how_213 K (nI n) (nI 4) (-1) false true t else fb_X12_how_213 K (nI n) (nI 4) (-1) false false t) := by
  have w0 : fn_X12_wordIs kW_112 t = some false := by rw [w kW_112 0 tw_112 t ol_r, decide_eq_false (by omega)]
  have w1 : fn_X12_wordIs kW_113 t = some false := by rw [w kW_113 1 tw_113 t ol_r, decide_eq_false (by omega)]
  have w2 : fn_X12_wordIs kW_114 t = some false := by rw [w kW_114 2 tw_114 t ol_r, decide_eq_false (by omega)]
  have w3 : fn_X12_wordIs kW_115 t = some false := by rw [w kW_115 3 tw_115 t ol_r, decide_eq_false (by omega)]
  have w4 : fn_X12_wordIs kW_116 t = some true := by rw [w kW_116 4 tw_116 t ol_r, decide_eq_true (by omega)]
  have w5 : fn_X12_wordIs kW_120 t = some false := by rw [w kW_120 5 tw_120 t ol_r, decide_eq_false (by omega)]
  have w6 : fn_X12_wordIs kW_117 t = some false := by rw [w kW_117 6 tw_117 t ol_r, decide_eq_false (by omega)]
  have w7 : fn_X12_wordIs kW_118 t = some false := by rw [w kW_118 7 tw_118 t ol_r, decide_eq_false (by omega)]
  have w8 : fn_X12_wordIs kW_119 t = some false := by rw [w kW_119 8 tw_119 t ol_r, decide_eq_false (by omega)]
  unfold fb_X12_how_0
  rw [hi, Option.bind_some, if_pos rfl]
  rw [w0, Option.bind_some, if_neg (show ¬ false = true by decide), w1, Option.bind_some, if_neg (show ¬ false = true by decide), w2, Option.bind_some, if_neg (show ¬ false = true by decide), w3, Option.bind_some, if_neg (show ¬ false = true by decide), w4, Option.bind_some, if_pos rfl]
  unfold fb_X12_how_79
  rw [w6, Option.bind_some, if_neg (show ¬ false = true by decide), w7, Option.bind_some, if_neg (show ¬ false = true by decide), w8, Option.bind_some, if_neg (show ¬ false = true by decide)]
  unfold fb_X12_how_123
  rw [w5, Option.bind_some]
  rw [if_pos (show (0 : Int32) ≤ 4 by decide)]
  unfold fb_X12_how_146
  rw [if_neg (show ¬ (4 : Int32) < 0 by decide), g_1109 hn, Option.bind_some]
  unfold fb_X12_how_159 fb_X12_how_173
  rw [if_neg (show ¬ false = true by decide), if_pos (show (-1 : Int32) < 0 by decide)]
  rfl
theorem hw_5 {K : Int32 → uS → Option uS} {n v : Nat} {t : uS} (hn : n < 520) (hv : v = 5) (hi : fn_X12_is 2 t = some true) (w : ∀ (W : List Nat) (j : Nat), tagWd W j → ∀ U : uS, ol rnJ rnK rNo t U → fn_X12_wordIs W U = some (decide (v = j))) : fb_X12_how_0 K (nI n) t = (if 0 ≤ t.F 1111 n then fb_X12_how_213 K (nI n) (-1) (-1) true true t else fb_X12_how_213 K (nI n) (-1) (-1) true false t) := by
  have w0 : fn_X12_wordIs kW_112 t = some false := by rw [w kW_112 0 tw_112 t ol_r, decide_eq_false (by omega)]
  have w1 : fn_X12_wordIs kW_113 t = some false := by rw [w kW_113 1 tw_113 t ol_r, decide_eq_false (by omega)]
  have w2 : fn_X12_wordIs kW_114 t = some false := by rw [w kW_114 2 tw_114 t ol_r, decide_eq_false (by omega)]
  have w3 : fn_X12_wordIs kW_115 t = some false := by rw [w kW_115 3 tw_115 t ol_r, decide_eq_false (by omega)]
  have w4 : fn_X12_wordIs kW_116 t = some false := by rw [w kW_116 4 tw_116 t ol_r, decide_eq_false (by omega)]
  have w5 : fn_X12_wordIs kW_120 t = some true := by rw [w kW_120 5 tw_120 t ol_r, decide_eq_true (by omega)]
  have w6 : fn_X12_wordIs kW_117 t = some false := by rw [w kW_117 6 tw_117 t ol_r, decide_eq_false (by omega)]
  have w7 : fn_X12_wordIs kW_118 t = some false := by rw [w kW_118 7 tw_118 t ol_r, decide_eq_false (by omega)]
  have w8 : fn_X12_wordIs kW_119 t = some false := by rw [w kW_119 8 tw_119 t ol_r, decide_eq_false (by omega)]
  unfold fb_X12_how_0
  rw [hi, Option.bind_some, if_pos rfl]
  rw [w0, Option.bind_some, if_neg (show ¬ false = true by decide), w1, Option.bind_some, if_neg (show ¬ false = true by decide), w2, Option.bind_some, if_neg (show ¬ false = true by decide), w3, Option.bind_some, if_neg (show ¬ false = true by decide), w4, Option.bind_some, if_neg (show ¬ false = true by decide)]
  unfold fb_X12_how_79
  rw [w6, Option.bind_some, if_neg (show ¬ false = true by decide), w7, Option.bind_some, if_neg (show ¬ false = true by decide), w8, Option.bind_some, if_neg (show ¬ false = true by decide)]
  unfold fb_X12_how_123
  rw [w5, Option.bind_some]
  rw [if_neg (show ¬ (0 : Int32) ≤ -1 by decide), if_neg (show ¬ (0 : Int32) ≤ -1 by decide), if_pos rfl]
  unfold fb_X12_how_146
  rw [if_pos (show (-1 : Int32) < 0 by decide)]
  unfold fb_X12_how_159 fb_X12_how_173
  rw [if_pos rfl, g_1111 hn, Option.bind_some, if_pos (show (-1 : Int32) < 0 by decide)]
theorem hw_6 {K : Int32 → uS → Option uS} {n v : Nat} {t : uS} (hn : n < 520) (hv : v = 6) (hi : fn_X12_is 2 t = some true) (w : ∀ (W : List Nat) (j : Nat), tagWd W j → ∀ U : uS, ol rnJ rnK rNo t U → fn_X12_wordIs W U = some (decide (v = j))) : fb_X12_how_0 K (nI n) t = (if 0 ≤ t.F 1112 n then fb_X12_how_213 K (nI n) (-1) (nI 0) false true t else if t.F 1098 n = 20 then fb_X12_how_213 K (nI n) (-1) (nI 0) false true t else if t.F 1098 n = 23 then fb_X12_how_213 K (nI n) (-1) (nI 0) false true t else fb_X12_how_213 K (nI n) (-1) (nI 0) false false t) := by
  have w0 : fn_X12_wordIs kW_112 t = some false := by rw [w kW_112 0 tw_112 t ol_r, decide_eq_false (by omega)]
  have w1 : fn_X12_wordIs kW_113 t = some false := by rw [w kW_113 1 tw_113 t ol_r, decide_eq_false (by omega)]
  have w2 : fn_X12_wordIs kW_114 t = some false := by rw [w kW_114 2 tw_114 t ol_r, decide_eq_false (by omega)]
  have w3 : fn_X12_wordIs kW_115 t = some false := by rw [w kW_115 3 tw_115 t ol_r, decide_eq_false (by omega)]
  have w4 : fn_X12_wordIs kW_116 t = some false := by rw [w kW_116 4 tw_116 t ol_r, decide_eq_false (by omega)]
  have w5 : fn_X12_wordIs kW_120 t = some false := by rw [w kW_120 5 tw_120 t ol_r, decide_eq_false (by omega)]
  have w6 : fn_X12_wordIs kW_117 t = some true := by rw [w kW_117 6 tw_117 t ol_r, decide_eq_true (by omega)]
  have w7 : fn_X12_wordIs kW_118 t = some false := by rw [w kW_118 7 tw_118 t ol_r, decide_eq_false (by omega)]
  have w8 : fn_X12_wordIs kW_119 t = some false := by rw [w kW_119 8 tw_119 t ol_r, decide_eq_false (by omega)]
  unfold fb_X12_how_0
  rw [hi, Option.bind_some, if_pos rfl]
  rw [w0, Option.bind_some, if_neg (show ¬ false = true by decide), w1, Option.bind_some, if_neg (show ¬ false = true by decide), w2, Option.bind_some, if_neg (show ¬ false = true by decide), w3, Option.bind_some, if_neg (show ¬ false = true by decide), w4, Option.bind_some, if_neg (show ¬ false = true by decide)]
  unfold fb_X12_how_79
  rw [w6, Option.bind_some, if_pos rfl]
  unfold fb_X12_how_123
  rw [w5, Option.bind_some]
  rw [if_neg (show ¬ (0 : Int32) ≤ -1 by decide), if_pos (show (0 : Int32) ≤ 0 by decide)]
  unfold fb_X12_how_146
  rw [if_pos (show (-1 : Int32) < 0 by decide)]
  unfold fb_X12_how_159 fb_X12_how_173
  rw [if_neg (show ¬ false = true by decide), if_neg (show ¬ (0 : Int32) < 0 by decide), g_1112 hn, Option.bind_some, g_1098 hn, Option.bind_some, Option.bind_some]
  rfl
theorem hw_7 {K : Int32 → uS → Option uS} {n v : Nat} {t : uS} (hn : n < 520) (hv : v = 7) (hi : fn_X12_is 2 t = some true) (w : ∀ (W : List Nat) (j : Nat), tagWd W j → ∀ U : uS, ol rnJ rnK rNo t U → fn_X12_wordIs W U = some (decide (v = j))) : fb_X12_how_0 K (nI n) t = (if 0 ≤ t.F 1112 n then fb_X12_how_213 K (nI n) (-1) (nI 1) false true t else if t.F 1098 n = 20 then fb_X12_how_213 K (nI n) (-1) (nI 1) false true t else if t.F 1098 n = 23 then fb_X12_how_213 K (nI n) (-1) (nI 1) false true t else fb_X12_how_213 K (nI n) (-1) (nI 1) false false t) := by
  have w0 : fn_X12_wordIs kW_112 t = some false := by rw [w kW_112 0 tw_112 t ol_r, decide_eq_false (by omega)]
  have w1 : fn_X12_wordIs kW_113 t = some false := by rw [w kW_113 1 tw_113 t ol_r, decide_eq_false (by omega)]
  have w2 : fn_X12_wordIs kW_114 t = some false := by rw [w kW_114 2 tw_114 t ol_r, decide_eq_false (by omega)]
  have w3 : fn_X12_wordIs kW_115 t = some false := by rw [w kW_115 3 tw_115 t ol_r, decide_eq_false (by omega)]
  have w4 : fn_X12_wordIs kW_116 t = some false := by rw [w kW_116 4 tw_116 t ol_r, decide_eq_false (by omega)]
  have w5 : fn_X12_wordIs kW_120 t = some false := by rw [w kW_120 5 tw_120 t ol_r, decide_eq_false (by omega)]
  have w6 : fn_X12_wordIs kW_117 t = some false := by rw [w kW_117 6 tw_117 t ol_r, decide_eq_false (by omega)]
  have w7 : fn_X12_wordIs kW_118 t = some true := by rw [w kW_118 7 tw_118 t ol_r, decide_eq_true (by omega)]
  have w8 : fn_X12_wordIs kW_119 t = some false := by rw [w kW_119 8 tw_119 t ol_r, decide_eq_false (by omega)]
  unfold fb_X12_how_0
  rw [hi, Option.bind_some, if_pos rfl]
  rw [w0, Option.bind_some, if_neg (show ¬ false = true by decide), w1, Option.bind_some, if_neg (show ¬ false = true by decide), w2, Option.bind_some, if_neg (show ¬ false = true by decide), w3, Option.bind_some, if_neg (show ¬ false = true by decide), w4, Option.bind_some, if_neg (show ¬ false = true by decide)]
  unfold fb_X12_how_79
  rw [w6, Option.bind_some, if_neg (show ¬ false = true by decide), w7, Option.bind_some, if_pos rfl]
  unfold fb_X12_how_123
  rw [w5, Option.bind_some]
  rw [if_neg (show ¬ (0 : Int32) ≤ -1 by decide), if_pos (show (0 : Int32) ≤ 1 by decide)]
  unfold fb_X12_how_146
  rw [if_pos (show (-1 : Int32) < 0 by decide)]
  unfold fb_X12_how_159 fb_X12_how_173
  rw [if_neg (show ¬ false = true by decide), if_neg (show ¬ (1 : Int32) < 0 by decide), g_1112 hn, Option.bind_some, g_1098 hn, Option.bind_some, Option.bind_some]
  rfl
theorem hw_8 {K : Int32 → uS → Option uS} {n v : Nat} {t : uS} (hn : n < 520) (hv : v = 8) (hi : fn_X12_is 2 t = some true) (w : ∀ (W : List Nat) (j : Nat), tagWd W j → ∀ U : uS, ol rnJ rnK rNo t U → fn_X12_wordIs W U = some (decide (v = j))) : fb_X12_how_0 K (nI n) t = (if 0 ≤ t.F 1112 n then fb_X12_how_213 K (nI n) (-1) (nI 2) false true t else if t.F 1098 n = 20 then fb_X12_how_213 K (nI n) (-1) (nI 2) false true t else if t.F 1098 n = 23 then fb_X12_how_213 K (nI n) (-1) (nI 2) false true t else fb_X12_how_213 K (nI n) (-1) (nI 2) false false t) := by
  have w0 : fn_X12_wordIs kW_112 t = some false := by rw [w kW_112 0 tw_112 t ol_r, decide_eq_false (by omega)]
  have w1 : fn_X12_wordIs kW_113 t = some false := by rw [w kW_113 1 tw_113 t ol_r, decide_eq_false (by omega)]
  have w2 : fn_X12_wordIs kW_114 t = some false := by rw [w kW_114 2 tw_114 t ol_r, decide_eq_false (by omega)]
  have w3 : fn_X12_wordIs kW_115 t = some false := by rw [w kW_115 3 tw_115 t ol_r, decide_eq_false (by omega)]
  have w4 : fn_X12_wordIs kW_116 t = some false := by rw [w kW_116 4 tw_116 t ol_r, decide_eq_false (by omega)]
  have w5 : fn_X12_wordIs kW_120 t = some false := by rw [w kW_120 5 tw_120 t ol_r, decide_eq_false (by omega)]
  have w6 : fn_X12_wordIs kW_117 t = some false := by rw [w kW_117 6 tw_117 t ol_r, decide_eq_false (by omega)]
  have w7 : fn_X12_wordIs kW_118 t = some false := by rw [w kW_118 7 tw_118 t ol_r, decide_eq_false (by omega)]
  have w8 : fn_X12_wordIs kW_119 t = some true := by rw [w kW_119 8 tw_119 t ol_r, decide_eq_true (by omega)]
  unfold fb_X12_how_0
  rw [hi, Option.bind_some, if_pos rfl]
  rw [w0, Option.bind_some, if_neg (show ¬ false = true by decide), w1, Option.bind_some, if_neg (show ¬ false = true by decide), w2, Option.bind_some, if_neg (show ¬ false = true by decide), w3, Option.bind_some, if_neg (show ¬ false = true by decide), w4, Option.bind_some, if_neg (show ¬ false = true by decide)]
  unfold fb_X12_how_79
  rw [w6, Option.bind_some, if_neg (show ¬ false = true by decide), w7, Option.bind_some, if_neg (show ¬ false = true by decide), w8, Option.bind_some, if_pos rfl]
  unfold fb_X12_how_123
  rw [w5, Option.bind_some]
  rw [if_neg (show ¬ (0 : Int32) ≤ -1 by decide), if_pos (show (0 : Int32) ≤ 2 by decide)]
  unfold fb_X12_how_146
  rw [if_pos (show (-1 : Int32) < 0 by decide)]
  unfold fb_X12_how_159 fb_X12_how_173
  rw [if_neg (show ¬ false = true by decide), if_neg (show ¬ (2 : Int32) < 0 by decide), g_1112 hn, Option.bind_some, g_1098 hn, Option.bind_some, Option.bind_some]
  rfl
theorem hw_99 {K : Int32 → uS → Option uS} {n v : Nat} {t : uS} (hn : n < 520) (hv : 9 ≤ v) (hi : fn_X12_is 2 t = some true) (w : ∀ (W : List Nat) (j : Nat), tagWd W j → ∀ U : uS, ol rnJ rnK rNo t U → fn_X12_wordIs W U = some (decide (v = j))) : fb_X12_how_0 K (nI n) t = (fb_X12_how_213 K (nI n) (-1) (-1) false true t) := by
  have w0 : fn_X12_wordIs kW_112 t = some false := by rw [w kW_112 0 tw_112 t ol_r, decide_eq_false (by omega)]
  have w1 : fn_X12_wordIs kW_113 t = some false := by rw [w kW_113 1 tw_113 t ol_r, decide_eq_false (by omega)]
  have w2 : fn_X12_wordIs kW_114 t = some false := by rw [w kW_114 2 tw_114 t ol_r, decide_eq_false (by omega)]
  have w3 : fn_X12_wordIs kW_115 t = some false := by rw [w kW_115 3 tw_115 t ol_r, decide_eq_false (by omega)]
  have w4 : fn_X12_wordIs kW_116 t = some false := by rw [w kW_116 4 tw_116 t ol_r, decide_eq_false (by omega)]
  have w5 : fn_X12_wordIs kW_120 t = some false := by rw [w kW_120 5 tw_120 t ol_r, decide_eq_false (by omega)]
  have w6 : fn_X12_wordIs kW_117 t = some false := by rw [w kW_117 6 tw_117 t ol_r, decide_eq_false (by omega)]
  have w7 : fn_X12_wordIs kW_118 t = some false := by rw [w kW_118 7 tw_118 t ol_r, decide_eq_false (by omega)]
  have w8 : fn_X12_wordIs kW_119 t = some false := by rw [w kW_119 8 tw_119 t ol_r, decide_eq_false (by omega)]
  unfold fb_X12_how_0
  rw [hi, Option.bind_some, if_pos rfl]
  rw [w0, Option.bind_some, if_neg (show ¬ false = true by decide), w1, Option.bind_some, if_neg (show ¬ false = true by decide), w2, Option.bind_some, if_neg (show ¬ false = true by decide), w3, Option.bind_some, if_neg (show ¬ false = true by decide), w4, Option.bind_some, if_neg (show ¬ false = true by decide)]
  unfold fb_X12_how_79
  rw [w6, Option.bind_some, if_neg (show ¬ false = true by decide), w7, Option.bind_some, if_neg (show ¬ false = true by decide), w8, Option.bind_some, if_neg (show ¬ false = true by decide)]
  unfold fb_X12_how_123
  rw [w5, Option.bind_some]
  rw [if_neg (show ¬ (0 : Int32) ≤ -1 by decide), if_neg (show ¬ (0 : Int32) ≤ -1 by decide), if_neg (show ¬ false = true by decide)]
