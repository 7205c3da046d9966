abbrev mX9_init : hM := (yX9_init, cX9_init, 3, none)
theorem dX9_init_0 : decode cX9_init 0 = .ok (.aload_n 0, 1) := by decide +kernel
theorem dX9_init_1 : decode cX9_init 1 = .ok (.invokespecial 3, 3) := by decide +kernel
theorem lX9_3 : Cond.methodLink RX9 3 objectInit ∈ lw_g := h_t1 55 rfl rfl
theorem dX9_init_4 : decode cX9_init 4 = .ok (.aload_n 0, 1) := by decide +kernel
theorem dX9_init_5 : decode cX9_init 5 = .ok (.iload_n 2, 1) := by decide +kernel
theorem dX9_init_6 : decode cX9_init 6 = .ok (.newarray .byte, 2) := by decide +kernel
theorem ac_byte : Cond.arrayClass .byte ∈ lw_g := h_t1 109 rfl rfl
theorem dX9_init_8 : decode cX9_init 8 = .ok (.putfield 9, 3) := by decide +kernel
theorem dX9_init_11 : decode cX9_init 11 = .ok (.aload_n 0, 1) := by decide +kernel
theorem dX9_init_12 : decode cX9_init 12 = .ok (.iload_n 1, 1) := by decide +kernel
theorem dX9_init_13 : decode cX9_init 13 = .ok (.newarray .int, 2) := by decide +kernel
theorem ac_int : Cond.arrayClass .int ∈ lw_g := h_t1 110 rfl rfl
theorem dX9_init_15 : decode cX9_init 15 = .ok (.putfield 13, 3) := by decide +kernel
theorem dX9_init_18 : decode cX9_init 18 = .ok (.aload_n 0, 1) := by decide +kernel
theorem dX9_init_19 : decode cX9_init 19 = .ok (.iload_n 1, 1) := by decide +kernel
theorem dX9_init_20 : decode cX9_init 20 = .ok (.newarray .int, 2) := by decide +kernel
theorem dX9_init_22 : decode cX9_init 22 = .ok (.putfield 17, 3) := by decide +kernel
theorem dX9_init_25 : decode cX9_init 25 = .ok (.return_, 1) := by decide +kernel
abbrev mX3_init : hM := (yX3_init, cX3_init, 1, none)
theorem dX3_init_0 : decode cX3_init 0 = .ok (.aload_n 0, 1) := by decide +kernel
theorem dX3_init_1 : decode cX3_init 1 = .ok (.invokespecial 1, 3) := by decide +kernel
theorem lX3_1 : Cond.methodLink RX3 1 objectInit ∈ lw_g := h_t1 150 rfl rfl
theorem dX3_init_4 : decode cX3_init 4 = .ok (.aload_n 0, 1) := by decide +kernel
theorem dX3_init_5 : decode cX3_init 5 = .ok (.bipush 12, 2) := by decide +kernel
theorem dX3_init_7 : decode cX3_init 7 = .ok (.newarray .int, 2) := by decide +kernel
theorem dX3_init_9 : decode cX3_init 9 = .ok (.putfield 9, 3) := by decide +kernel
theorem fX3_9 : h_fl RX3 9 3 13 RX3 TX3 15 := ⟨rfl, by decide, inX3, h_t1 184 rfl rfl⟩
theorem dX3_init_12 : decode cX3_init 12 = .ok (.aload_n 0, 1) := by decide +kernel
theorem dX3_init_13 : decode cX3_init 13 = .ok (.bipush 12, 2) := by decide +kernel
theorem dX3_init_15 : decode cX3_init 15 = .ok (.newarray .int, 2) := by decide +kernel
theorem dX3_init_17 : decode cX3_init 17 = .ok (.putfield 13, 3) := by decide +kernel
theorem fX3_13 : h_fl RX3 13 3 14 RX3 TX3 15 := ⟨rfl, by decide, inX3, h_t1 188 rfl rfl⟩
theorem dX3_init_20 : decode cX3_init 20 = .ok (.return_, 1) := by decide +kernel
abbrev mX5_init : hM := (yX5_init, cX5_init, 1, none)
theorem dX5_init_0 : decode cX5_init 0 = .ok (.aload_n 0, 1) := by decide +kernel
theorem dX5_init_1 : decode cX5_init 1 = .ok (.invokespecial 1, 3) := by decide +kernel
theorem lX5_1 : Cond.methodLink RX5 1 objectInit ∈ lw_g := h_t2 18 rfl rfl
theorem dX5_init_4 : decode cX5_init 4 = .ok (.aload_n 0, 1) := by decide +kernel
theorem dX5_init_5 : decode cX5_init 5 = .ok (.sipush 10000, 3) := by decide +kernel
theorem dX5_init_8 : decode cX5_init 8 = .ok (.newarray .byte, 2) := by decide +kernel
theorem dX5_init_10 : decode cX5_init 10 = .ok (.putfield 9, 3) := by decide +kernel
theorem fX5_9 : h_fl RX5 9 5 0 RX5 TX5 3 := ⟨rfl, by decide, inX5, h_t2 19 rfl rfl⟩
theorem dX5_init_13 : decode cX5_init 13 = .ok (.return_, 1) := by decide +kernel
abbrev mX2_init : hM := (yX2_init, cX2_init, 1, none)
theorem dX2_init_0 : decode cX2_init 0 = .ok (.aload_n 0, 1) := by decide +kernel
theorem dX2_init_1 : decode cX2_init 1 = .ok (.invokespecial 1, 3) := by decide +kernel
theorem lX2_1 : Cond.methodLink RX2 1 objectInit ∈ lw_g := h_t1 49 rfl rfl
theorem dX2_init_4 : decode cX2_init 4 = .ok (.aload_n 0, 1) := by decide +kernel
theorem dX2_init_5 : decode cX2_init 5 = .ok (.new 7, 3) := by decide +kernel
def fsX9 : List Value := [.null, .null, .null, .int 0, .int 0, .int 0]
theorem nX2_7 : h_nl RX2 7 9 RX9 TX9 6 fsX9 := ⟨rfl, inX9, ⟨tyX9, tyX9_ok, by decide +kernel⟩, h_t1 50 rfl rfl, h_t1 51 rfl rfl, h_t1 4 rfl rfl⟩
theorem dX2_init_8 : decode cX2_init 8 = .ok (.dup, 1) := by decide +kernel
theorem dX2_init_9 : decode cX2_init 9 = .ok (.sipush 301, 3) := by decide +kernel
theorem dX2_init_12 : decode cX2_init 12 = .ok (.sipush 2000, 3) := by decide +kernel
theorem dX2_init_15 : decode cX2_init 15 = .ok (.invokespecial 11, 3) := by decide +kernel
theorem kX9_init : h_ml mX9_init 2 := ⟨h_t1 54 rfl rfl, h_t1 4 rfl rfl, ⟨by decide, by decide, by decide +kernel⟩, by decide⟩
theorem sX9_init : mX9_init.1.name = "<init>" ∧ Cond.instanceMethod mX9_init.1 ∈ lw_g := ⟨rfl, h_t1 53 rfl rfl⟩
theorem lX2_11 : Cond.methodLink RX2 11 mX9_init.1 ∈ lw_g := h_t1 52 rfl rfl
theorem dX2_init_18 : decode cX2_init 18 = .ok (.putfield 14, 3) := by decide +kernel
theorem fX2_14 : h_fl RX2 14 2 0 RX2 TX2 9 := ⟨rfl, by decide, inX2, h_t1 111 rfl rfl⟩
theorem dX2_init_21 : decode cX2_init 21 = .ok (.aload_n 0, 1) := by decide +kernel
theorem dX2_init_22 : decode cX2_init 22 = .ok (.iconst 0, 1) := by decide +kernel
theorem dX2_init_23 : decode cX2_init 23 = .ok (.newarray .byte, 2) := by decide +kernel
theorem dX2_init_25 : decode cX2_init 25 = .ok (.putfield 18, 3) := by decide +kernel
theorem fX2_18 : h_fl RX2 18 2 1 RX2 TX2 9 := ⟨rfl, by decide, inX2, h_t1 115 rfl rfl⟩
theorem dX2_init_28 : decode cX2_init 28 = .ok (.return_, 1) := by decide +kernel
abbrev mX8_init : hM := (yX8_init, cX8_init, 1, none)
theorem dX8_init_0 : decode cX8_init 0 = .ok (.aload_n 0, 1) := by decide +kernel
theorem dX8_init_1 : decode cX8_init 1 = .ok (.invokespecial 1, 3) := by decide +kernel
theorem lX8_1 : Cond.methodLink RX8 1 objectInit ∈ lw_g := h_t2 33 rfl rfl
theorem dX8_init_4 : decode cX8_init 4 = .ok (.aload_n 0, 1) := by decide +kernel
theorem dX8_init_5 : decode cX8_init 5 = .ok (.new 7, 3) := by decide +kernel
theorem nX8_7 : h_nl RX8 7 9 RX9 TX9 6 fsX9 := ⟨rfl, inX9, ⟨tyX9, tyX9_ok, by decide +kernel⟩, h_t2 34 rfl rfl, h_t1 51 rfl rfl, h_t1 4 rfl rfl⟩
theorem dX8_init_8 : decode cX8_init 8 = .ok (.dup, 1) := by decide +kernel
theorem dX8_init_9 : decode cX8_init 9 = .ok (.iconst 3, 1) := by decide +kernel
theorem dX8_init_10 : decode cX8_init 10 = .ok (.sipush 6000, 3) := by decide +kernel
theorem dX8_init_13 : decode cX8_init 13 = .ok (.invokespecial 11, 3) := by decide +kernel
theorem lX8_11 : Cond.methodLink RX8 11 mX9_init.1 ∈ lw_g := h_t2 35 rfl rfl
theorem dX8_init_16 : decode cX8_init 16 = .ok (.putfield 14, 3) := by decide +kernel
theorem fX8_14 : h_fl RX8 14 8 0 RX8 TX8 8 := ⟨rfl, by decide, inX8, h_t2 36 rfl rfl⟩
theorem dX8_init_19 : decode cX8_init 19 = .ok (.aload_n 0, 1) := by decide +kernel
theorem dX8_init_20 : decode cX8_init 20 = .ok (.iconst 3, 1) := by decide +kernel
theorem dX8_init_21 : decode cX8_init 21 = .ok (.newarray .int, 2) := by decide +kernel
theorem dX8_init_23 : decode cX8_init 23 = .ok (.putfield 18, 3) := by decide +kernel
theorem fX8_18 : h_fl RX8 18 8 2 RX8 TX8 8 := ⟨rfl, by decide, inX8, h_t2 40 rfl rfl⟩
theorem dX8_init_26 : decode cX8_init 26 = .ok (.aload_n 0, 1) := by decide +kernel
theorem dX8_init_27 : decode cX8_init 27 = .ok (.bipush 13, 2) := by decide +kernel
theorem dX8_init_29 : decode cX8_init 29 = .ok (.newarray .byte, 2) := by decide +kernel
theorem dX8_init_31 : decode cX8_init 31 = .ok (.putfield 22, 3) := by decide +kernel
theorem fX8_22 : h_fl RX8 22 8 3 RX8 TX8 8 := ⟨rfl, by decide, inX8, h_t2 41 rfl rfl⟩
theorem dX8_init_34 : decode cX8_init 34 = .ok (.return_, 1) := by decide +kernel
abbrev mX0_init : hM := (yX0_init, cX0_init, 2, none)
theorem dX0_init_0 : decode cX0_init 0 = .ok (.aload_n 0, 1) := by decide +kernel
theorem dX0_init_1 : decode cX0_init 1 = .ok (.invokespecial 1, 3) := by decide +kernel
theorem lX0_1 : Cond.methodLink RX0 1 objectInit ∈ lw_g := h_t2 161 rfl rfl
theorem dX0_init_4 : decode cX0_init 4 = .ok (.aload_n 0, 1) := by decide +kernel
theorem dX0_init_5 : decode cX0_init 5 = .ok (.new 7, 3) := by decide +kernel
theorem nX0_7 : h_nl RX0 7 9 RX9 TX9 6 fsX9 := ⟨rfl, inX9, ⟨tyX9, tyX9_ok, by decide +kernel⟩, h_t2 162 rfl rfl, h_t1 51 rfl rfl, h_t1 4 rfl rfl⟩
theorem dX0_init_8 : decode cX0_init 8 = .ok (.dup, 1) := by decide +kernel
theorem dX0_init_9 : decode cX0_init 9 = .ok (.iconst 1, 1) := by decide +kernel
theorem dX0_init_10 : decode cX0_init 10 = .ok (.bipush 101, 2) := by decide +kernel
theorem dX0_init_12 : decode cX0_init 12 = .ok (.invokespecial 9, 3) := by decide +kernel
theorem lX0_9 : Cond.methodLink RX0 9 mX9_init.1 ∈ lw_g := h_t2 163 rfl rfl
theorem dX0_init_15 : decode cX0_init 15 = .ok (.putfield 12, 3) := by decide +kernel
theorem fX0_12 : h_fl RX0 12 0 0 RX0 TX0 12 := ⟨rfl, by decide, inX0, h_t2 164 rfl rfl⟩
theorem dX0_init_18 : decode cX0_init 18 = .ok (.aload_n 0, 1) := by decide +kernel
theorem dX0_init_19 : decode cX0_init 19 = .ok (.new 7, 3) := by decide +kernel
theorem dX0_init_22 : decode cX0_init 22 = .ok (.dup, 1) := by decide +kernel
theorem dX0_init_23 : decode cX0_init 23 = .ok (.iconst 4, 1) := by decide +kernel
theorem dX0_init_24 : decode cX0_init 24 = .ok (.sipush 404, 3) := by decide +kernel
theorem dX0_init_27 : decode cX0_init 27 = .ok (.invokespecial 9, 3) := by decide +kernel
theorem dX0_init_30 : decode cX0_init 30 = .ok (.putfield 18, 3) := by decide +kernel
theorem fX0_18 : h_fl RX0 18 0 1 RX0 TX0 12 := ⟨rfl, by decide, inX0, h_t2 168 rfl rfl⟩
theorem dX0_init_33 : decode cX0_init 33 = .ok (.aload_n 0, 1) := by decide +kernel
theorem dX0_init_34 : decode cX0_init 34 = .ok (.sipush 4000, 3) := by decide +kernel
theorem dX0_init_37 : decode cX0_init 37 = .ok (.newarray .byte, 2) := by decide +kernel
theorem dX0_init_39 : decode cX0_init 39 = .ok (.putfield 21, 3) := by decide +kernel
theorem fX0_21 : h_fl RX0 21 0 2 RX0 TX0 12 := ⟨rfl, by decide, inX0, h_t2 171 rfl rfl⟩
theorem dX0_init_42 : decode cX0_init 42 = .ok (.aload_n 0, 1) := by decide +kernel
theorem dX0_init_43 : decode cX0_init 43 = .ok (.sipush 501, 3) := by decide +kernel
theorem dX0_init_46 : decode cX0_init 46 = .ok (.newarray .byte, 2) := by decide +kernel
theorem dX0_init_48 : decode cX0_init 48 = .ok (.putfield 25, 3) := by decide +kernel
theorem fX0_25 : h_fl RX0 25 0 6 RX0 TX0 12 := ⟨rfl, by decide, inX0, h_t2 180 rfl rfl⟩
theorem dX0_init_51 : decode cX0_init 51 = .ok (.aload_n 0, 1) := by decide +kernel
theorem dX0_init_52 : decode cX0_init 52 = .ok (.aload_n 1, 1) := by decide +kernel
theorem dX0_init_53 : decode cX0_init 53 = .ok (.putfield 28, 3) := by decide +kernel
theorem fX0_28 : h_fl RX0 28 0 5 RX0 TX0 12 := ⟨rfl, by decide, inX0, h_t2 179 rfl rfl⟩
theorem dX0_init_56 : decode cX0_init 56 = .ok (.return_, 1) := by decide +kernel
abbrev mX6_init : hM := (yX6_init, cX6_init, 3, none)
theorem dX6_init_0 : decode cX6_init 0 = .ok (.aload_n 0, 1) := by decide +kernel
theorem dX6_init_1 : decode cX6_init 1 = .ok (.invokespecial 1, 3) := by decide +kernel
theorem lX6_1 : Cond.methodLink RX6 1 objectInit ∈ lw_g := h_t2 216 rfl rfl
theorem dX6_init_4 : decode cX6_init 4 = .ok (.aload_n 0, 1) := by decide +kernel
theorem dX6_init_5 : decode cX6_init 5 = .ok (.new 7, 3) := by decide +kernel
theorem nX6_7 : h_nl RX6 7 9 RX9 TX9 6 fsX9 := ⟨rfl, inX9, ⟨tyX9, tyX9_ok, by decide +kernel⟩, h_t2 217 rfl rfl, h_t1 51 rfl rfl, h_t1 4 rfl rfl⟩
theorem dX6_init_8 : decode cX6_init 8 = .ok (.dup, 1) := by decide +kernel
theorem dX6_init_9 : decode cX6_init 9 = .ok (.sipush 1001, 3) := by decide +kernel
theorem dX6_init_12 : decode cX6_init 12 = .ok (.sipush 4400, 3) := by decide +kernel
theorem dX6_init_15 : decode cX6_init 15 = .ok (.invokespecial 11, 3) := by decide +kernel
theorem lX6_11 : Cond.methodLink RX6 11 mX9_init.1 ∈ lw_g := h_t2 218 rfl rfl
theorem dX6_init_18 : decode cX6_init 18 = .ok (.putfield 14, 3) := by decide +kernel
theorem fX6_14 : h_fl RX6 14 6 0 RX6 TX6 6 := ⟨rfl, by decide, inX6, h_t2 219 rfl rfl⟩
theorem dX6_init_21 : decode cX6_init 21 = .ok (.aload_n 0, 1) := by decide +kernel
theorem dX6_init_22 : decode cX6_init 22 = .ok (.new 7, 3) := by decide +kernel
theorem dX6_init_25 : decode cX6_init 25 = .ok (.dup, 1) := by decide +kernel
theorem dX6_init_26 : decode cX6_init 26 = .ok (.sipush 1001, 3) := by decide +kernel
theorem dX6_init_29 : decode cX6_init 29 = .ok (.sipush 4400, 3) := by decide +kernel
theorem dX6_init_32 : decode cX6_init 32 = .ok (.invokespecial 11, 3) := by decide +kernel
theorem dX6_init_35 : decode cX6_init 35 = .ok (.putfield 18, 3) := by decide +kernel
theorem fX6_18 : h_fl RX6 18 6 1 RX6 TX6 6 := ⟨rfl, by decide, inX6, h_t2 220 rfl rfl⟩
theorem dX6_init_38 : decode cX6_init 38 = .ok (.aload_n 0, 1) := by decide +kernel
theorem dX6_init_39 : decode cX6_init 39 = .ok (.new 7, 3) := by decide +kernel
theorem dX6_init_42 : decode cX6_init 42 = .ok (.dup, 1) := by decide +kernel
theorem dX6_init_43 : decode cX6_init 43 = .ok (.sipush 1001, 3) := by decide +kernel
theorem dX6_init_46 : decode cX6_init 46 = .ok (.sipush 4400, 3) := by decide +kernel
theorem dX6_init_49 : decode cX6_init 49 = .ok (.invokespecial 11, 3) := by decide +kernel
theorem dX6_init_52 : decode cX6_init 52 = .ok (.putfield 21, 3) := by decide +kernel
theorem fX6_21 : h_fl RX6 21 6 2 RX6 TX6 6 := ⟨rfl, by decide, inX6, h_t2 222 rfl rfl⟩
theorem dX6_init_55 : decode cX6_init 55 = .ok (.aload_n 0, 1) := by decide +kernel
theorem dX6_init_56 : decode cX6_init 56 = .ok (.new 7, 3) := by decide +kernel
theorem dX6_init_59 : decode cX6_init 59 = .ok (.dup, 1) := by decide +kernel
theorem dX6_init_60 : decode cX6_init 60 = .ok (.iconst 1, 1) := by decide +kernel
theorem dX6_init_61 : decode cX6_init 61 = .ok (.bipush 10, 2) := by decide +kernel
theorem dX6_init_63 : decode cX6_init 63 = .ok (.invokespecial 11, 3) := by decide +kernel
theorem dX6_init_66 : decode cX6_init 66 = .ok (.putfield 24, 3) := by decide +kernel
theorem fX6_24 : h_fl RX6 24 6 3 RX6 TX6 6 := ⟨rfl, by decide, inX6, h_t2 223 rfl rfl⟩
theorem dX6_init_69 : decode cX6_init 69 = .ok (.aload_n 0, 1) := by decide +kernel
theorem dX6_init_70 : decode cX6_init 70 = .ok (.aload_n 1, 1) := by decide +kernel
theorem dX6_init_71 : decode cX6_init 71 = .ok (.putfield 27, 3) := by decide +kernel
theorem fX6_27 : h_fl RX6 27 6 5 RX6 TX6 6 := ⟨rfl, by decide, inX6, h_t2 225 rfl rfl⟩
theorem dX6_init_74 : decode cX6_init 74 = .ok (.aload_n 0, 1) := by decide +kernel
theorem dX6_init_75 : decode cX6_init 75 = .ok (.aload_n 2, 1) := by decide +kernel
theorem dX6_init_76 : decode cX6_init 76 = .ok (.putfield 31, 3) := by decide +kernel
theorem fX6_31 : h_fl RX6 31 6 4 RX6 TX6 6 := ⟨rfl, by decide, inX6, h_t2 224 rfl rfl⟩
theorem dX6_init_79 : decode cX6_init 79 = .ok (.return_, 1) := by decide +kernel
abbrev mX7_init : hM := (yX7_init, cX7_init, 3, none)
theorem dX7_init_0 : decode cX7_init 0 = .ok (.aload_n 0, 1) := by decide +kernel
theorem dX7_init_1 : decode cX7_init 1 = .ok (.invokespecial 1, 3) := by decide +kernel
theorem lX7_1 : Cond.methodLink RX7 1 objectInit ∈ lw_g := h_t3 5 rfl rfl
theorem dX7_init_4 : decode cX7_init 4 = .ok (.aload_n 0, 1) := by decide +kernel
theorem dX7_init_5 : decode cX7_init 5 = .ok (.bipush 6, 2) := by decide +kernel
theorem dX7_init_7 : decode cX7_init 7 = .ok (.newarray .int, 2) := by decide +kernel
theorem dX7_init_9 : decode cX7_init 9 = .ok (.putfield 9, 3) := by decide +kernel
theorem fX7_9 : h_fl RX7 9 7 0 RX7 TX7 20 := ⟨rfl, by decide, inX7, h_t3 8 rfl rfl⟩
theorem dX7_init_12 : decode cX7_init 12 = .ok (.aload_n 0, 1) := by decide +kernel
theorem dX7_init_13 : decode cX7_init 13 = .ok (.bipush 6, 2) := by decide +kernel
theorem dX7_init_15 : decode cX7_init 15 = .ok (.newarray .int, 2) := by decide +kernel
theorem dX7_init_17 : decode cX7_init 17 = .ok (.putfield 15, 3) := by decide +kernel
theorem fX7_15 : h_fl RX7 15 7 1 RX7 TX7 20 := ⟨rfl, by decide, inX7, h_t3 10 rfl rfl⟩
theorem dX7_init_20 : decode cX7_init 20 = .ok (.aload_n 0, 1) := by decide +kernel
theorem dX7_init_21 : decode cX7_init 21 = .ok (.bipush 6, 2) := by decide +kernel
theorem dX7_init_23 : decode cX7_init 23 = .ok (.newarray .int, 2) := by decide +kernel
theorem dX7_init_25 : decode cX7_init 25 = .ok (.putfield 18, 3) := by decide +kernel
theorem fX7_18 : h_fl RX7 18 7 2 RX7 TX7 20 := ⟨rfl, by decide, inX7, h_t3 12 rfl rfl⟩
theorem dX7_init_28 : decode cX7_init 28 = .ok (.aload_n 0, 1) := by decide +kernel
theorem dX7_init_29 : decode cX7_init 29 = .ok (.iconst 4, 1) := by decide +kernel
theorem dX7_init_30 : decode cX7_init 30 = .ok (.newarray .int, 2) := by decide +kernel
theorem dX7_init_32 : decode cX7_init 32 = .ok (.putfield 21, 3) := by decide +kernel
theorem fX7_21 : h_fl RX7 21 7 3 RX7 TX7 20 := ⟨rfl, by decide, inX7, h_t3 14 rfl rfl⟩
theorem dX7_init_35 : decode cX7_init 35 = .ok (.aload_n 0, 1) := by decide +kernel
theorem dX7_init_36 : decode cX7_init 36 = .ok (.new 24, 3) := by decide +kernel
theorem nX7_24 : h_nl RX7 24 9 RX9 TX9 6 fsX9 := ⟨rfl, inX9, ⟨tyX9, tyX9_ok, by decide +kernel⟩, h_t3 6 rfl rfl, h_t1 51 rfl rfl, h_t1 4 rfl rfl⟩
theorem dX7_init_39 : decode cX7_init 39 = .ok (.dup, 1) := by decide +kernel
theorem dX7_init_40 : decode cX7_init 40 = .ok (.iconst 1, 1) := by decide +kernel
theorem dX7_init_41 : decode cX7_init 41 = .ok (.sipush 6000, 3) := by decide +kernel
theorem dX7_init_44 : decode cX7_init 44 = .ok (.invokespecial 26, 3) := by decide +kernel
theorem lX7_26 : Cond.methodLink RX7 26 mX9_init.1 ∈ lw_g := h_t3 7 rfl rfl
theorem dX7_init_47 : decode cX7_init 47 = .ok (.putfield 29, 3) := by decide +kernel
theorem fX7_29 : h_fl RX7 29 7 4 RX7 TX7 20 := ⟨rfl, by decide, inX7, h_t3 16 rfl rfl⟩
theorem dX7_init_50 : decode cX7_init 50 = .ok (.aload_n 0, 1) := by decide +kernel
theorem dX7_init_51 : decode cX7_init 51 = .ok (.aload_n 1, 1) := by decide +kernel
theorem dX7_init_52 : decode cX7_init 52 = .ok (.putfield 33, 3) := by decide +kernel
theorem fX7_33 : h_fl RX7 33 7 18 RX7 TX7 20 := ⟨rfl, by decide, inX7, h_t3 36 rfl rfl⟩
theorem dX7_init_55 : decode cX7_init 55 = .ok (.aload_n 0, 1) := by decide +kernel
theorem dX7_init_56 : decode cX7_init 56 = .ok (.aload_n 2, 1) := by decide +kernel
theorem dX7_init_57 : decode cX7_init 57 = .ok (.putfield 37, 3) := by decide +kernel
theorem fX7_37 : h_fl RX7 37 7 19 RX7 TX7 20 := ⟨rfl, by decide, inX7, h_t3 37 rfl rfl⟩
theorem dX7_init_60 : decode cX7_init 60 = .ok (.return_, 1) := by decide +kernel
set_option maxRecDepth 100000 in
set_option maxHeartbeats 4000000 in
/-- Texts(most, bytes): three rows -/
theorem ct_T_init {l : Launch} {D : va_G} {A : Nat → ClassId} {B : Nat} {Z : State → Heap → Prop} (hZ : h_st B Z) {d : Nat} (hd1 : 1 ≤ d) {σ : hS} {a n0 s0 mo by_ : Nat} (z0 : σ.2.1 = n0) (y0 : σ.2.2 = s0) (ha : σ.1 a = some (.inr (9, [.null, .null, .null, .int 0, .int 0, .int 0]))) (hm : mo ≤ 10000 ∧ by_ ≤ 10000) (r1 : n0 + 3 ≤ B + 600000) (r2 : s0 + by_ + mo + mo ≤ 7302250) : Ct l D (h_ty A) B Z d mX9_init σ [.ref a, .int (nI mo), .int (nI by_)] (fun σ1 v => v = none ∧ cgr σ σ1 a 3 (by_ + mo + mo) ∧ σ1.1 a = some (.inr (9, [.ref n0, .ref (n0 + 1), .ref (n0 + 2), .int 0, .int 0, .int 0])) ∧ σ1.1 n0 = some (.inl (A 1, by_, .inl (fun _ => 0))) ∧ σ1.1 (n0 + 1) = some (.inl (A 0, mo, .inl (fun _ => 0))) ∧ σ1.1 (n0 + 2) = some (.inl (A 0, mo, .inl (fun _ => 0)))) := by
  have hCN : h_CN = 600000 := rfl
  have hCK : h_CK = 7302250 := rfl
  refine ct_of rfl hZ (Nat.le_of_ble_eq_true rfl) ?_
  show G _ _ _ _ _ _ _ _ _ _ 0 [(0, .ref a), (1, .int (nI mo)), (2, .int (nI by_))] []
  refine g_bd (fun hB1 hB2 hB3 hlt => ?_)
  have hla := hlt a _ ha
  refine g_aload_n dX9_init_0 rfl (List.mem_of_getElem? (i := 0) rfl) ?_
  refine g_obj lX9_3 h_oi h_oc (by omega) (Nat.le_of_ble_eq_true rfl) dX9_init_1 ?_
  refine g_aload_n dX9_init_4 rfl (List.mem_of_getElem? (i := 0) rfl) ?_
  refine g_iload_n dX9_init_5 rfl (List.mem_of_getElem? (i := 2) rfl) ?_
  refine g_newa (t0 := 1) (N := by_) (f := .inl (fun _ => 0)) rfl rfl (fun _ h => h) ac_byte hv_byte (nI_pos (by omega)) (nI_clamp (by omega)) (by show by_ * 1 ≤ _; omega) (by omega) (by omega) dX9_init_6 ?_
  refine g_eqv (.ref (n0)) (congrArg Value.ref z0) ?_
  refine g_gen (fun τ1 e1 => ?_)
  have z1 : τ1.2.1 = n0 + 1 := by rw [e1]; show _ + 1 = _; omega
  have y1 : τ1.2.2 = s0 + by_ := by rw [e1]; show _ + _ = _; omega
  refine g_put (ft := (.array .byte)) fX9_9 ptX9 (Or.inr ⟨rfl, rfl, rfl⟩) (h_nN e1 z0 (by omega) ha) (by decide +kernel) rfl rfl (Nat.le_of_ble_eq_true rfl) dX9_init_8 ?_
  refine g_gen (fun τ2 e2 => ?_)
  have z2 := h_z2 e2 z1
  have y2 := h_y2 e2 y1
  refine g_aload_n dX9_init_11 rfl (List.mem_of_getElem? (i := 0) rfl) ?_
  refine g_iload_n dX9_init_12 rfl (List.mem_of_getElem? (i := 1) rfl) ?_
  refine g_newa (t0 := 0) (N := mo) (f := .inl (fun _ => 0)) rfl rfl (fun _ h => h) ac_int hv_int (nI_pos (by omega)) (nI_clamp (by omega)) (by show mo * 4 ≤ _; omega) (by omega) (by omega) dX9_init_13 ?_
  refine g_eqv (.ref (n0 + 1)) (congrArg Value.ref z2) ?_
  refine g_gen (fun τ3 e3 => ?_)
  have z3 : τ3.2.1 = n0 + 2 := by rw [e3]; show _ + 1 = _; omega
  have y3 : τ3.2.2 = s0 + by_ + mo := by rw [e3]; show _ + _ = _; omega
  refine g_put (ft := (.array .int)) fX9_13 ptX9 (Or.inr ⟨rfl, rfl, rfl⟩) (h_nN e3 z2 (by omega) (h_eS e2)) (by decide +kernel) rfl rfl (Nat.le_of_ble_eq_true rfl) dX9_init_15 ?_
  refine g_gen (fun τ4 e4 => ?_)
  have z4 := h_z2 e4 z3
  have y4 := h_y2 e4 y3
  refine g_aload_n dX9_init_18 rfl (List.mem_of_getElem? (i := 0) rfl) ?_
  refine g_iload_n dX9_init_19 rfl (List.mem_of_getElem? (i := 1) rfl) ?_
  refine g_newa (t0 := 0) (N := mo) (f := .inl (fun _ => 0)) rfl rfl (fun _ h => h) ac_int hv_int (nI_pos (by omega)) (nI_clamp (by omega)) (by show mo * 4 ≤ _; omega) (by omega) (by omega) dX9_init_20 ?_
  refine g_eqv (.ref (n0 + 2)) (congrArg Value.ref z4) ?_
  refine g_gen (fun τ5 e5 => ?_)
  have z5 : τ5.2.1 = n0 + 3 := by rw [e5]; show _ + 1 = _; omega
  have y5 : τ5.2.2 = s0 + by_ + mo + mo := by rw [e5]; show _ + _ = _; omega
  refine g_put (ft := (.array .int)) fX9_17 ptX9 (Or.inr ⟨rfl, rfl, rfl⟩) (h_nN e5 z4 (by omega) (h_eS e4)) (by decide +kernel) rfl rfl (Nat.le_of_ble_eq_true rfl) dX9_init_22 ?_
  refine g_gen (fun τ6 e6 => ?_)
  have z6 := h_z2 e6 z5
  have y6 := h_y2 e6 y5
  exact g_vret rfl dX9_init_25 (⟨rfl, ⟨by omega, by omega, fun q h1 h2 => (h_nS e6 h1 (h_nN e5 z4 (by omega) (h_nS e4 h1 (h_nN e3 z2 (by omega) (h_nS e2 h1 (h_nN e1 z0 (by omega) rfl))))))⟩, (h_eS e6), (h_nS e6 (by omega) (h_nN e5 z4 (by omega) (h_nS e4 (by omega) (h_nN e3 z2 (by omega) (h_nS e2 (by omega) (h_eN e1 z0)))))), (h_nS e6 (by omega) (h_nN e5 z4 (by omega) (h_nS e4 (by omega) (h_eN e3 z2)))), (h_nS e6 (by omega) (h_eN e5 z4))⟩)
set_option maxRecDepth 100000 in
set_option maxHeartbeats 4000000 in
/-- Node() -/
theorem ct_X3_init {l : Launch} {D : va_G} {A : Nat → ClassId} {B : Nat} {Z : State → Heap → Prop} (hZ : h_st B Z) {d : Nat} (hd1 : 1 ≤ d) {σ : hS} {a n0 s0 : Nat} (z0 : σ.2.1 = n0) (y0 : σ.2.2 = s0) (ha : σ.1 a = some (.inr (3, [.int 0, .int 0, .int 0, .int 0, .int 0, .int 0, .int 0, .int 0, .int 0, .int 0, .int 0, .int 0, .int 0, .null, .null]))) (r1 : n0 + 2 ≤ B + 600000) (r2 : s0 + 24 ≤ 7302250) : Ct l D (h_ty A) B Z d mX3_init σ [.ref a] (fun σ1 v => v = none ∧ cgr σ σ1 a 2 24 ∧ σ1.1 (a) = some (.inr (3, [.int 0, .int 0, .int 0, .int 0, .int 0, .int 0, .int 0, .int 0, .int 0, .int 0, .int 0, .int 0, .int 0, .ref (n0 + 0), .ref (n0 + 1)])) ∧ σ1.1 (n0 + 0) = some (.inl (A 0, 12, .inl (fun _ => 0))) ∧ σ1.1 (n0 + 1) = some (.inl (A 0, 12, .inl (fun _ => 0)))) := by
  refine ct_of rfl hZ (Nat.le_of_ble_eq_true rfl) ?_
  show G _ _ _ _ _ _ _ _ _ _ 0 [(0, .ref a)] []
  refine g_bd (fun hB1 hB2 hB3 hlt => ?_)
  have hla : a < n0 := h_lq (hlt a _ ha) z0
  refine g_aload_n dX3_init_0 rfl (List.mem_of_getElem? (i := 0) rfl) ?_
  refine g_obj lX3_1 h_oi h_oc (by omega) (Nat.le_of_ble_eq_true rfl) dX3_init_1 ?_
  refine g_aload_n dX3_init_4 rfl (List.mem_of_getElem? (i := 0) rfl) ?_
  refine g_bipush (v := 12) dX3_init_5 (by decide) ?_
  refine g_newa (t0 := 0) (N := 12) (f := .inl (fun _ => 0)) rfl rfl (fun _ h => h) ac_int hv_int (by decide) (nI_clamp (n := 12) (by decide)) (by decide) (h_r1 (m := 0) z0 r1 (by decide)) (h_r2 (m := 0) y0 r2 (by decide)) dX3_init_7 ?_
  refine g_eqv (.ref (n0 + 0)) (congrArg Value.ref z0) ?_
  refine g_gen (fun τ1 e1 => ?_)
  have z1 : τ1.2.1 = n0 + 1 := h_z1 (k := 0) e1 z0
  have y1 : τ1.2.2 = s0 + 12 := h_y1 (k := 0) e1 y0
  refine g_put (ft := (.array .int)) fX3_9 ptX3 (Or.inr ⟨rfl, rfl, rfl⟩) (h_nN e1 z0 (h_al (j := 0) hla) ha) (by decide +kernel) rfl rfl (Nat.le_of_ble_eq_true rfl) dX3_init_9 ?_
  refine g_gen (fun τ2 e2 => ?_)
  have z2 := h_z2 e2 z1
  have y2 := h_y2 e2 y1
  refine g_aload_n dX3_init_12 rfl (List.mem_of_getElem? (i := 0) rfl) ?_
  refine g_bipush (v := 12) dX3_init_13 (by decide) ?_
  refine g_newa (t0 := 0) (N := 12) (f := .inl (fun _ => 0)) rfl rfl (fun _ h => h) ac_int hv_int (by decide) (nI_clamp (n := 12) (by decide)) (by decide) (h_r1 (m := 1) z2 r1 (by decide)) (h_r2 (m := 12) y2 r2 (by decide)) dX3_init_15 ?_
  refine g_eqv (.ref (n0 + 1)) (congrArg Value.ref z2) ?_
  refine g_gen (fun τ3 e3 => ?_)
  have z3 : τ3.2.1 = n0 + 2 := h_z1 (k := 1) e3 z2
  have y3 : τ3.2.2 = s0 + 24 := h_y1 (k := 12) e3 y2
  refine g_put (ft := (.array .int)) fX3_13 ptX3 (Or.inr ⟨rfl, rfl, rfl⟩) (h_nN e3 z2 (h_al (j := 1) hla) (h_eS e2)) (by decide +kernel) rfl rfl (Nat.le_of_ble_eq_true rfl) dX3_init_17 ?_
  refine g_gen (fun τ4 e4 => ?_)
  have z4 := h_z2 e4 z3
  have y4 := h_y2 e4 y3
  exact g_vret rfl dX3_init_20 (⟨rfl, ⟨by rw [z4, z0], by rw [y4, y0], fun q h1 h2 => have hq9 : q < n0 := h_lq h2 z0; (h_nS e4 h1 (h_nN e3 z2 (h_al (j := 1) hq9) (h_nS e2 h1 (h_nN e1 z0 (h_al (j := 0) hq9) rfl))))⟩, (h_eS e4), (h_nS e4 (h_ar (j := 0) hla) (h_nN e3 z2 (h_ad (n := n0) (i := 0) (j := 1) (by decide)) (h_nS e2 (h_ar (j := 0) hla) (h_eN e1 z0)))), (h_nS e4 (h_ar (j := 1) hla) (h_eN e3 z2))⟩)
set_option maxRecDepth 100000 in
set_option maxHeartbeats 4000000 in
/-- Queue() -/
theorem ct_X5_init {l : Launch} {D : va_G} {A : Nat → ClassId} {B : Nat} {Z : State → Heap → Prop} (hZ : h_st B Z) {d : Nat} (hd1 : 1 ≤ d) {σ : hS} {a n0 s0 : Nat} (z0 : σ.2.1 = n0) (y0 : σ.2.2 = s0) (ha : σ.1 a = some (.inr (5, [.null, .int 0, .int 0]))) (r1 : n0 + 1 ≤ B + 600000) (r2 : s0 + 10000 ≤ 7302250) : Ct l D (h_ty A) B Z d mX5_init σ [.ref a] (fun σ1 v => v = none ∧ cgr σ σ1 a 1 10000 ∧ σ1.1 (a) = some (.inr (5, [.ref (n0 + 0), .int 0, .int 0])) ∧ σ1.1 (n0 + 0) = some (.inl (A 1, 10000, .inl (fun _ => 0)))) := by
  refine ct_of rfl hZ (Nat.le_of_ble_eq_true rfl) ?_
  show G _ _ _ _ _ _ _ _ _ _ 0 [(0, .ref a)] []
  refine g_bd (fun hB1 hB2 hB3 hlt => ?_)
  have hla : a < n0 := h_lq (hlt a _ ha) z0
  refine g_aload_n dX5_init_0 rfl (List.mem_of_getElem? (i := 0) rfl) ?_
  refine g_obj lX5_1 h_oi h_oc (by omega) (Nat.le_of_ble_eq_true rfl) dX5_init_1 ?_
  refine g_aload_n dX5_init_4 rfl (List.mem_of_getElem? (i := 0) rfl) ?_
  refine g_sipush (v := 10000) dX5_init_5 (by decide) ?_
  refine g_newa (t0 := 1) (N := 10000) (f := .inl (fun _ => 0)) rfl rfl (fun _ h => h) ac_byte hv_byte (by decide) (nI_clamp (n := 10000) (by decide)) (by decide) (h_r1 (m := 0) z0 r1 (by decide)) (h_r2 (m := 0) y0 r2 (by decide)) dX5_init_8 ?_
  refine g_eqv (.ref (n0 + 0)) (congrArg Value.ref z0) ?_
  refine g_gen (fun τ1 e1 => ?_)
  have z1 : τ1.2.1 = n0 + 1 := h_z1 (k := 0) e1 z0
  have y1 : τ1.2.2 = s0 + 10000 := h_y1 (k := 0) e1 y0
  refine g_put (ft := (.array .byte)) fX5_9 ptX5 (Or.inr ⟨rfl, rfl, rfl⟩) (h_nN e1 z0 (h_al (j := 0) hla) ha) (by decide +kernel) rfl rfl (Nat.le_of_ble_eq_true rfl) dX5_init_10 ?_
  refine g_gen (fun τ2 e2 => ?_)
  have z2 := h_z2 e2 z1
  have y2 := h_y2 e2 y1
  exact g_vret rfl dX5_init_13 (⟨rfl, ⟨by rw [z2, z0], by rw [y2, y0], fun q h1 h2 => have hq9 : q < n0 := h_lq h2 z0; (h_nS e2 h1 (h_nN e1 z0 (h_al (j := 0) hq9) rfl))⟩, (h_eS e2), (h_nS e2 (h_ar (j := 0) hla) (h_eN e1 z0))⟩)
set_option maxRecDepth 100000 in
set_option maxHeartbeats 4000000 in
/-- Lexer() -/
theorem ct_X2_init {l : Launch} {D : va_G} {A : Nat → ClassId} {B : Nat} {Z : State → Heap → Prop} (hZ : h_st B Z) {d : Nat} (hd1 : 2 ≤ d) {σ : hS} {a n0 s0 : Nat} (z0 : σ.2.1 = n0) (y0 : σ.2.2 = s0) (ha : σ.1 a = some (.inr (2, [.null, .null, .int 0, .int 0, .int 0, .int 0, .int 0, .int 0, .int 0]))) (r1 : n0 + 5 ≤ B + 600000) (r2 : s0 + 2608 ≤ 7302250) : Ct l D (h_ty A) B Z d mX2_init σ [.ref a] (fun σ1 v => v = none ∧ cgr σ σ1 a 5 2608 ∧ σ1.1 (a) = some (.inr (2, [.ref (n0 + 0), .ref (n0 + 4), .int 0, .int 0, .int 0, .int 0, .int 0, .int 0, .int 0])) ∧ σ1.1 (n0 + 0) = some (.inr (9, [.ref (n0 + 1), .ref (n0 + 2), .ref (n0 + 3), .int 0, .int 0, .int 0])) ∧ σ1.1 (n0 + 1) = some (.inl (A 1, 2000, .inl (fun _ => 0))) ∧ σ1.1 (n0 + 2) = some (.inl (A 0, 301, .inl (fun _ => 0))) ∧ σ1.1 (n0 + 3) = some (.inl (A 0, 301, .inl (fun _ => 0))) ∧ σ1.1 (n0 + 4) = some (.inl (A 1, 0, .inl (fun _ => 0)))) := by
  refine ct_of rfl hZ (Nat.le_of_ble_eq_true rfl) ?_
  show G _ _ _ _ _ _ _ _ _ _ 0 [(0, .ref a)] []
  refine g_bd (fun hB1 hB2 hB3 hlt => ?_)
  have hla : a < n0 := h_lq (hlt a _ ha) z0
  refine g_aload_n dX2_init_0 rfl (List.mem_of_getElem? (i := 0) rfl) ?_
  refine g_obj lX2_1 h_oi h_oc (by omega) (Nat.le_of_ble_eq_true rfl) dX2_init_1 ?_
  refine g_aload_n dX2_init_4 rfl (List.mem_of_getElem? (i := 0) rfl) ?_
  refine g_new nX2_7 (h_r1 (m := 0) z0 r1 (by decide)) (h_r2 (m := 0) y0 r2 (by decide)) dX2_init_5 ?_
  refine g_eqv (.ref (n0 + 0)) (congrArg Value.ref z0) ?_
  refine g_gen (fun τ1 e1 => ?_)
  have z1 : τ1.2.1 = n0 + 1 := h_z1 (k := 0) e1 z0
  have y1 : τ1.2.2 = s0 + 6 := h_y1 (k := 0) e1 y0
  refine g_dup dX2_init_8 rfl ?_
  refine g_sipush (v := 301) dX2_init_9 (by decide) ?_
  refine g_sipush (v := 2000) dX2_init_12 (by decide) ?_
  refine g_ci (d1 := 1) (As := [.int 301, .int 2000]) (st := [.ref (n0 + 0), .ref a]) (ct_T_init hZ (by decide) (mo := 301) (by_ := 2000) z1 y1 (h_eN e1 z0) (by decide) (h_r3 (m := 1) r1 (by decide)) (h_r4 (m := 6) (j := 2602) r2 (by decide))) rfl kX9_init lX2_11 sX9_init (by omega) (Nat.le_of_ble_eq_true rfl) dX2_init_15 (fun τ15 v15 h15 z15 => ?_)
  obtain ⟨rfl, ⟨zz15, yy15, o15c⟩, q15a, q15b, q15c, q15d⟩ := h15
  have z15c : τ15.2.1 = n0 + 4 := h_z3 (k := 1) (j := 3) zz15 z1
  have y15c : τ15.2.2 = s0 + 2608 := h_z3 (k := 6) (j := 2602) yy15 y1
  show G _ _ _ _ _ _ _ _ _ _ 18 [(0, .ref a)] [.ref (n0 + 0), .ref a]
  refine g_put (ft := (.object "SortedMail$Texts")) fX2_14 ptX2 (Or.inr ⟨rfl, rfl, rfl⟩) ((o15c _ (h_al (j := 0) hla) (h_lo (m := 1) z1 hla)).trans (h_nN e1 z0 (h_al (j := 0) hla) ha)) (by decide +kernel) rfl rfl (Nat.le_of_ble_eq_true rfl) dX2_init_18 ?_
  refine g_gen (fun τ2 e2 => ?_)
  have z2 := h_z2 e2 z15c
  have y2 := h_y2 e2 y15c
  refine g_aload_n dX2_init_21 rfl (List.mem_of_getElem? (i := 0) rfl) ?_
  refine g_iconst (v := 0) dX2_init_22 (by decide) ?_
  refine g_newa (t0 := 1) (N := 0) (f := .inl (fun _ => 0)) rfl rfl (fun _ h => h) ac_byte hv_byte (by decide) (nI_clamp (n := 0) (by decide)) (by decide) (h_r1 (m := 4) z2 r1 (by decide)) (h_r2 (m := 2608) y2 r2 (by decide)) dX2_init_23 ?_
  refine g_eqv (.ref (n0 + 4)) (congrArg Value.ref z2) ?_
  refine g_gen (fun τ3 e3 => ?_)
  have z3 : τ3.2.1 = n0 + 5 := h_z1 (k := 4) e3 z2
  have y3 : τ3.2.2 = s0 + 2608 := h_y1 (k := 2608) e3 y2
  refine g_put (ft := (.array .byte)) fX2_18 ptX2 (Or.inl rfl) (h_nN e3 z2 (h_al (j := 4) hla) (h_eS e2)) (by decide +kernel) rfl rfl (Nat.le_of_ble_eq_true rfl) dX2_init_25 ?_
  refine g_gen (fun τ4 e4 => ?_)
  have z4 := h_z2 e4 z3
  have y4 := h_y2 e4 y3
  exact g_vret rfl dX2_init_28 (⟨rfl, ⟨by rw [z4, z0], by rw [y4, y0], fun q h1 h2 => have hq9 : q < n0 := h_lq h2 z0; (h_nS e4 h1 (h_nN e3 z2 (h_al (j := 4) hq9) (h_nS e2 h1 ((o15c q (h_al (j := 0) hq9) (h_lo (m := 1) z1 hq9)).trans (h_nN e1 z0 (h_al (j := 0) hq9) rfl)))))⟩, (h_eS e4), (h_nS e4 (h_ar (j := 0) hla) (h_nN e3 z2 (h_ad (n := n0) (i := 0) (j := 4) (by decide)) (h_nS e2 (h_ar (j := 0) hla) q15a))), (h_nS e4 (h_ar (j := 1) hla) (h_nN e3 z2 (h_ad (n := n0) (i := 1) (j := 4) (by decide)) (h_nS e2 (h_ar (j := 1) hla) q15b))), (h_nS e4 (h_ar (j := 2) hla) (h_nN e3 z2 (h_ad (n := n0) (i := 2) (j := 4) (by decide)) (h_nS e2 (h_ar (j := 2) hla) q15c))), (h_nS e4 (h_ar (j := 3) hla) (h_nN e3 z2 (h_ad (n := n0) (i := 3) (j := 4) (by decide)) (h_nS e2 (h_ar (j := 3) hla) q15d))), (h_nS e4 (h_ar (j := 4) hla) (h_eN e3 z2))⟩)
set_option maxRecDepth 100000 in
set_option maxHeartbeats 4000000 in
/-- ScriptSession() -/
theorem ct_X8_init {l : Launch} {D : va_G} {A : Nat → ClassId} {B : Nat} {Z : State → Heap → Prop} (hZ : h_st B Z) {d : Nat} (hd1 : 2 ≤ d) {σ : hS} {a n0 s0 : Nat} (z0 : σ.2.1 = n0) (y0 : σ.2.2 = s0) (ha : σ.1 a = some (.inr (8, [.null, .int 0, .null, .null, .int 0, .int 0, .int 0, .int 0]))) (r1 : n0 + 6 ≤ B + 600000) (r2 : s0 + 6028 ≤ 7302250) : Ct l D (h_ty A) B Z d mX8_init σ [.ref a] (fun σ1 v => v = none ∧ cgr σ σ1 a 6 6028 ∧ σ1.1 (a) = some (.inr (8, [.ref (n0 + 0), .int 0, .ref (n0 + 4), .ref (n0 + 5), .int 0, .int 0, .int 0, .int 0])) ∧ σ1.1 (n0 + 0) = some (.inr (9, [.ref (n0 + 1), .ref (n0 + 2), .ref (n0 + 3), .int 0, .int 0, .int 0])) ∧ σ1.1 (n0 + 1) = some (.inl (A 1, 6000, .inl (fun _ => 0))) ∧ σ1.1 (n0 + 2) = some (.inl (A 0, 3, .inl (fun _ => 0))) ∧ σ1.1 (n0 + 3) = some (.inl (A 0, 3, .inl (fun _ => 0))) ∧ σ1.1 (n0 + 4) = some (.inl (A 0, 3, .inl (fun _ => 0))) ∧ σ1.1 (n0 + 5) = some (.inl (A 1, 13, .inl (fun _ => 0)))) := by
  refine ct_of rfl hZ (Nat.le_of_ble_eq_true rfl) ?_
  show G _ _ _ _ _ _ _ _ _ _ 0 [(0, .ref a)] []
  refine g_bd (fun hB1 hB2 hB3 hlt => ?_)
  have hla : a < n0 := h_lq (hlt a _ ha) z0
  refine g_aload_n dX8_init_0 rfl (List.mem_of_getElem? (i := 0) rfl) ?_
  refine g_obj lX8_1 h_oi h_oc (by omega) (Nat.le_of_ble_eq_true rfl) dX8_init_1 ?_
  refine g_aload_n dX8_init_4 rfl (List.mem_of_getElem? (i := 0) rfl) ?_
  refine g_new nX8_7 (h_r1 (m := 0) z0 r1 (by decide)) (h_r2 (m := 0) y0 r2 (by decide)) dX8_init_5 ?_
  refine g_eqv (.ref (n0 + 0)) (congrArg Value.ref z0) ?_
  refine g_gen (fun τ1 e1 => ?_)
  have z1 : τ1.2.1 = n0 + 1 := h_z1 (k := 0) e1 z0
  have y1 : τ1.2.2 = s0 + 6 := h_y1 (k := 0) e1 y0
  refine g_dup dX8_init_8 rfl ?_
  refine g_iconst (v := 3) dX8_init_9 (by decide) ?_
  refine g_sipush (v := 6000) dX8_init_10 (by decide) ?_
  refine g_ci (d1 := 1) (As := [.int 3, .int 6000]) (st := [.ref (n0 + 0), .ref a]) (ct_T_init hZ (by decide) (mo := 3) (by_ := 6000) z1 y1 (h_eN e1 z0) (by decide) (h_r3 (m := 1) r1 (by decide)) (h_r4 (m := 6) (j := 6006) r2 (by decide))) rfl kX9_init lX8_11 sX9_init (by omega) (Nat.le_of_ble_eq_true rfl) dX8_init_13 (fun τ13 v13 h13 z13 => ?_)
  obtain ⟨rfl, ⟨zz13, yy13, o13c⟩, q13a, q13b, q13c, q13d⟩ := h13
  have z13c : τ13.2.1 = n0 + 4 := h_z3 (k := 1) (j := 3) zz13 z1
  have y13c : τ13.2.2 = s0 + 6012 := h_z3 (k := 6) (j := 6006) yy13 y1
  show G _ _ _ _ _ _ _ _ _ _ 16 [(0, .ref a)] [.ref (n0 + 0), .ref a]
  refine g_put (ft := (.object "SortedMail$Texts")) fX8_14 ptX8 (Or.inr ⟨rfl, rfl, rfl⟩) ((o13c _ (h_al (j := 0) hla) (h_lo (m := 1) z1 hla)).trans (h_nN e1 z0 (h_al (j := 0) hla) ha)) (by decide +kernel) rfl rfl (Nat.le_of_ble_eq_true rfl) dX8_init_16 ?_
  refine g_gen (fun τ2 e2 => ?_)
  have z2 := h_z2 e2 z13c
  have y2 := h_y2 e2 y13c
  refine g_aload_n dX8_init_19 rfl (List.mem_of_getElem? (i := 0) rfl) ?_
  refine g_iconst (v := 3) dX8_init_20 (by decide) ?_
  refine g_newa (t0 := 0) (N := 3) (f := .inl (fun _ => 0)) rfl rfl (fun _ h => h) ac_int hv_int (by decide) (nI_clamp (n := 3) (by decide)) (by decide) (h_r1 (m := 4) z2 r1 (by decide)) (h_r2 (m := 6012) y2 r2 (by decide)) dX8_init_21 ?_
  refine g_eqv (.ref (n0 + 4)) (congrArg Value.ref z2) ?_
  refine g_gen (fun τ3 e3 => ?_)
  have z3 : τ3.2.1 = n0 + 5 := h_z1 (k := 4) e3 z2
  have y3 : τ3.2.2 = s0 + 6015 := h_y1 (k := 6012) e3 y2
  refine g_put (ft := (.array .int)) fX8_18 ptX8 (Or.inr ⟨rfl, rfl, rfl⟩) (h_nN e3 z2 (h_al (j := 4) hla) (h_eS e2)) (by decide +kernel) rfl rfl (Nat.le_of_ble_eq_true rfl) dX8_init_23 ?_
  refine g_gen (fun τ4 e4 => ?_)
  have z4 := h_z2 e4 z3
  have y4 := h_y2 e4 y3
  refine g_aload_n dX8_init_26 rfl (List.mem_of_getElem? (i := 0) rfl) ?_
  refine g_bipush (v := 13) dX8_init_27 (by decide) ?_
  refine g_newa (t0 := 1) (N := 13) (f := .inl (fun _ => 0)) rfl rfl (fun _ h => h) ac_byte hv_byte (by decide) (nI_clamp (n := 13) (by decide)) (by decide) (h_r1 (m := 5) z4 r1 (by decide)) (h_r2 (m := 6015) y4 r2 (by decide)) dX8_init_29 ?_
  refine g_eqv (.ref (n0 + 5)) (congrArg Value.ref z4) ?_
  refine g_gen (fun τ5 e5 => ?_)
  have z5 : τ5.2.1 = n0 + 6 := h_z1 (k := 5) e5 z4
  have y5 : τ5.2.2 = s0 + 6028 := h_y1 (k := 6015) e5 y4
  refine g_put (ft := (.array .byte)) fX8_22 ptX8 (Or.inr ⟨rfl, rfl, rfl⟩) (h_nN e5 z4 (h_al (j := 5) hla) (h_eS e4)) (by decide +kernel) rfl rfl (Nat.le_of_ble_eq_true rfl) dX8_init_31 ?_
  refine g_gen (fun τ6 e6 => ?_)
  have z6 := h_z2 e6 z5
  have y6 := h_y2 e6 y5
  exact g_vret rfl dX8_init_34 (⟨rfl, ⟨by rw [z6, z0], by rw [y6, y0], fun q h1 h2 => have hq9 : q < n0 := h_lq h2 z0; (h_nS e6 h1 (h_nN e5 z4 (h_al (j := 5) hq9) (h_nS e4 h1 (h_nN e3 z2 (h_al (j := 4) hq9) (h_nS e2 h1 ((o13c q (h_al (j := 0) hq9) (h_lo (m := 1) z1 hq9)).trans (h_nN e1 z0 (h_al (j := 0) hq9) rfl)))))))⟩, (h_eS e6), (h_nS e6 (h_ar (j := 0) hla) (h_nN e5 z4 (h_ad (n := n0) (i := 0) (j := 5) (by decide)) (h_nS e4 (h_ar (j := 0) hla) (h_nN e3 z2 (h_ad (n := n0) (i := 0) (j := 4) (by decide)) (h_nS e2 (h_ar (j := 0) hla) q13a))))), (h_nS e6 (h_ar (j := 1) hla) (h_nN e5 z4 (h_ad (n := n0) (i := 1) (j := 5) (by decide)) (h_nS e4 (h_ar (j := 1) hla) (h_nN e3 z2 (h_ad (n := n0) (i := 1) (j := 4) (by decide)) (h_nS e2 (h_ar (j := 1) hla) q13b))))), (h_nS e6 (h_ar (j := 2) hla) (h_nN e5 z4 (h_ad (n := n0) (i := 2) (j := 5) (by decide)) (h_nS e4 (h_ar (j := 2) hla) (h_nN e3 z2 (h_ad (n := n0) (i := 2) (j := 4) (by decide)) (h_nS e2 (h_ar (j := 2) hla) q13c))))), (h_nS e6 (h_ar (j := 3) hla) (h_nN e5 z4 (h_ad (n := n0) (i := 3) (j := 5) (by decide)) (h_nS e4 (h_ar (j := 3) hla) (h_nN e3 z2 (h_ad (n := n0) (i := 3) (j := 4) (by decide)) (h_nS e2 (h_ar (j := 3) hla) q13d))))), (h_nS e6 (h_ar (j := 4) hla) (h_nN e5 z4 (h_ad (n := n0) (i := 4) (j := 5) (by decide)) (h_nS e4 (h_ar (j := 4) hla) (h_eN e3 z2)))), (h_nS e6 (h_ar (j := 5) hla) (h_eN e5 z4))⟩)
set_option maxRecDepth 100000 in
set_option maxHeartbeats 4000000 in
/-- Delivery(answers) -/
theorem ct_X0_init {l : Launch} {D : va_G} {A : Nat → ClassId} {B : Nat} {Z : State → Heap → Prop} (hZ : h_st B Z) {d : Nat} (hd1 : 2 ≤ d) {σ : hS} {a n0 s0 : Nat} {qa : Nat} (z0 : σ.2.1 = n0) (y0 : σ.2.2 = s0) (ha : σ.1 a = some (.inr (0, [.null, .null, .null, .int 0, .int 0, .null, .null, .int 0, .int 0, .int 0, .int 0, .int 0]))) (r1 : n0 + 10 ≤ B + 600000) (r2 : s0 + 5028 ≤ 7302250) : Ct l D (h_ty A) B Z d mX0_init σ [.ref a, .ref qa] (fun σ1 v => v = none ∧ cgr σ σ1 a 10 5028 ∧ σ1.1 (a) = some (.inr (0, [.ref (n0 + 0), .ref (n0 + 4), .ref (n0 + 8), .int 0, .int 0, .ref qa, .ref (n0 + 9), .int 0, .int 0, .int 0, .int 0, .int 0])) ∧ σ1.1 (n0 + 0) = some (.inr (9, [.ref (n0 + 1), .ref (n0 + 2), .ref (n0 + 3), .int 0, .int 0, .int 0])) ∧ σ1.1 (n0 + 1) = some (.inl (A 1, 101, .inl (fun _ => 0))) ∧ σ1.1 (n0 + 2) = some (.inl (A 0, 1, .inl (fun _ => 0))) ∧ σ1.1 (n0 + 3) = some (.inl (A 0, 1, .inl (fun _ => 0))) ∧ σ1.1 (n0 + 4) = some (.inr (9, [.ref (n0 + 5), .ref (n0 + 6), .ref (n0 + 7), .int 0, .int 0, .int 0])) ∧ σ1.1 (n0 + 5) = some (.inl (A 1, 404, .inl (fun _ => 0))) ∧ σ1.1 (n0 + 6) = some (.inl (A 0, 4, .inl (fun _ => 0))) ∧ σ1.1 (n0 + 7) = some (.inl (A 0, 4, .inl (fun _ => 0))) ∧ σ1.1 (n0 + 8) = some (.inl (A 1, 4000, .inl (fun _ => 0))) ∧ σ1.1 (n0 + 9) = some (.inl (A 1, 501, .inl (fun _ => 0)))) := by
  refine ct_of rfl hZ (Nat.le_of_ble_eq_true rfl) ?_
  show G _ _ _ _ _ _ _ _ _ _ 0 [(0, .ref a), (1, .ref qa)] []
  refine g_bd (fun hB1 hB2 hB3 hlt => ?_)
  have hla : a < n0 := h_lq (hlt a _ ha) z0
  refine g_aload_n dX0_init_0 rfl (List.mem_of_getElem? (i := 0) rfl) ?_
  refine g_obj lX0_1 h_oi h_oc (by omega) (Nat.le_of_ble_eq_true rfl) dX0_init_1 ?_
  refine g_aload_n dX0_init_4 rfl (List.mem_of_getElem? (i := 0) rfl) ?_
  refine g_new nX0_7 (h_r1 (m := 0) z0 r1 (by decide)) (h_r2 (m := 0) y0 r2 (by decide)) dX0_init_5 ?_
  refine g_eqv (.ref (n0 + 0)) (congrArg Value.ref z0) ?_
  refine g_gen (fun τ1 e1 => ?_)
  have z1 : τ1.2.1 = n0 + 1 := h_z1 (k := 0) e1 z0
  have y1 : τ1.2.2 = s0 + 6 := h_y1 (k := 0) e1 y0
  refine g_dup dX0_init_8 rfl ?_
  refine g_iconst (v := 1) dX0_init_9 (by decide) ?_
  refine g_bipush (v := 101) dX0_init_10 (by decide) ?_
  refine g_ci (d1 := 1) (As := [.int 1, .int 101]) (st := [.ref (n0 + 0), .ref a]) (ct_T_init hZ (by decide) (mo := 1) (by_ := 101) z1 y1 (h_eN e1 z0) (by decide) (h_r3 (m := 1) r1 (by decide)) (h_r4 (m := 6) (j := 103) r2 (by decide))) rfl kX9_init lX0_9 sX9_init (by omega) (Nat.le_of_ble_eq_true rfl) dX0_init_12 (fun τ12 v12 h12 z12 => ?_)
  obtain ⟨rfl, ⟨zz12, yy12, o12c⟩, q12a, q12b, q12c, q12d⟩ := h12
  have z12c : τ12.2.1 = n0 + 4 := h_z3 (k := 1) (j := 3) zz12 z1
  have y12c : τ12.2.2 = s0 + 109 := h_z3 (k := 6) (j := 103) yy12 y1
  show G _ _ _ _ _ _ _ _ _ _ 15 [(0, .ref a), (1, .ref qa)] [.ref (n0 + 0), .ref a]
  refine g_put (ft := (.object "SortedMail$Texts")) fX0_12 ptX0 (Or.inr ⟨rfl, rfl, rfl⟩) ((o12c _ (h_al (j := 0) hla) (h_lo (m := 1) z1 hla)).trans (h_nN e1 z0 (h_al (j := 0) hla) ha)) (by decide +kernel) rfl rfl (Nat.le_of_ble_eq_true rfl) dX0_init_15 ?_
  refine g_gen (fun τ2 e2 => ?_)
  have z2 := h_z2 e2 z12c
  have y2 := h_y2 e2 y12c
  refine g_aload_n dX0_init_18 rfl (List.mem_of_getElem? (i := 0) rfl) ?_
  refine g_new nX0_7 (h_r1 (m := 4) z2 r1 (by decide)) (h_r2 (m := 109) y2 r2 (by decide)) dX0_init_19 ?_
  refine g_eqv (.ref (n0 + 4)) (congrArg Value.ref z2) ?_
  refine g_gen (fun τ3 e3 => ?_)
  have z3 : τ3.2.1 = n0 + 5 := h_z1 (k := 4) e3 z2
  have y3 : τ3.2.2 = s0 + 115 := h_y1 (k := 109) e3 y2
  refine g_dup dX0_init_22 rfl ?_
  refine g_iconst (v := 4) dX0_init_23 (by decide) ?_
  refine g_sipush (v := 404) dX0_init_24 (by decide) ?_
  refine g_ci (d1 := 1) (As := [.int 4, .int 404]) (st := [.ref (n0 + 4), .ref a]) (ct_T_init hZ (by decide) (mo := 4) (by_ := 404) z3 y3 (h_eN e3 z2) (by decide) (h_r3 (m := 5) r1 (by decide)) (h_r4 (m := 115) (j := 412) r2 (by decide))) rfl kX9_init lX0_9 sX9_init (by omega) (Nat.le_of_ble_eq_true rfl) dX0_init_27 (fun τ27 v27 h27 z27 => ?_)
  obtain ⟨rfl, ⟨zz27, yy27, o27c⟩, q27a, q27b, q27c, q27d⟩ := h27
  have z27c : τ27.2.1 = n0 + 8 := h_z3 (k := 5) (j := 3) zz27 z3
  have y27c : τ27.2.2 = s0 + 527 := h_z3 (k := 115) (j := 412) yy27 y3
  show G _ _ _ _ _ _ _ _ _ _ 30 [(0, .ref a), (1, .ref qa)] [.ref (n0 + 4), .ref a]
  refine g_put (ft := (.object "SortedMail$Texts")) fX0_18 ptX0 (Or.inr ⟨rfl, rfl, rfl⟩) ((o27c _ (h_al (j := 4) hla) (h_lo (m := 5) z3 hla)).trans (h_nN e3 z2 (h_al (j := 4) hla) (h_eS e2))) (by decide +kernel) rfl rfl (Nat.le_of_ble_eq_true rfl) dX0_init_30 ?_
  refine g_gen (fun τ4 e4 => ?_)
  have z4 := h_z2 e4 z27c
  have y4 := h_y2 e4 y27c
  refine g_aload_n dX0_init_33 rfl (List.mem_of_getElem? (i := 0) rfl) ?_
  refine g_sipush (v := 4000) dX0_init_34 (by decide) ?_
  refine g_newa (t0 := 1) (N := 4000) (f := .inl (fun _ => 0)) rfl rfl (fun _ h => h) ac_byte hv_byte (by decide) (nI_clamp (n := 4000) (by decide)) (by decide) (h_r1 (m := 8) z4 r1 (by decide)) (h_r2 (m := 527) y4 r2 (by decide)) dX0_init_37 ?_
  refine g_eqv (.ref (n0 + 8)) (congrArg Value.ref z4) ?_
  refine g_gen (fun τ5 e5 => ?_)
  have z5 : τ5.2.1 = n0 + 9 := h_z1 (k := 8) e5 z4
  have y5 : τ5.2.2 = s0 + 4527 := h_y1 (k := 527) e5 y4
  refine g_put (ft := (.array .byte)) fX0_21 ptX0 (Or.inr ⟨rfl, rfl, rfl⟩) (h_nN e5 z4 (h_al (j := 8) hla) (h_eS e4)) (by decide +kernel) rfl rfl (Nat.le_of_ble_eq_true rfl) dX0_init_39 ?_
  refine g_gen (fun τ6 e6 => ?_)
  have z6 := h_z2 e6 z5
  have y6 := h_y2 e6 y5
  refine g_aload_n dX0_init_42 rfl (List.mem_of_getElem? (i := 0) rfl) ?_
  refine g_sipush (v := 501) dX0_init_43 (by decide) ?_
  refine g_newa (t0 := 1) (N := 501) (f := .inl (fun _ => 0)) rfl rfl (fun _ h => h) ac_byte hv_byte (by decide) (nI_clamp (n := 501) (by decide)) (by decide) (h_r1 (m := 9) z6 r1 (by decide)) (h_r2 (m := 4527) y6 r2 (by decide)) dX0_init_46 ?_
  refine g_eqv (.ref (n0 + 9)) (congrArg Value.ref z6) ?_
  refine g_gen (fun τ7 e7 => ?_)
  have z7 : τ7.2.1 = n0 + 10 := h_z1 (k := 9) e7 z6
  have y7 : τ7.2.2 = s0 + 5028 := h_y1 (k := 4527) e7 y6
  refine g_put (ft := (.array .byte)) fX0_25 ptX0 (Or.inr ⟨rfl, rfl, rfl⟩) (h_nN e7 z6 (h_al (j := 9) hla) (h_eS e6)) (by decide +kernel) rfl rfl (Nat.le_of_ble_eq_true rfl) dX0_init_48 ?_
  refine g_gen (fun τ8 e8 => ?_)
  have z8 := h_z2 e8 z7
  have y8 := h_y2 e8 y7
  refine g_aload_n dX0_init_51 rfl (List.mem_of_getElem? (i := 0) rfl) ?_
  refine g_aload_n dX0_init_52 rfl (List.mem_of_getElem? (i := 1) rfl) ?_
  refine g_put (ft := (.object "SortedMail$Queue")) fX0_28 ptX0 (Or.inr ⟨rfl, rfl, rfl⟩) (h_eS e8) (by decide +kernel) rfl rfl (Nat.le_of_ble_eq_true rfl) dX0_init_53 ?_
  refine g_gen (fun τ9 e9 => ?_)
  have z9 := h_z2 e9 z8
  have y9 := h_y2 e9 y8
  exact g_vret rfl dX0_init_56 (⟨rfl, ⟨by rw [z9, z0], by rw [y9, y0], fun q h1 h2 => have hq9 : q < n0 := h_lq h2 z0; (h_nS e9 h1 (h_nS e8 h1 (h_nN e7 z6 (h_al (j := 9) hq9) (h_nS e6 h1 (h_nN e5 z4 (h_al (j := 8) hq9) (h_nS e4 h1 ((o27c q (h_al (j := 4) hq9) (h_lo (m := 5) z3 hq9)).trans (h_nN e3 z2 (h_al (j := 4) hq9) (h_nS e2 h1 ((o12c q (h_al (j := 0) hq9) (h_lo (m := 1) z1 hq9)).trans (h_nN e1 z0 (h_al (j := 0) hq9) rfl)))))))))))⟩, (h_eS e9), (h_nS e9 (h_ar (j := 0) hla) (h_nS e8 (h_ar (j := 0) hla) (h_nN e7 z6 (h_ad (n := n0) (i := 0) (j := 9) (by decide)) (h_nS e6 (h_ar (j := 0) hla) (h_nN e5 z4 (h_ad (n := n0) (i := 0) (j := 8) (by decide)) (h_nS e4 (h_ar (j := 0) hla) ((o27c _ (h_ad (n := n0) (i := 0) (j := 4) (by decide)) (h_lk (i := 0) (m := 5) z3 (by decide))).trans (h_nN e3 z2 (h_ad (n := n0) (i := 0) (j := 4) (by decide)) (h_nS e2 (h_ar (j := 0) hla) q12a))))))))), (h_nS e9 (h_ar (j := 1) hla) (h_nS e8 (h_ar (j := 1) hla) (h_nN e7 z6 (h_ad (n := n0) (i := 1) (j := 9) (by decide)) (h_nS e6 (h_ar (j := 1) hla) (h_nN e5 z4 (h_ad (n := n0) (i := 1) (j := 8) (by decide)) (h_nS e4 (h_ar (j := 1) hla) ((o27c _ (h_ad (n := n0) (i := 1) (j := 4) (by decide)) (h_lk (i := 1) (m := 5) z3 (by decide))).trans (h_nN e3 z2 (h_ad (n := n0) (i := 1) (j := 4) (by decide)) (h_nS e2 (h_ar (j := 1) hla) q12b))))))))), (h_nS e9 (h_ar (j := 2) hla) (h_nS e8 (h_ar (j := 2) hla) (h_nN e7 z6 (h_ad (n := n0) (i := 2) (j := 9) (by decide)) (h_nS e6 (h_ar (j := 2) hla) (h_nN e5 z4 (h_ad (n := n0) (i := 2) (j := 8) (by decide)) (h_nS e4 (h_ar (j := 2) hla) ((o27c _ (h_ad (n := n0) (i := 2) (j := 4) (by decide)) (h_lk (i := 2) (m := 5) z3 (by decide))).trans (h_nN e3 z2 (h_ad (n := n0) (i := 2) (j := 4) (by decide)) (h_nS e2 (h_ar (j := 2) hla) q12c))))))))), (h_nS e9 (h_ar (j := 3) hla) (h_nS e8 (h_ar (j := 3) hla) (h_nN e7 z6 (h_ad (n := n0) (i := 3) (j := 9) (by decide)) (h_nS e6 (h_ar (j := 3) hla) (h_nN e5 z4 (h_ad (n := n0) (i := 3) (j := 8) (by decide)) (h_nS e4 (h_ar (j := 3) hla) ((o27c _ (h_ad (n := n0) (i := 3) (j := 4) (by decide)) (h_lk (i := 3) (m := 5) z3 (by decide))).trans (h_nN e3 z2 (h_ad (n := n0) (i := 3) (j := 4) (by decide)) (h_nS e2 (h_ar (j := 3) hla) q12d))))))))), (h_nS e9 (h_ar (j := 4) hla) (h_nS e8 (h_ar (j := 4) hla) (h_nN e7 z6 (h_ad (n := n0) (i := 4) (j := 9) (by decide)) (h_nS e6 (h_ar (j := 4) hla) (h_nN e5 z4 (h_ad (n := n0) (i := 4) (j := 8) (by decide)) (h_nS e4 (h_ar (j := 4) hla) q27a)))))), (h_nS e9 (h_ar (j := 5) hla) (h_nS e8 (h_ar (j := 5) hla) (h_nN e7 z6 (h_ad (n := n0) (i := 5) (j := 9) (by decide)) (h_nS e6 (h_ar (j := 5) hla) (h_nN e5 z4 (h_ad (n := n0) (i := 5) (j := 8) (by decide)) (h_nS e4 (h_ar (j := 5) hla) q27b)))))), (h_nS e9 (h_ar (j := 6) hla) (h_nS e8 (h_ar (j := 6) hla) (h_nN e7 z6 (h_ad (n := n0) (i := 6) (j := 9) (by decide)) (h_nS e6 (h_ar (j := 6) hla) (h_nN e5 z4 (h_ad (n := n0) (i := 6) (j := 8) (by decide)) (h_nS e4 (h_ar (j := 6) hla) q27c)))))), (h_nS e9 (h_ar (j := 7) hla) (h_nS e8 (h_ar (j := 7) hla) (h_nN e7 z6 (h_ad (n := n0) (i := 7) (j := 9) (by decide)) (h_nS e6 (h_ar (j := 7) hla) (h_nN e5 z4 (h_ad (n := n0) (i := 7) (j := 8) (by decide)) (h_nS e4 (h_ar (j := 7) hla) q27d)))))), (h_nS e9 (h_ar (j := 8) hla) (h_nS e8 (h_ar (j := 8) hla) (h_nN e7 z6 (h_ad (n := n0) (i := 8) (j := 9) (by decide)) (h_nS e6 (h_ar (j := 8) hla) (h_eN e5 z4))))), (h_nS e9 (h_ar (j := 9) hla) (h_nS e8 (h_ar (j := 9) hla) (h_eN e7 z6)))⟩)
set_option maxRecDepth 100000 in
set_option maxHeartbeats 4000000 in
/-- Reader(delivery, strings) -/
theorem ct_X6_init {l : Launch} {D : va_G} {A : Nat → ClassId} {B : Nat} {Z : State → Heap → Prop} (hZ : h_st B Z) {d : Nat} (hd1 : 2 ≤ d) {σ : hS} {a n0 s0 : Nat} {de ss : Nat} (z0 : σ.2.1 = n0) (y0 : σ.2.2 = s0) (ha : σ.1 a = some (.inr (6, [.null, .null, .null, .null, .null, .null]))) (r1 : n0 + 16 ≤ B + 600000) (r2 : s0 + 19242 ≤ 7302250) : Ct l D (h_ty A) B Z d mX6_init σ [.ref a, .ref de, .ref ss] (fun σ1 v => v = none ∧ cgr σ σ1 a 16 19242 ∧ σ1.1 (a) = some (.inr (6, [.ref (n0 + 0), .ref (n0 + 4), .ref (n0 + 8), .ref (n0 + 12), .ref ss, .ref de])) ∧ σ1.1 (n0 + 0) = some (.inr (9, [.ref (n0 + 1), .ref (n0 + 2), .ref (n0 + 3), .int 0, .int 0, .int 0])) ∧ σ1.1 (n0 + 1) = some (.inl (A 1, 4400, .inl (fun _ => 0))) ∧ σ1.1 (n0 + 2) = some (.inl (A 0, 1001, .inl (fun _ => 0))) ∧ σ1.1 (n0 + 3) = some (.inl (A 0, 1001, .inl (fun _ => 0))) ∧ σ1.1 (n0 + 4) = some (.inr (9, [.ref (n0 + 5), .ref (n0 + 6), .ref (n0 + 7), .int 0, .int 0, .int 0])) ∧ σ1.1 (n0 + 5) = some (.inl (A 1, 4400, .inl (fun _ => 0))) ∧ σ1.1 (n0 + 6) = some (.inl (A 0, 1001, .inl (fun _ => 0))) ∧ σ1.1 (n0 + 7) = some (.inl (A 0, 1001, .inl (fun _ => 0))) ∧ σ1.1 (n0 + 8) = some (.inr (9, [.ref (n0 + 9), .ref (n0 + 10), .ref (n0 + 11), .int 0, .int 0, .int 0])) ∧ σ1.1 (n0 + 9) = some (.inl (A 1, 4400, .inl (fun _ => 0))) ∧ σ1.1 (n0 + 10) = some (.inl (A 0, 1001, .inl (fun _ => 0))) ∧ σ1.1 (n0 + 11) = some (.inl (A 0, 1001, .inl (fun _ => 0))) ∧ σ1.1 (n0 + 12) = some (.inr (9, [.ref (n0 + 13), .ref (n0 + 14), .ref (n0 + 15), .int 0, .int 0, .int 0])) ∧ σ1.1 (n0 + 13) = some (.inl (A 1, 10, .inl (fun _ => 0))) ∧ σ1.1 (n0 + 14) = some (.inl (A 0, 1, .inl (fun _ => 0))) ∧ σ1.1 (n0 + 15) = some (.inl (A 0, 1, .inl (fun _ => 0)))) := by
  refine ct_of rfl hZ (Nat.le_of_ble_eq_true rfl) ?_
  show G _ _ _ _ _ _ _ _ _ _ 0 [(0, .ref a), (1, .ref de), (2, .ref ss)] []
  refine g_bd (fun hB1 hB2 hB3 hlt => ?_)
  have hla : a < n0 := h_lq (hlt a _ ha) z0
  refine g_aload_n dX6_init_0 rfl (List.mem_of_getElem? (i := 0) rfl) ?_
  refine g_obj lX6_1 h_oi h_oc (by omega) (Nat.le_of_ble_eq_true rfl) dX6_init_1 ?_
  refine g_aload_n dX6_init_4 rfl (List.mem_of_getElem? (i := 0) rfl) ?_
  refine g_new nX6_7 (h_r1 (m := 0) z0 r1 (by decide)) (h_r2 (m := 0) y0 r2 (by decide)) dX6_init_5 ?_
  refine g_eqv (.ref (n0 + 0)) (congrArg Value.ref z0) ?_
  refine g_gen (fun τ1 e1 => ?_)
  have z1 : τ1.2.1 = n0 + 1 := h_z1 (k := 0) e1 z0
  have y1 : τ1.2.2 = s0 + 6 := h_y1 (k := 0) e1 y0
  refine g_dup dX6_init_8 rfl ?_
  refine g_sipush (v := 1001) dX6_init_9 (by decide) ?_
  refine g_sipush (v := 4400) dX6_init_12 (by decide) ?_
  refine g_ci (d1 := 1) (As := [.int 1001, .int 4400]) (st := [.ref (n0 + 0), .ref a]) (ct_T_init hZ (by decide) (mo := 1001) (by_ := 4400) z1 y1 (h_eN e1 z0) (by decide) (h_r3 (m := 1) r1 (by decide)) (h_r4 (m := 6) (j := 6402) r2 (by decide))) rfl kX9_init lX6_11 sX9_init (by omega) (Nat.le_of_ble_eq_true rfl) dX6_init_15 (fun τ15 v15 h15 z15 => ?_)
  obtain ⟨rfl, ⟨zz15, yy15, o15c⟩, q15a, q15b, q15c, q15d⟩ := h15
  have z15c : τ15.2.1 = n0 + 4 := h_z3 (k := 1) (j := 3) zz15 z1
  have y15c : τ15.2.2 = s0 + 6408 := h_z3 (k := 6) (j := 6402) yy15 y1
  show G _ _ _ _ _ _ _ _ _ _ 18 [(0, .ref a), (1, .ref de), (2, .ref ss)] [.ref (n0 + 0), .ref a]
  refine g_put (ft := (.object "SortedMail$Texts")) fX6_14 ptX6 (Or.inr ⟨rfl, rfl, rfl⟩) ((o15c _ (h_al (j := 0) hla) (h_lo (m := 1) z1 hla)).trans (h_nN e1 z0 (h_al (j := 0) hla) ha)) (by decide +kernel) rfl rfl (Nat.le_of_ble_eq_true rfl) dX6_init_18 ?_
  refine g_gen (fun τ2 e2 => ?_)
  have z2 := h_z2 e2 z15c
  have y2 := h_y2 e2 y15c
  refine g_aload_n dX6_init_21 rfl (List.mem_of_getElem? (i := 0) rfl) ?_
  refine g_new nX6_7 (h_r1 (m := 4) z2 r1 (by decide)) (h_r2 (m := 6408) y2 r2 (by decide)) dX6_init_22 ?_
  refine g_eqv (.ref (n0 + 4)) (congrArg Value.ref z2) ?_
  refine g_gen (fun τ3 e3 => ?_)
  have z3 : τ3.2.1 = n0 + 5 := h_z1 (k := 4) e3 z2
  have y3 : τ3.2.2 = s0 + 6414 := h_y1 (k := 6408) e3 y2
  refine g_dup dX6_init_25 rfl ?_
  refine g_sipush (v := 1001) dX6_init_26 (by decide) ?_
  refine g_sipush (v := 4400) dX6_init_29 (by decide) ?_
  refine g_ci (d1 := 1) (As := [.int 1001, .int 4400]) (st := [.ref (n0 + 4), .ref a]) (ct_T_init hZ (by decide) (mo := 1001) (by_ := 4400) z3 y3 (h_eN e3 z2) (by decide) (h_r3 (m := 5) r1 (by decide)) (h_r4 (m := 6414) (j := 6402) r2 (by decide))) rfl kX9_init lX6_11 sX9_init (by omega) (Nat.le_of_ble_eq_true rfl) dX6_init_32 (fun τ32 v32 h32 z32 => ?_)
  obtain ⟨rfl, ⟨zz32, yy32, o32c⟩, q32a, q32b, q32c, q32d⟩ := h32
  have z32c : τ32.2.1 = n0 + 8 := h_z3 (k := 5) (j := 3) zz32 z3
  have y32c : τ32.2.2 = s0 + 12816 := h_z3 (k := 6414) (j := 6402) yy32 y3
  show G _ _ _ _ _ _ _ _ _ _ 35 [(0, .ref a), (1, .ref de), (2, .ref ss)] [.ref (n0 + 4), .ref a]
  refine g_put (ft := (.object "SortedMail$Texts")) fX6_18 ptX6 (Or.inr ⟨rfl, rfl, rfl⟩) ((o32c _ (h_al (j := 4) hla) (h_lo (m := 5) z3 hla)).trans (h_nN e3 z2 (h_al (j := 4) hla) (h_eS e2))) (by decide +kernel) rfl rfl (Nat.le_of_ble_eq_true rfl) dX6_init_35 ?_
  refine g_gen (fun τ4 e4 => ?_)
  have z4 := h_z2 e4 z32c
  have y4 := h_y2 e4 y32c
  refine g_aload_n dX6_init_38 rfl (List.mem_of_getElem? (i := 0) rfl) ?_
  refine g_new nX6_7 (h_r1 (m := 8) z4 r1 (by decide)) (h_r2 (m := 12816) y4 r2 (by decide)) dX6_init_39 ?_
  refine g_eqv (.ref (n0 + 8)) (congrArg Value.ref z4) ?_
  refine g_gen (fun τ5 e5 => ?_)
  have z5 : τ5.2.1 = n0 + 9 := h_z1 (k := 8) e5 z4
  have y5 : τ5.2.2 = s0 + 12822 := h_y1 (k := 12816) e5 y4
  refine g_dup dX6_init_42 rfl ?_
  refine g_sipush (v := 1001) dX6_init_43 (by decide) ?_
  refine g_sipush (v := 4400) dX6_init_46 (by decide) ?_
  refine g_ci (d1 := 1) (As := [.int 1001, .int 4400]) (st := [.ref (n0 + 8), .ref a]) (ct_T_init hZ (by decide) (mo := 1001) (by_ := 4400) z5 y5 (h_eN e5 z4) (by decide) (h_r3 (m := 9) r1 (by decide)) (h_r4 (m := 12822) (j := 6402) r2 (by decide))) rfl kX9_init lX6_11 sX9_init (by omega) (Nat.le_of_ble_eq_true rfl) dX6_init_49 (fun τ49 v49 h49 z49 => ?_)
  obtain ⟨rfl, ⟨zz49, yy49, o49c⟩, q49a, q49b, q49c, q49d⟩ := h49
  have z49c : τ49.2.1 = n0 + 12 := h_z3 (k := 9) (j := 3) zz49 z5
  have y49c : τ49.2.2 = s0 + 19224 := h_z3 (k := 12822) (j := 6402) yy49 y5
  show G _ _ _ _ _ _ _ _ _ _ 52 [(0, .ref a), (1, .ref de), (2, .ref ss)] [.ref (n0 + 8), .ref a]
  refine g_put (ft := (.object "SortedMail$Texts")) fX6_21 ptX6 (Or.inr ⟨rfl, rfl, rfl⟩) ((o49c _ (h_al (j := 8) hla) (h_lo (m := 9) z5 hla)).trans (h_nN e5 z4 (h_al (j := 8) hla) (h_eS e4))) (by decide +kernel) rfl rfl (Nat.le_of_ble_eq_true rfl) dX6_init_52 ?_
  refine g_gen (fun τ6 e6 => ?_)
  have z6 := h_z2 e6 z49c
  have y6 := h_y2 e6 y49c
  refine g_aload_n dX6_init_55 rfl (List.mem_of_getElem? (i := 0) rfl) ?_
  refine g_new nX6_7 (h_r1 (m := 12) z6 r1 (by decide)) (h_r2 (m := 19224) y6 r2 (by decide)) dX6_init_56 ?_
  refine g_eqv (.ref (n0 + 12)) (congrArg Value.ref z6) ?_
  refine g_gen (fun τ7 e7 => ?_)
  have z7 : τ7.2.1 = n0 + 13 := h_z1 (k := 12) e7 z6
  have y7 : τ7.2.2 = s0 + 19230 := h_y1 (k := 19224) e7 y6
  refine g_dup dX6_init_59 rfl ?_
  refine g_iconst (v := 1) dX6_init_60 (by decide) ?_
  refine g_bipush (v := 10) dX6_init_61 (by decide) ?_
  refine g_ci (d1 := 1) (As := [.int 1, .int 10]) (st := [.ref (n0 + 12), .ref a]) (ct_T_init hZ (by decide) (mo := 1) (by_ := 10) z7 y7 (h_eN e7 z6) (by decide) (h_r3 (m := 13) r1 (by decide)) (h_r4 (m := 19230) (j := 12) r2 (by decide))) rfl kX9_init lX6_11 sX9_init (by omega) (Nat.le_of_ble_eq_true rfl) dX6_init_63 (fun τ63 v63 h63 z63 => ?_)
  obtain ⟨rfl, ⟨zz63, yy63, o63c⟩, q63a, q63b, q63c, q63d⟩ := h63
  have z63c : τ63.2.1 = n0 + 16 := h_z3 (k := 13) (j := 3) zz63 z7
  have y63c : τ63.2.2 = s0 + 19242 := h_z3 (k := 19230) (j := 12) yy63 y7
  show G _ _ _ _ _ _ _ _ _ _ 66 [(0, .ref a), (1, .ref de), (2, .ref ss)] [.ref (n0 + 12), .ref a]
  refine g_put (ft := (.object "SortedMail$Texts")) fX6_24 ptX6 (Or.inr ⟨rfl, rfl, rfl⟩) ((o63c _ (h_al (j := 12) hla) (h_lo (m := 13) z7 hla)).trans (h_nN e7 z6 (h_al (j := 12) hla) (h_eS e6))) (by decide +kernel) rfl rfl (Nat.le_of_ble_eq_true rfl) dX6_init_66 ?_
  refine g_gen (fun τ8 e8 => ?_)
  have z8 := h_z2 e8 z63c
  have y8 := h_y2 e8 y63c
  refine g_aload_n dX6_init_69 rfl (List.mem_of_getElem? (i := 0) rfl) ?_
  refine g_aload_n dX6_init_70 rfl (List.mem_of_getElem? (i := 1) rfl) ?_
  refine g_put (ft := (.object "SortedMail$Delivery")) fX6_27 ptX6 (Or.inr ⟨rfl, rfl, rfl⟩) (h_eS e8) (by decide +kernel) rfl rfl (Nat.le_of_ble_eq_true rfl) dX6_init_71 ?_
  refine g_gen (fun τ9 e9 => ?_)
  have z9 := h_z2 e9 z8
  have y9 := h_y2 e9 y8
  refine g_aload_n dX6_init_74 rfl (List.mem_of_getElem? (i := 0) rfl) ?_
  refine g_aload_n dX6_init_75 rfl (List.mem_of_getElem? (i := 2) rfl) ?_
  refine g_put (ft := (.object "SortedMail$Texts")) fX6_31 ptX6 (Or.inr ⟨rfl, rfl, rfl⟩) (h_eS e9) (by decide +kernel) rfl rfl (Nat.le_of_ble_eq_true rfl) dX6_init_76 ?_
  refine g_gen (fun τ10 e10 => ?_)
  have z10 := h_z2 e10 z9
  have y10 := h_y2 e10 y9
  exact g_vret rfl dX6_init_79 (⟨rfl, ⟨by rw [z10, z0], by rw [y10, y0], fun q h1 h2 => have hq9 : q < n0 := h_lq h2 z0; (h_nS e10 h1 (h_nS e9 h1 (h_nS e8 h1 ((o63c q (h_al (j := 12) hq9) (h_lo (m := 13) z7 hq9)).trans (h_nN e7 z6 (h_al (j := 12) hq9) (h_nS e6 h1 ((o49c q (h_al (j := 8) hq9) (h_lo (m := 9) z5 hq9)).trans (h_nN e5 z4 (h_al (j := 8) hq9) (h_nS e4 h1 ((o32c q (h_al (j := 4) hq9) (h_lo (m := 5) z3 hq9)).trans (h_nN e3 z2 (h_al (j := 4) hq9) (h_nS e2 h1 ((o15c q (h_al (j := 0) hq9) (h_lo (m := 1) z1 hq9)).trans (h_nN e1 z0 (h_al (j := 0) hq9) rfl))))))))))))))⟩, (h_eS e10), (h_nS e10 (h_ar (j := 0) hla) (h_nS e9 (h_ar (j := 0) hla) (h_nS e8 (h_ar (j := 0) hla) ((o63c _ (h_ad (n := n0) (i := 0) (j := 12) (by decide)) (h_lk (i := 0) (m := 13) z7 (by decide))).trans (h_nN e7 z6 (h_ad (n := n0) (i := 0) (j := 12) (by decide)) (h_nS e6 (h_ar (j := 0) hla) ((o49c _ (h_ad (n := n0) (i := 0) (j := 8) (by decide)) (h_lk (i := 0) (m := 9) z5 (by decide))).trans (h_nN e5 z4 (h_ad (n := n0) (i := 0) (j := 8) (by decide)) (h_nS e4 (h_ar (j := 0) hla) ((o32c _ (h_ad (n := n0) (i := 0) (j := 4) (by decide)) (h_lk (i := 0) (m := 5) z3 (by decide))).trans (h_nN e3 z2 (h_ad (n := n0) (i := 0) (j := 4) (by decide)) (h_nS e2 (h_ar (j := 0) hla) q15a)))))))))))), (h_nS e10 (h_ar (j := 1) hla) (h_nS e9 (h_ar (j := 1) hla) (h_nS e8 (h_ar (j := 1) hla) ((o63c _ (h_ad (n := n0) (i := 1) (j := 12) (by decide)) (h_lk (i := 1) (m := 13) z7 (by decide))).trans (h_nN e7 z6 (h_ad (n := n0) (i := 1) (j := 12) (by decide)) (h_nS e6 (h_ar (j := 1) hla) ((o49c _ (h_ad (n := n0) (i := 1) (j := 8) (by decide)) (h_lk (i := 1) (m := 9) z5 (by decide))).trans (h_nN e5 z4 (h_ad (n := n0) (i := 1) (j := 8) (by decide)) (h_nS e4 (h_ar (j := 1) hla) ((o32c _ (h_ad (n := n0) (i := 1) (j := 4) (by decide)) (h_lk (i := 1) (m := 5) z3 (by decide))).trans (h_nN e3 z2 (h_ad (n := n0) (i := 1) (j := 4) (by decide)) (h_nS e2 (h_ar (j := 1) hla) q15b)))))))))))), (h_nS e10 (h_ar (j := 2) hla) (h_nS e9 (h_ar (j := 2) hla) (h_nS e8 (h_ar (j := 2) hla) ((o63c _ (h_ad (n := n0) (i := 2) (j := 12) (by decide)) (h_lk (i := 2) (m := 13) z7 (by decide))).trans (h_nN e7 z6 (h_ad (n := n0) (i := 2) (j := 12) (by decide)) (h_nS e6 (h_ar (j := 2) hla) ((o49c _ (h_ad (n := n0) (i := 2) (j := 8) (by decide)) (h_lk (i := 2) (m := 9) z5 (by decide))).trans (h_nN e5 z4 (h_ad (n := n0) (i := 2) (j := 8) (by decide)) (h_nS e4 (h_ar (j := 2) hla) ((o32c _ (h_ad (n := n0) (i := 2) (j := 4) (by decide)) (h_lk (i := 2) (m := 5) z3 (by decide))).trans (h_nN e3 z2 (h_ad (n := n0) (i := 2) (j := 4) (by decide)) (h_nS e2 (h_ar (j := 2) hla) q15c)))))))))))), (h_nS e10 (h_ar (j := 3) hla) (h_nS e9 (h_ar (j := 3) hla) (h_nS e8 (h_ar (j := 3) hla) ((o63c _ (h_ad (n := n0) (i := 3) (j := 12) (by decide)) (h_lk (i := 3) (m := 13) z7 (by decide))).trans (h_nN e7 z6 (h_ad (n := n0) (i := 3) (j := 12) (by decide)) (h_nS e6 (h_ar (j := 3) hla) ((o49c _ (h_ad (n := n0) (i := 3) (j := 8) (by decide)) (h_lk (i := 3) (m := 9) z5 (by decide))).trans (h_nN e5 z4 (h_ad (n := n0) (i := 3) (j := 8) (by decide)) (h_nS e4 (h_ar (j := 3) hla) ((o32c _ (h_ad (n := n0) (i := 3) (j := 4) (by decide)) (h_lk (i := 3) (m := 5) z3 (by decide))).trans (h_nN e3 z2 (h_ad (n := n0) (i := 3) (j := 4) (by decide)) (h_nS e2 (h_ar (j := 3) hla) q15d)))))))))))), (h_nS e10 (h_ar (j := 4) hla) (h_nS e9 (h_ar (j := 4) hla) (h_nS e8 (h_ar (j := 4) hla) ((o63c _ (h_ad (n := n0) (i := 4) (j := 12) (by decide)) (h_lk (i := 4) (m := 13) z7 (by decide))).trans (h_nN e7 z6 (h_ad (n := n0) (i := 4) (j := 12) (by decide)) (h_nS e6 (h_ar (j := 4) hla) ((o49c _ (h_ad (n := n0) (i := 4) (j := 8) (by decide)) (h_lk (i := 4) (m := 9) z5 (by decide))).trans (h_nN e5 z4 (h_ad (n := n0) (i := 4) (j := 8) (by decide)) (h_nS e4 (h_ar (j := 4) hla) q32a))))))))), (h_nS e10 (h_ar (j := 5) hla) (h_nS e9 (h_ar (j := 5) hla) (h_nS e8 (h_ar (j := 5) hla) ((o63c _ (h_ad (n := n0) (i := 5) (j := 12) (by decide)) (h_lk (i := 5) (m := 13) z7 (by decide))).trans (h_nN e7 z6 (h_ad (n := n0) (i := 5) (j := 12) (by decide)) (h_nS e6 (h_ar (j := 5) hla) ((o49c _ (h_ad (n := n0) (i := 5) (j := 8) (by decide)) (h_lk (i := 5) (m := 9) z5 (by decide))).trans (h_nN e5 z4 (h_ad (n := n0) (i := 5) (j := 8) (by decide)) (h_nS e4 (h_ar (j := 5) hla) q32b))))))))), (h_nS e10 (h_ar (j := 6) hla) (h_nS e9 (h_ar (j := 6) hla) (h_nS e8 (h_ar (j := 6) hla) ((o63c _ (h_ad (n := n0) (i := 6) (j := 12) (by decide)) (h_lk (i := 6) (m := 13) z7 (by decide))).trans (h_nN e7 z6 (h_ad (n := n0) (i := 6) (j := 12) (by decide)) (h_nS e6 (h_ar (j := 6) hla) ((o49c _ (h_ad (n := n0) (i := 6) (j := 8) (by decide)) (h_lk (i := 6) (m := 9) z5 (by decide))).trans (h_nN e5 z4 (h_ad (n := n0) (i := 6) (j := 8) (by decide)) (h_nS e4 (h_ar (j := 6) hla) q32c))))))))), (h_nS e10 (h_ar (j := 7) hla) (h_nS e9 (h_ar (j := 7) hla) (h_nS e8 (h_ar (j := 7) hla) ((o63c _ (h_ad (n := n0) (i := 7) (j := 12) (by decide)) (h_lk (i := 7) (m := 13) z7 (by decide))).trans (h_nN e7 z6 (h_ad (n := n0) (i := 7) (j := 12) (by decide)) (h_nS e6 (h_ar (j := 7) hla) ((o49c _ (h_ad (n := n0) (i := 7) (j := 8) (by decide)) (h_lk (i := 7) (m := 9) z5 (by decide))).trans (h_nN e5 z4 (h_ad (n := n0) (i := 7) (j := 8) (by decide)) (h_nS e4 (h_ar (j := 7) hla) q32d))))))))), (h_nS e10 (h_ar (j := 8) hla) (h_nS e9 (h_ar (j := 8) hla) (h_nS e8 (h_ar (j := 8) hla) ((o63c _ (h_ad (n := n0) (i := 8) (j := 12) (by decide)) (h_lk (i := 8) (m := 13) z7 (by decide))).trans (h_nN e7 z6 (h_ad (n := n0) (i := 8) (j := 12) (by decide)) (h_nS e6 (h_ar (j := 8) hla) q49a)))))), (h_nS e10 (h_ar (j := 9) hla) (h_nS e9 (h_ar (j := 9) hla) (h_nS e8 (h_ar (j := 9) hla) ((o63c _ (h_ad (n := n0) (i := 9) (j := 12) (by decide)) (h_lk (i := 9) (m := 13) z7 (by decide))).trans (h_nN e7 z6 (h_ad (n := n0) (i := 9) (j := 12) (by decide)) (h_nS e6 (h_ar (j := 9) hla) q49b)))))), (h_nS e10 (h_ar (j := 10) hla) (h_nS e9 (h_ar (j := 10) hla) (h_nS e8 (h_ar (j := 10) hla) ((o63c _ (h_ad (n := n0) (i := 10) (j := 12) (by decide)) (h_lk (i := 10) (m := 13) z7 (by decide))).trans (h_nN e7 z6 (h_ad (n := n0) (i := 10) (j := 12) (by decide)) (h_nS e6 (h_ar (j := 10) hla) q49c)))))), (h_nS e10 (h_ar (j := 11) hla) (h_nS e9 (h_ar (j := 11) hla) (h_nS e8 (h_ar (j := 11) hla) ((o63c _ (h_ad (n := n0) (i := 11) (j := 12) (by decide)) (h_lk (i := 11) (m := 13) z7 (by decide))).trans (h_nN e7 z6 (h_ad (n := n0) (i := 11) (j := 12) (by decide)) (h_nS e6 (h_ar (j := 11) hla) q49d)))))), (h_nS e10 (h_ar (j := 12) hla) (h_nS e9 (h_ar (j := 12) hla) (h_nS e8 (h_ar (j := 12) hla) q63a))), (h_nS e10 (h_ar (j := 13) hla) (h_nS e9 (h_ar (j := 13) hla) (h_nS e8 (h_ar (j := 13) hla) q63b))), (h_nS e10 (h_ar (j := 14) hla) (h_nS e9 (h_ar (j := 14) hla) (h_nS e8 (h_ar (j := 14) hla) q63c))), (h_nS e10 (h_ar (j := 15) hla) (h_nS e9 (h_ar (j := 15) hla) (h_nS e8 (h_ar (j := 15) hla) q63d)))⟩)
set_option maxRecDepth 100000 in
set_option maxHeartbeats 4000000 in
/-- Runner(parser, reader) -/
theorem ct_X7_init {l : Launch} {D : va_G} {A : Nat → ClassId} {B : Nat} {Z : State → Heap → Prop} (hZ : h_st B Z) {d : Nat} (hd1 : 2 ≤ d) {σ : hS} {a n0 s0 : Nat} {pa re : Nat} (z0 : σ.2.1 = n0) (y0 : σ.2.2 = s0) (ha : σ.1 a = some (.inr (7, [.null, .null, .null, .null, .null, .int 0, .int 0, .int 0, .int 0, .null, .null, .null, .int 0, .int 0, .int 0, .int 0, .int 0, .int 0, .null, .null]))) (r1 : n0 + 8 ≤ B + 600000) (r2 : s0 + 6030 ≤ 7302250) : Ct l D (h_ty A) B Z d mX7_init σ [.ref a, .ref pa, .ref re] (fun σ1 v => v = none ∧ cgr σ σ1 a 8 6030 ∧ σ1.1 (a) = some (.inr (7, [.ref (n0 + 0), .ref (n0 + 1), .ref (n0 + 2), .ref (n0 + 3), .ref (n0 + 4), .int 0, .int 0, .int 0, .int 0, .null, .null, .null, .int 0, .int 0, .int 0, .int 0, .int 0, .int 0, .ref pa, .ref re])) ∧ σ1.1 (n0 + 0) = some (.inl (A 0, 6, .inl (fun _ => 0))) ∧ σ1.1 (n0 + 1) = some (.inl (A 0, 6, .inl (fun _ => 0))) ∧ σ1.1 (n0 + 2) = some (.inl (A 0, 6, .inl (fun _ => 0))) ∧ σ1.1 (n0 + 3) = some (.inl (A 0, 4, .inl (fun _ => 0))) ∧ σ1.1 (n0 + 4) = some (.inr (9, [.ref (n0 + 5), .ref (n0 + 6), .ref (n0 + 7), .int 0, .int 0, .int 0])) ∧ σ1.1 (n0 + 5) = some (.inl (A 1, 6000, .inl (fun _ => 0))) ∧ σ1.1 (n0 + 6) = some (.inl (A 0, 1, .inl (fun _ => 0))) ∧ σ1.1 (n0 + 7) = some (.inl (A 0, 1, .inl (fun _ => 0)))) := by
  refine ct_of rfl hZ (Nat.le_of_ble_eq_true rfl) ?_
  show G _ _ _ _ _ _ _ _ _ _ 0 [(0, .ref a), (1, .ref pa), (2, .ref re)] []
  refine g_bd (fun hB1 hB2 hB3 hlt => ?_)
  have hla : a < n0 := h_lq (hlt a _ ha) z0
  refine g_aload_n dX7_init_0 rfl (List.mem_of_getElem? (i := 0) rfl) ?_
  refine g_obj lX7_1 h_oi h_oc (by omega) (Nat.le_of_ble_eq_true rfl) dX7_init_1 ?_
  refine g_aload_n dX7_init_4 rfl (List.mem_of_getElem? (i := 0) rfl) ?_
  refine g_bipush (v := 6) dX7_init_5 (by decide) ?_
  refine g_newa (t0 := 0) (N := 6) (f := .inl (fun _ => 0)) rfl rfl (fun _ h => h) ac_int hv_int (by decide) (nI_clamp (n := 6) (by decide)) (by decide) (h_r1 (m := 0) z0 r1 (by decide)) (h_r2 (m := 0) y0 r2 (by decide)) dX7_init_7 ?_
  refine g_eqv (.ref (n0 + 0)) (congrArg Value.ref z0) ?_
  refine g_gen (fun τ1 e1 => ?_)
  have z1 : τ1.2.1 = n0 + 1 := h_z1 (k := 0) e1 z0
  have y1 : τ1.2.2 = s0 + 6 := h_y1 (k := 0) e1 y0
  refine g_put (ft := (.array .int)) fX7_9 ptX7 (Or.inr ⟨rfl, rfl, rfl⟩) (h_nN e1 z0 (h_al (j := 0) hla) ha) (by decide +kernel) rfl rfl (Nat.le_of_ble_eq_true rfl) dX7_init_9 ?_
  refine g_gen (fun τ2 e2 => ?_)
  have z2 := h_z2 e2 z1
  have y2 := h_y2 e2 y1
  refine g_aload_n dX7_init_12 rfl (List.mem_of_getElem? (i := 0) rfl) ?_
  refine g_bipush (v := 6) dX7_init_13 (by decide) ?_
  refine g_newa (t0 := 0) (N := 6) (f := .inl (fun _ => 0)) rfl rfl (fun _ h => h) ac_int hv_int (by decide) (nI_clamp (n := 6) (by decide)) (by decide) (h_r1 (m := 1) z2 r1 (by decide)) (h_r2 (m := 6) y2 r2 (by decide)) dX7_init_15 ?_
  refine g_eqv (.ref (n0 + 1)) (congrArg Value.ref z2) ?_
  refine g_gen (fun τ3 e3 => ?_)
  have z3 : τ3.2.1 = n0 + 2 := h_z1 (k := 1) e3 z2
  have y3 : τ3.2.2 = s0 + 12 := h_y1 (k := 6) e3 y2
  refine g_put (ft := (.array .int)) fX7_15 ptX7 (Or.inr ⟨rfl, rfl, rfl⟩) (h_nN e3 z2 (h_al (j := 1) hla) (h_eS e2)) (by decide +kernel) rfl rfl (Nat.le_of_ble_eq_true rfl) dX7_init_17 ?_
  refine g_gen (fun τ4 e4 => ?_)
  have z4 := h_z2 e4 z3
  have y4 := h_y2 e4 y3
  refine g_aload_n dX7_init_20 rfl (List.mem_of_getElem? (i := 0) rfl) ?_
  refine g_bipush (v := 6) dX7_init_21 (by decide) ?_
  refine g_newa (t0 := 0) (N := 6) (f := .inl (fun _ => 0)) rfl rfl (fun _ h => h) ac_int hv_int (by decide) (nI_clamp (n := 6) (by decide)) (by decide) (h_r1 (m := 2) z4 r1 (by decide)) (h_r2 (m := 12) y4 r2 (by decide)) dX7_init_23 ?_
  refine g_eqv (.ref (n0 + 2)) (congrArg Value.ref z4) ?_
  refine g_gen (fun τ5 e5 => ?_)
  have z5 : τ5.2.1 = n0 + 3 := h_z1 (k := 2) e5 z4
  have y5 : τ5.2.2 = s0 + 18 := h_y1 (k := 12) e5 y4
  refine g_put (ft := (.array .int)) fX7_18 ptX7 (Or.inr ⟨rfl, rfl, rfl⟩) (h_nN e5 z4 (h_al (j := 2) hla) (h_eS e4)) (by decide +kernel) rfl rfl (Nat.le_of_ble_eq_true rfl) dX7_init_25 ?_
  refine g_gen (fun τ6 e6 => ?_)
  have z6 := h_z2 e6 z5
  have y6 := h_y2 e6 y5
  refine g_aload_n dX7_init_28 rfl (List.mem_of_getElem? (i := 0) rfl) ?_
  refine g_iconst (v := 4) dX7_init_29 (by decide) ?_
  refine g_newa (t0 := 0) (N := 4) (f := .inl (fun _ => 0)) rfl rfl (fun _ h => h) ac_int hv_int (by decide) (nI_clamp (n := 4) (by decide)) (by decide) (h_r1 (m := 3) z6 r1 (by decide)) (h_r2 (m := 18) y6 r2 (by decide)) dX7_init_30 ?_
  refine g_eqv (.ref (n0 + 3)) (congrArg Value.ref z6) ?_
  refine g_gen (fun τ7 e7 => ?_)
  have z7 : τ7.2.1 = n0 + 4 := h_z1 (k := 3) e7 z6
  have y7 : τ7.2.2 = s0 + 22 := h_y1 (k := 18) e7 y6
  refine g_put (ft := (.array .int)) fX7_21 ptX7 (Or.inr ⟨rfl, rfl, rfl⟩) (h_nN e7 z6 (h_al (j := 3) hla) (h_eS e6)) (by decide +kernel) rfl rfl (Nat.le_of_ble_eq_true rfl) dX7_init_32 ?_
  refine g_gen (fun τ8 e8 => ?_)
  have z8 := h_z2 e8 z7
  have y8 := h_y2 e8 y7
  refine g_aload_n dX7_init_35 rfl (List.mem_of_getElem? (i := 0) rfl) ?_
  refine g_new nX7_24 (h_r1 (m := 4) z8 r1 (by decide)) (h_r2 (m := 22) y8 r2 (by decide)) dX7_init_36 ?_
  refine g_eqv (.ref (n0 + 4)) (congrArg Value.ref z8) ?_
  refine g_gen (fun τ9 e9 => ?_)
  have z9 : τ9.2.1 = n0 + 5 := h_z1 (k := 4) e9 z8
  have y9 : τ9.2.2 = s0 + 28 := h_y1 (k := 22) e9 y8
  refine g_dup dX7_init_39 rfl ?_
  refine g_iconst (v := 1) dX7_init_40 (by decide) ?_
  refine g_sipush (v := 6000) dX7_init_41 (by decide) ?_
  refine g_ci (d1 := 1) (As := [.int 1, .int 6000]) (st := [.ref (n0 + 4), .ref a]) (ct_T_init hZ (by decide) (mo := 1) (by_ := 6000) z9 y9 (h_eN e9 z8) (by decide) (h_r3 (m := 5) r1 (by decide)) (h_r4 (m := 28) (j := 6002) r2 (by decide))) rfl kX9_init lX7_26 sX9_init (by omega) (Nat.le_of_ble_eq_true rfl) dX7_init_44 (fun τ44 v44 h44 z44 => ?_)
  obtain ⟨rfl, ⟨zz44, yy44, o44c⟩, q44a, q44b, q44c, q44d⟩ := h44
  have z44c : τ44.2.1 = n0 + 8 := h_z3 (k := 5) (j := 3) zz44 z9
  have y44c : τ44.2.2 = s0 + 6030 := h_z3 (k := 28) (j := 6002) yy44 y9
  show G _ _ _ _ _ _ _ _ _ _ 47 [(0, .ref a), (1, .ref pa), (2, .ref re)] [.ref (n0 + 4), .ref a]
  refine g_put (ft := (.object "SortedMail$Texts")) fX7_29 ptX7 (Or.inr ⟨rfl, rfl, rfl⟩) ((o44c _ (h_al (j := 4) hla) (h_lo (m := 5) z9 hla)).trans (h_nN e9 z8 (h_al (j := 4) hla) (h_eS e8))) (by decide +kernel) rfl rfl (Nat.le_of_ble_eq_true rfl) dX7_init_47 ?_
  refine g_gen (fun τ10 e10 => ?_)
  have z10 := h_z2 e10 z44c
  have y10 := h_y2 e10 y44c
  refine g_aload_n dX7_init_50 rfl (List.mem_of_getElem? (i := 0) rfl) ?_
  refine g_aload_n dX7_init_51 rfl (List.mem_of_getElem? (i := 1) rfl) ?_
  refine g_put (ft := (.object "SortedMail$Parser")) fX7_33 ptX7 (Or.inr ⟨rfl, rfl, rfl⟩) (h_eS e10) (by decide +kernel) rfl rfl (Nat.le_of_ble_eq_true rfl) dX7_init_52 ?_
  refine g_gen (fun τ11 e11 => ?_)
  have z11 := h_z2 e11 z10
  have y11 := h_y2 e11 y10
  refine g_aload_n dX7_init_55 rfl (List.mem_of_getElem? (i := 0) rfl) ?_
  refine g_aload_n dX7_init_56 rfl (List.mem_of_getElem? (i := 2) rfl) ?_
  refine g_put (ft := (.object "SortedMail$Reader")) fX7_37 ptX7 (Or.inr ⟨rfl, rfl, rfl⟩) (h_eS e11) (by decide +kernel) rfl rfl (Nat.le_of_ble_eq_true rfl) dX7_init_57 ?_
  refine g_gen (fun τ12 e12 => ?_)
  have z12 := h_z2 e12 z11
  have y12 := h_y2 e12 y11
  exact g_vret rfl dX7_init_60 (⟨rfl, ⟨by rw [z12, z0], by rw [y12, y0], fun q h1 h2 => have hq9 : q < n0 := h_lq h2 z0; (h_nS e12 h1 (h_nS e11 h1 (h_nS e10 h1 ((o44c q (h_al (j := 4) hq9) (h_lo (m := 5) z9 hq9)).trans (h_nN e9 z8 (h_al (j := 4) hq9) (h_nS e8 h1 (h_nN e7 z6 (h_al (j := 3) hq9) (h_nS e6 h1 (h_nN e5 z4 (h_al (j := 2) hq9) (h_nS e4 h1 (h_nN e3 z2 (h_al (j := 1) hq9) (h_nS e2 h1 (h_nN e1 z0 (h_al (j := 0) hq9) rfl)))))))))))))⟩, (h_eS e12), (h_nS e12 (h_ar (j := 0) hla) (h_nS e11 (h_ar (j := 0) hla) (h_nS e10 (h_ar (j := 0) hla) ((o44c _ (h_ad (n := n0) (i := 0) (j := 4) (by decide)) (h_lk (i := 0) (m := 5) z9 (by decide))).trans (h_nN e9 z8 (h_ad (n := n0) (i := 0) (j := 4) (by decide)) (h_nS e8 (h_ar (j := 0) hla) (h_nN e7 z6 (h_ad (n := n0) (i := 0) (j := 3) (by decide)) (h_nS e6 (h_ar (j := 0) hla) (h_nN e5 z4 (h_ad (n := n0) (i := 0) (j := 2) (by decide)) (h_nS e4 (h_ar (j := 0) hla) (h_nN e3 z2 (h_ad (n := n0) (i := 0) (j := 1) (by decide)) (h_nS e2 (h_ar (j := 0) hla) (h_eN e1 z0))))))))))))), (h_nS e12 (h_ar (j := 1) hla) (h_nS e11 (h_ar (j := 1) hla) (h_nS e10 (h_ar (j := 1) hla) ((o44c _ (h_ad (n := n0) (i := 1) (j := 4) (by decide)) (h_lk (i := 1) (m := 5) z9 (by decide))).trans (h_nN e9 z8 (h_ad (n := n0) (i := 1) (j := 4) (by decide)) (h_nS e8 (h_ar (j := 1) hla) (h_nN e7 z6 (h_ad (n := n0) (i := 1) (j := 3) (by decide)) (h_nS e6 (h_ar (j := 1) hla) (h_nN e5 z4 (h_ad (n := n0) (i := 1) (j := 2) (by decide)) (h_nS e4 (h_ar (j := 1) hla) (h_eN e3 z2))))))))))), (h_nS e12 (h_ar (j := 2) hla) (h_nS e11 (h_ar (j := 2) hla) (h_nS e10 (h_ar (j := 2) hla) ((o44c _ (h_ad (n := n0) (i := 2) (j := 4) (by decide)) (h_lk (i := 2) (m := 5) z9 (by decide))).trans (h_nN e9 z8 (h_ad (n := n0) (i := 2) (j := 4) (by decide)) (h_nS e8 (h_ar (j := 2) hla) (h_nN e7 z6 (h_ad (n := n0) (i := 2) (j := 3) (by decide)) (h_nS e6 (h_ar (j := 2) hla) (h_eN e5 z4))))))))), (h_nS e12 (h_ar (j := 3) hla) (h_nS e11 (h_ar (j := 3) hla) (h_nS e10 (h_ar (j := 3) hla) ((o44c _ (h_ad (n := n0) (i := 3) (j := 4) (by decide)) (h_lk (i := 3) (m := 5) z9 (by decide))).trans (h_nN e9 z8 (h_ad (n := n0) (i := 3) (j := 4) (by decide)) (h_nS e8 (h_ar (j := 3) hla) (h_eN e7 z6))))))), (h_nS e12 (h_ar (j := 4) hla) (h_nS e11 (h_ar (j := 4) hla) (h_nS e10 (h_ar (j := 4) hla) q44a))), (h_nS e12 (h_ar (j := 5) hla) (h_nS e11 (h_ar (j := 5) hla) (h_nS e10 (h_ar (j := 5) hla) q44b))), (h_nS e12 (h_ar (j := 6) hla) (h_nS e11 (h_ar (j := 6) hla) (h_nS e10 (h_ar (j := 6) hla) q44c))), (h_nS e12 (h_ar (j := 7) hla) (h_nS e11 (h_ar (j := 7) hla) (h_nS e10 (h_ar (j := 7) hla) q44d)))⟩)
