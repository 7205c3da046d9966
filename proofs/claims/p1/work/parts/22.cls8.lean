abbrev mX0_open : hM := (yX0_open, cX0_open, 1, none)
theorem dX0_open_0 : decode cX0_open 0 = .ok (.aload_n 0, 1) := by decide +kernel
theorem dX0_open_1 : decode cX0_open 1 = .ok (.invokevirtual 32, 3) := by decide +kernel
theorem kX0_close : h_ml mX0_close 0 := ⟨h_t3 150 rfl rfl, h_t1 13 rfl rfl, ⟨by decide, by decide, by decide +kernel⟩, by decide⟩
theorem sX0_close : Cond.instanceMethod mX0_close.1 ∈ lw_g ∧ Cond.selects mX0_close.1.cls mX0_close.1 mX0_close.1 ∈ lw_g := ⟨h_t3 148 rfl rfl, h_t3 149 rfl rfl⟩
theorem lX0_32 : Cond.methodLink RX0 32 mX0_close.1 ∈ lw_g := h_t3 147 rfl rfl
theorem dX0_open_4 : decode cX0_open 4 = .ok (.aload_n 0, 1) := by decide +kernel
theorem dX0_open_5 : decode cX0_open 5 = .ok (.iconst 1, 1) := by decide +kernel
theorem dX0_open_6 : decode cX0_open 6 = .ok (.putfield 35, 3) := by decide +kernel
theorem dX0_open_9 : decode cX0_open 9 = .ok (.aload_n 0, 1) := by decide +kernel
theorem dX0_open_10 : decode cX0_open 10 = .ok (.getfield 28, 3) := by decide +kernel
theorem dX0_open_13 : decode cX0_open 13 = .ok (.ldc 39, 2) := by decide +kernel
theorem dX0_open_15 : decode cX0_open 15 = .ok (.invokevirtual 41, 3) := by decide +kernel
theorem kX5_line : h_ml mX5_line 1 := ⟨h_t3 159 rfl rfl, h_t1 6 rfl rfl, ⟨by decide, by decide, by decide +kernel⟩, by decide⟩
theorem sX5_line : Cond.instanceMethod mX5_line.1 ∈ lw_g ∧ Cond.selects mX5_line.1.cls mX5_line.1 mX5_line.1 ∈ lw_g := ⟨h_t3 157 rfl rfl, h_t3 158 rfl rfl⟩
theorem lX0_41 : Cond.methodLink RX0 41 mX5_line.1 ∈ lw_g := h_t3 156 rfl rfl
theorem dX0_open_18 : decode cX0_open 18 = .ok (.return_, 1) := by decide +kernel
abbrev mX11_connect : hM := (yX11_connect, cX11_connect, 1, (some (.boolean)))
theorem dX11_connect_0 : decode cX11_connect 0 = .ok (.aload_n 0, 1) := by decide +kernel
theorem dX11_connect_1 : decode cX11_connect 1 = .ok (.getfield 44, 3) := by decide +kernel
theorem dX11_connect_4 : decode cX11_connect 4 = .ok (.ifCond .ne 5, 3) := by decide +kernel
theorem dX11_connect_7 : decode cX11_connect 7 = .ok (.iconst 0, 1) := by decide +kernel
theorem dX11_connect_8 : decode cX11_connect 8 = .ok (.ireturn, 1) := by decide +kernel
theorem dX11_connect_9 : decode cX11_connect 9 = .ok (.aload_n 0, 1) := by decide +kernel
theorem dX11_connect_10 : decode cX11_connect 10 = .ok (.getfield 56, 3) := by decide +kernel
theorem dX11_connect_13 : decode cX11_connect 13 = .ok (.invokevirtual 96, 3) := by decide +kernel
theorem kX0_open : h_ml mX0_open 0 := ⟨h_t3 146 rfl rfl, h_t1 13 rfl rfl, ⟨by decide, by decide, by decide +kernel⟩, by decide⟩
theorem sX0_open : Cond.instanceMethod mX0_open.1 ∈ lw_g ∧ Cond.selects mX0_open.1.cls mX0_open.1 mX0_open.1 ∈ lw_g := ⟨h_t3 144 rfl rfl, h_t3 145 rfl rfl⟩
theorem lX11_96 : Cond.methodLink RX11 96 mX0_open.1 ∈ lw_g := h_t3 143 rfl rfl
theorem dX11_connect_16 : decode cX11_connect 16 = .ok (.iconst 1, 1) := by decide +kernel
theorem dX11_connect_17 : decode cX11_connect 17 = .ok (.ireturn, 1) := by decide +kernel
abbrev mX11_mail : hM := (yX11_mail, cX11_mail, 4, (some (.int)))
theorem dX11_mail_0 : decode cX11_mail 0 = .ok (.aload_n 0, 1) := by decide +kernel
theorem dX11_mail_1 : decode cX11_mail 1 = .ok (.getfield 44, 3) := by decide +kernel
theorem dX11_mail_4 : decode cX11_mail 4 = .ok (.ifCond .eq 25, 3) := by decide +kernel
theorem dX11_mail_7 : decode cX11_mail 7 = .ok (.aload_n 0, 1) := by decide +kernel
theorem dX11_mail_8 : decode cX11_mail 8 = .ok (.getfield 56, 3) := by decide +kernel
theorem dX11_mail_11 : decode cX11_mail 11 = .ok (.getfield 99, 3) := by decide +kernel
theorem dX11_mail_14 : decode cX11_mail 14 = .ok (.ifCond .eq 15, 3) := by decide +kernel
theorem dX11_mail_17 : decode cX11_mail 17 = .ok (.iload_n 1, 1) := by decide +kernel
theorem dX11_mail_18 : decode cX11_mail 18 = .ok (.ifCond .lt 11, 3) := by decide +kernel
theorem dX11_mail_21 : decode cX11_mail 21 = .ok (.iload_n 1, 1) := by decide +kernel
theorem dX11_mail_22 : decode cX11_mail 22 = .ok (.aload_n 0, 1) := by decide +kernel
theorem dX11_mail_23 : decode cX11_mail 23 = .ok (.getfield 88, 3) := by decide +kernel
theorem dX11_mail_26 : decode cX11_mail 26 = .ok (.if_icmp .le 5, 3) := by decide +kernel
theorem dX11_mail_29 : decode cX11_mail 29 = .ok (.iconst (-1), 1) := by decide +kernel
theorem dX11_mail_30 : decode cX11_mail 30 = .ok (.ireturn, 1) := by decide +kernel
theorem dX11_mail_31 : decode cX11_mail 31 = .ok (.iconst 0, 1) := by decide +kernel
theorem dX11_mail_32 : decode cX11_mail 32 = .ok (.istore_n 2, 1) := by decide +kernel
theorem dX11_mail_33 : decode cX11_mail 33 = .ok (.iload_n 2, 1) := by decide +kernel
theorem dX11_mail_34 : decode cX11_mail 34 = .ok (.iload_n 1, 1) := by decide +kernel
theorem dX11_mail_35 : decode cX11_mail 35 = .ok (.if_icmp .ge 65, 3) := by decide +kernel
theorem dX11_mail_38 : decode cX11_mail 38 = .ok (.iload_n 2, 1) := by decide +kernel
theorem dX11_mail_39 : decode cX11_mail 39 = .ok (.sipush 6000, 3) := by decide +kernel
theorem dX11_mail_42 : decode cX11_mail 42 = .ok (.if_icmp .ge 58, 3) := by decide +kernel
theorem dX11_mail_45 : decode cX11_mail 45 = .ok (.aload_n 0, 1) := by decide +kernel
theorem dX11_mail_46 : decode cX11_mail 46 = .ok (.getfield 44, 3) := by decide +kernel
theorem dX11_mail_49 : decode cX11_mail 49 = .ok (.ifCond .eq 51, 3) := by decide +kernel
theorem dX11_mail_52 : decode cX11_mail 52 = .ok (.aload_n 0, 1) := by decide +kernel
theorem dX11_mail_53 : decode cX11_mail 53 = .ok (.getfield 56, 3) := by decide +kernel
theorem dX11_mail_56 : decode cX11_mail 56 = .ok (.aload_n 0, 1) := by decide +kernel
theorem dX11_mail_57 : decode cX11_mail 57 = .ok (.getfield 9, 3) := by decide +kernel
theorem dX11_mail_60 : decode cX11_mail 60 = .ok (.iload_n 2, 1) := by decide +kernel
theorem dX11_mail_61 : decode cX11_mail 61 = .ok (.baload, 1) := by decide +kernel
theorem dX11_mail_62 : decode cX11_mail 62 = .ok (.sipush 255, 3) := by decide +kernel
theorem dX11_mail_65 : decode cX11_mail 65 = .ok (.iand, 1) := by decide +kernel
theorem dX11_mail_66 : decode cX11_mail 66 = .ok (.invokevirtual 102, 3) := by decide +kernel
abbrev mX0_take : hM := (yX0_take, cX0_take, 2, (some (.int)))
theorem kX0_take : h_ml mX0_take 1 := ⟨h_t3 177 rfl rfl, h_t1 13 rfl rfl, ⟨by decide, by decide, by decide +kernel⟩, by decide⟩
theorem sX0_take : Cond.instanceMethod mX0_take.1 ∈ lw_g ∧ Cond.selects mX0_take.1.cls mX0_take.1 mX0_take.1 ∈ lw_g := ⟨h_t3 175 rfl rfl, h_t3 176 rfl rfl⟩
theorem lX11_102 : Cond.methodLink RX11 102 mX0_take.1 ∈ lw_g := h_t3 174 rfl rfl
theorem dX11_mail_69 : decode cX11_mail 69 = .ok (.istore_n 3, 1) := by decide +kernel
theorem dX11_mail_70 : decode cX11_mail 70 = .ok (.iinc 2 1, 3) := by decide +kernel
theorem dX11_mail_73 : decode cX11_mail 73 = .ok (.iload_n 3, 1) := by decide +kernel
theorem dX11_mail_74 : decode cX11_mail 74 = .ok (.iconst 1, 1) := by decide +kernel
theorem dX11_mail_75 : decode cX11_mail 75 = .ok (.if_icmp .ne 13, 3) := by decide +kernel
theorem dX11_mail_78 : decode cX11_mail 78 = .ok (.aload_n 0, 1) := by decide +kernel
theorem dX11_mail_79 : decode cX11_mail 79 = .ok (.getfield 56, 3) := by decide +kernel
theorem dX11_mail_82 : decode cX11_mail 82 = .ok (.invokevirtual 106, 3) := by decide +kernel
abbrev mX0_answerLine : hM := (yX0_answerLine, cX0_answerLine, 5, none)
theorem kX0_answerLine : h_ml mX0_answerLine 0 := ⟨h_t3 196 rfl rfl, h_t1 13 rfl rfl, ⟨by decide, by decide, by decide +kernel⟩, by decide⟩
theorem sX0_answerLine : Cond.instanceMethod mX0_answerLine.1 ∈ lw_g ∧ Cond.selects mX0_answerLine.1.cls mX0_answerLine.1 mX0_answerLine.1 ∈ lw_g := ⟨h_t3 194 rfl rfl, h_t3 195 rfl rfl⟩
theorem lX11_106 : Cond.methodLink RX11 106 mX0_answerLine.1 ∈ lw_g := h_t3 193 rfl rfl
theorem dX11_mail_85 : decode cX11_mail 85 = .ok (.goto 12, 3) := by decide +kernel
theorem dX11_mail_88 : decode cX11_mail 88 = .ok (.iload_n 3, 1) := by decide +kernel
theorem dX11_mail_89 : decode cX11_mail 89 = .ok (.iconst 2, 1) := by decide +kernel
theorem dX11_mail_90 : decode cX11_mail 90 = .ok (.if_icmp .ne 7, 3) := by decide +kernel
theorem dX11_mail_93 : decode cX11_mail 93 = .ok (.aload_n 0, 1) := by decide +kernel
theorem dX11_mail_94 : decode cX11_mail 94 = .ok (.invokevirtual 109, 3) := by decide +kernel
abbrev mX11_deliver : hM := (yX11_deliver, cX11_deliver, 5, none)
theorem kX11_deliver : h_ml mX11_deliver 0 := ⟨h_t4 112 rfl rfl, h_t1 1 rfl rfl, ⟨by decide, by decide, by decide +kernel⟩, by decide⟩
theorem sX11_deliver : Cond.instanceMethod mX11_deliver.1 ∈ lw_g ∧ Cond.selects mX11_deliver.1.cls mX11_deliver.1 mX11_deliver.1 ∈ lw_g := ⟨h_t4 111 rfl rfl, h_ins 13 rfl⟩
theorem lX11_109 : Cond.methodLink RX11 109 mX11_deliver.1 ∈ lw_g := h_t4 109 rfl rfl
theorem dX11_mail_97 : decode cX11_mail 97 = .ok (.goto (-64), 3) := by decide +kernel
theorem dX11_mail_100 : decode cX11_mail 100 = .ok (.aload_n 0, 1) := by decide +kernel
theorem dX11_mail_101 : decode cX11_mail 101 = .ok (.iconst 0, 1) := by decide +kernel
theorem dX11_mail_102 : decode cX11_mail 102 = .ok (.putfield 88, 3) := by decide +kernel
theorem dX11_mail_105 : decode cX11_mail 105 = .ok (.iload_n 2, 1) := by decide +kernel
theorem dX11_mail_106 : decode cX11_mail 106 = .ok (.ireturn, 1) := by decide +kernel
abbrev mX11_manage : hM := (yX11_manage, cX11_manage, 6, (some (.int)))
theorem dX11_manage_0 : decode cX11_manage 0 = .ok (.aload_n 0, 1) := by decide +kernel
theorem dX11_manage_1 : decode cX11_manage 1 = .ok (.getfield 44, 3) := by decide +kernel
theorem dX11_manage_4 : decode cX11_manage 4 = .ok (.ifCond .eq 24, 3) := by decide +kernel
theorem dX11_manage_7 : decode cX11_manage 7 = .ok (.iload_n 1, 1) := by decide +kernel
theorem dX11_manage_8 : decode cX11_manage 8 = .ok (.ifCond .lt 20, 3) := by decide +kernel
theorem dX11_manage_11 : decode cX11_manage 11 = .ok (.iload_n 1, 1) := by decide +kernel
theorem dX11_manage_12 : decode cX11_manage 12 = .ok (.iconst 4, 1) := by decide +kernel
theorem dX11_manage_13 : decode cX11_manage 13 = .ok (.if_icmp .ge 15, 3) := by decide +kernel
theorem dX11_manage_16 : decode cX11_manage 16 = .ok (.iload_n 2, 1) := by decide +kernel
theorem dX11_manage_17 : decode cX11_manage 17 = .ok (.ifCond .lt 11, 3) := by decide +kernel
theorem dX11_manage_20 : decode cX11_manage 20 = .ok (.iload_n 2, 1) := by decide +kernel
theorem dX11_manage_21 : decode cX11_manage 21 = .ok (.aload_n 0, 1) := by decide +kernel
theorem dX11_manage_22 : decode cX11_manage 22 = .ok (.getfield 88, 3) := by decide +kernel
theorem dX11_manage_25 : decode cX11_manage 25 = .ok (.if_icmp .le 5, 3) := by decide +kernel
theorem dX11_manage_28 : decode cX11_manage 28 = .ok (.iconst (-1), 1) := by decide +kernel
theorem dX11_manage_29 : decode cX11_manage 29 = .ok (.ireturn, 1) := by decide +kernel
theorem dX11_manage_30 : decode cX11_manage 30 = .ok (.aload_n 0, 1) := by decide +kernel
theorem dX11_manage_31 : decode cX11_manage 31 = .ok (.getfield 21, 3) := by decide +kernel
theorem dX11_manage_34 : decode cX11_manage 34 = .ok (.iload_n 1, 1) := by decide +kernel
theorem dX11_manage_35 : decode cX11_manage 35 = .ok (.aaload, 1) := by decide +kernel
theorem dX11_manage_36 : decode cX11_manage 36 = .ok (.astore_n 3, 1) := by decide +kernel
theorem dX11_manage_37 : decode cX11_manage 37 = .ok (.iconst 0, 1) := by decide +kernel
theorem dX11_manage_38 : decode cX11_manage 38 = .ok (.istore 4, 2) := by decide +kernel
theorem dX11_manage_40 : decode cX11_manage 40 = .ok (.iload 4, 2) := by decide +kernel
theorem dX11_manage_42 : decode cX11_manage 42 = .ok (.iload_n 2, 1) := by decide +kernel
theorem dX11_manage_43 : decode cX11_manage 43 = .ok (.if_icmp .ge 84, 3) := by decide +kernel
theorem dX11_manage_46 : decode cX11_manage 46 = .ok (.iload 4, 2) := by decide +kernel
theorem dX11_manage_48 : decode cX11_manage 48 = .ok (.sipush 6000, 3) := by decide +kernel
theorem dX11_manage_51 : decode cX11_manage 51 = .ok (.if_icmp .ge 76, 3) := by decide +kernel
theorem dX11_manage_54 : decode cX11_manage 54 = .ok (.aload_n 0, 1) := by decide +kernel
theorem dX11_manage_55 : decode cX11_manage 55 = .ok (.getfield 44, 3) := by decide +kernel
theorem dX11_manage_58 : decode cX11_manage 58 = .ok (.ifCond .eq 69, 3) := by decide +kernel
theorem dX11_manage_61 : decode cX11_manage 61 = .ok (.aload_n 3, 1) := by decide +kernel
theorem dX11_manage_62 : decode cX11_manage 62 = .ok (.aload_n 0, 1) := by decide +kernel
theorem dX11_manage_63 : decode cX11_manage 63 = .ok (.getfield 9, 3) := by decide +kernel
theorem dX11_manage_66 : decode cX11_manage 66 = .ok (.iload 4, 2) := by decide +kernel
theorem dX11_manage_68 : decode cX11_manage 68 = .ok (.baload, 1) := by decide +kernel
theorem dX11_manage_69 : decode cX11_manage 69 = .ok (.sipush 255, 3) := by decide +kernel
theorem dX11_manage_72 : decode cX11_manage 72 = .ok (.iand, 1) := by decide +kernel
theorem dX11_manage_73 : decode cX11_manage 73 = .ok (.invokevirtual 112, 3) := by decide +kernel
abbrev mX8_take : hM := (yX8_take, cX8_take, 2, (some (.int)))
theorem kX8_take : h_ml mX8_take 1 := ⟨h_t6 221 rfl rfl, h_t1 7 rfl rfl, ⟨by decide, by decide, by decide +kernel⟩, by decide⟩
theorem sX8_take : Cond.instanceMethod mX8_take.1 ∈ lw_g ∧ Cond.selects mX8_take.1.cls mX8_take.1 mX8_take.1 ∈ lw_g := ⟨h_t6 219 rfl rfl, h_t6 220 rfl rfl⟩
theorem lX11_112 : Cond.methodLink RX11 112 mX8_take.1 ∈ lw_g := h_t6 218 rfl rfl
theorem dX11_manage_76 : decode cX11_manage 76 = .ok (.istore 5, 2) := by decide +kernel
theorem dX11_manage_78 : decode cX11_manage 78 = .ok (.iinc 4 1, 3) := by decide +kernel
theorem dX11_manage_81 : decode cX11_manage 81 = .ok (.iload 5, 2) := by decide +kernel
theorem dX11_manage_83 : decode cX11_manage 83 = .ok (.iconst 1, 1) := by decide +kernel
theorem dX11_manage_84 : decode cX11_manage 84 = .ok (.if_icmp .ne 19, 3) := by decide +kernel
theorem dX11_manage_87 : decode cX11_manage 87 = .ok (.aload_n 0, 1) := by decide +kernel
theorem dX11_manage_88 : decode cX11_manage 88 = .ok (.iload_n 1, 1) := by decide +kernel
theorem dX11_manage_89 : decode cX11_manage 89 = .ok (.aload_n 3, 1) := by decide +kernel
theorem dX11_manage_90 : decode cX11_manage 90 = .ok (.invokevirtual 113, 3) := by decide +kernel
abbrev mX8_command : hM := (yX8_command, cX8_command, 3, (some (.int)))
theorem kX8_command : h_ml mX8_command 0 := ⟨h_t7 37 rfl rfl, h_t1 7 rfl rfl, ⟨by decide, by decide, by decide +kernel⟩, by decide⟩
theorem sX8_command : Cond.instanceMethod mX8_command.1 ∈ lw_g ∧ Cond.selects mX8_command.1.cls mX8_command.1 mX8_command.1 ∈ lw_g := ⟨h_t7 35 rfl rfl, h_t7 36 rfl rfl⟩
theorem lX11_113 : Cond.methodLink RX11 113 mX8_command.1 ∈ lw_g := h_t7 34 rfl rfl
theorem dX11_manage_93 : decode cX11_manage 93 = .ok (.invokevirtual 117, 3) := by decide +kernel
abbrev mX11_execute : hM := (yX11_execute, cX11_execute, 5, none)
theorem kX11_execute : h_ml mX11_execute 2 := ⟨h_t7 56 rfl rfl, h_t1 1 rfl rfl, ⟨by decide, by decide, by decide +kernel⟩, by decide⟩
theorem sX11_execute : Cond.instanceMethod mX11_execute.1 ∈ lw_g ∧ Cond.selects mX11_execute.1.cls mX11_execute.1 mX11_execute.1 ∈ lw_g := ⟨h_t7 55 rfl rfl, h_ins 86 rfl⟩
theorem lX11_117 : Cond.methodLink RX11 117 mX11_execute.1 ∈ lw_g := h_t7 53 rfl rfl
theorem dX11_manage_96 : decode cX11_manage 96 = .ok (.aload_n 3, 1) := by decide +kernel
theorem dX11_manage_97 : decode cX11_manage 97 = .ok (.invokevirtual 121, 3) := by decide +kernel
abbrev mX8_reset : hM := (yX8_reset, cX8_reset, 1, none)
theorem kX8_reset : h_ml mX8_reset 0 := ⟨h_t6 127 rfl rfl, h_t1 7 rfl rfl, ⟨by decide, by decide, by decide +kernel⟩, by decide⟩
theorem sX8_reset : Cond.instanceMethod mX8_reset.1 ∈ lw_g ∧ Cond.selects mX8_reset.1.cls mX8_reset.1 mX8_reset.1 ∈ lw_g := ⟨h_t6 125 rfl rfl, h_t6 126 rfl rfl⟩
theorem lX11_121 : Cond.methodLink RX11 121 mX8_reset.1 ∈ lw_g := h_t6 124 rfl rfl
theorem dX11_manage_100 : decode cX11_manage 100 = .ok (.goto 24, 3) := by decide +kernel
theorem dX11_manage_103 : decode cX11_manage 103 = .ok (.iload 5, 2) := by decide +kernel
theorem dX11_manage_105 : decode cX11_manage 105 = .ok (.iconst 2, 1) := by decide +kernel
theorem dX11_manage_106 : decode cX11_manage 106 = .ok (.if_icmp .ne 18, 3) := by decide +kernel
theorem dX11_manage_109 : decode cX11_manage 109 = .ok (.aload_n 0, 1) := by decide +kernel
theorem dX11_manage_110 : decode cX11_manage 110 = .ok (.getfield 15, 3) := by decide +kernel
theorem dX11_manage_113 : decode cX11_manage 113 = .ok (.iload_n 1, 1) := by decide +kernel
theorem dX11_manage_114 : decode cX11_manage 114 = .ok (.aaload, 1) := by decide +kernel
theorem dX11_manage_115 : decode cX11_manage 115 = .ok (.ldc 124, 2) := by decide +kernel
theorem dX11_manage_117 : decode cX11_manage 117 = .ok (.invokevirtual 126, 3) := by decide +kernel
abbrev mX5_refusal : hM := (yX5_refusal, cX5_refusal, 2, none)
theorem kX5_refusal : h_ml mX5_refusal 1 := ⟨h_t7 85 rfl rfl, h_t1 6 rfl rfl, ⟨by decide, by decide, by decide +kernel⟩, by decide⟩
theorem sX5_refusal : Cond.instanceMethod mX5_refusal.1 ∈ lw_g ∧ Cond.selects mX5_refusal.1.cls mX5_refusal.1 mX5_refusal.1 ∈ lw_g := ⟨h_t7 83 rfl rfl, h_t7 84 rfl rfl⟩
theorem lX11_126 : Cond.methodLink RX11 126 mX5_refusal.1 ∈ lw_g := h_t7 82 rfl rfl
theorem dX11_manage_120 : decode cX11_manage 120 = .ok (.aload_n 3, 1) := by decide +kernel
theorem dX11_manage_121 : decode cX11_manage 121 = .ok (.invokevirtual 121, 3) := by decide +kernel
theorem dX11_manage_124 : decode cX11_manage 124 = .ok (.goto (-84), 3) := by decide +kernel
theorem dX11_manage_127 : decode cX11_manage 127 = .ok (.aload_n 0, 1) := by decide +kernel
theorem dX11_manage_128 : decode cX11_manage 128 = .ok (.iconst 0, 1) := by decide +kernel
theorem dX11_manage_129 : decode cX11_manage 129 = .ok (.putfield 88, 3) := by decide +kernel
theorem dX11_manage_132 : decode cX11_manage 132 = .ok (.iload 4, 2) := by decide +kernel
theorem dX11_manage_134 : decode cX11_manage 134 = .ok (.ireturn, 1) := by decide +kernel
def S220 : List Nat := [50, 50, 48, 32, 104, 101, 114, 101, 32, 76, 77, 84, 80]
theorem S220_b : ∀ b ∈ S220, b < 128 := by decide
set_option maxRecDepth 100000 in
set_option maxHeartbeats 4000000 in
/-- Delivery.open -/
theorem ct_D_open {l : Launch} {D : va_G} {A : Nat → ClassId} {B : Nat} {Z : State → Heap → Prop} {vF : Value} (hs : zs B Z vF) {d : Nat} {σ : hS} {sq sw : Nat} (hsk : ∀ (U : State) (H : Heap), Z U H → vk_R RX0 39 "220 here LMTP" sq U) (hst : sC B Z sq sw S220) {n0 : Nat} {txs io lz ste acr gre big : Int32} (hdl : σ.1 (n0 + 1041) = some (dlO n0 txs io lz ste acr gre big)) {sp sq2 : Nat → Int32} {sg rg : Nat → Int32} {rp rq : Nat → Int32} {ssz sbe sus rsz rbe rus : Nat} (hse : txA A σ (n0 + 1042) (n0 + 1043) (n0 + 1044) (n0 + 1045) 101 1 sg sp sq2 ssz sbe sus) (hre : txA A σ (n0 + 1046) (n0 + 1047) (n0 + 1048) (n0 + 1049) 404 4 rg rp rq rsz rbe rus) {xs : List Int32} (hq : qAt A σ (n0 + 1039) (n0 + 1040) xs) (hd1 : 6 ≤ d) : Ct l D (h_ty A) B Z d mX0_open σ [.ref (n0 + 1041)] (fun σ1 v => v = none ∧ σ1.1 (n0 + 1041) = some (dlO n0 txs 1 0 0 0 0 big) ∧ txA A σ1 (n0 + 1042) (n0 + 1043) (n0 + 1044) (n0 + 1045) 101 1 sg sp sq2 0 0 0 ∧ txA A σ1 (n0 + 1046) (n0 + 1047) (n0 + 1048) (n0 + 1049) 404 4 rg rp rq 0 0 0 ∧ qAt A σ1 (n0 + 1039) (n0 + 1040) (q_adds xs (S220 ++ CRLF)) ∧ h_fr (fun q => q = n0 + 1041 ∨ q = n0 + 1042 ∨ q = n0 + 1046 ∨ q = n0 + 1039 ∨ q = n0 + 1040) σ σ1) := by
  obtain ⟨fs, hqo⟩ := q_ob hq
  refine ct_of rfl hs.1 (Nat.le_of_ble_eq_true rfl) ?_
  show G _ _ _ _ _ _ _ _ _ _ 0 [(0, .ref (n0 + 1041))] []
  refine g_aload_n dX0_open_0 rfl (List.mem_of_getElem? (i := 0) rfl) ?_
  refine g_cv (d1 := 1) (As := []) (st := []) (ct_D_close hs.1 hdl hse hre (by omega)) (h_rcO (r := (RX0, TX0, 12)) hdl rfl) kX0_close lX0_32 sX0_close (by omega) (Nat.le_of_ble_eq_true rfl) dX0_open_1 (fun τ1 v1 h1 z1 => ?_)
  obtain ⟨rfl, gd, gs, gr, gf⟩ := h1
  show G _ _ _ _ _ _ _ _ _ _ 4 [(0, .ref (n0 + 1041))] []
  refine g_aload_n dX0_open_4 rfl (List.mem_of_getElem? (i := 0) rfl) ?_
  refine g_iconst (v := 1) dX0_open_5 (by decide) ?_
  refine g_put (ft := .boolean) fX0_35 ptX0 (Or.inl rfl) gd (by decide +kernel) rfl rfl (Nat.le_of_ble_eq_true rfl) dX0_open_6 ?_
  refine g_aload_n dX0_open_9 rfl (List.mem_of_getElem? (i := 0) rfl) ?_
  refine g_get fX0_28 h_e (v := .ref (n0 + 1039)) rfl dX0_open_10 ?_
  refine g_ldcS (q := sq) (fun U H hz => hsk U H hz) dX0_open_13 ?_
  refine g_cv (d1 := 5) (As := [.ref sq]) (st := []) (ct_Q_line hs (by omega) (bs := S220) hst (by decide) S220_b (q_fr hq (F := fun q => q = n0 + 1041 ∨ q = n0 + 1042 ∨ q = n0 + 1046) ⟨fun q hq => h_n (fun h => hq (Or.inl h)) (gf.1 q hq), gf.2⟩ (fun h => h.elim (h_ad (n := n0) (i := 1039) (j := 1041) (by decide)) (fun h => h.elim (h_ad (n := n0) (i := 1039) (j := 1042) (by decide)) (h_ad (n := n0) (i := 1039) (j := 1046) (by decide)))) (fun h => h.elim (h_ad (n := n0) (i := 1040) (j := 1041) (by decide)) (fun h => h.elim (h_ad (n := n0) (i := 1040) (j := 1042) (by decide)) (h_ad (n := n0) (i := 1040) (j := 1046) (by decide)))))) (h_rcO (r := (RX5, TX5, 3)) (h_n (h_ad (n := n0) (i := 1039) (j := 1041) (by decide)) ((gf.1 _ (fun h => h.elim (h_ad (n := n0) (i := 1039) (j := 1041) (by decide)) (fun h => h.elim (h_ad (n := n0) (i := 1039) (j := 1042) (by decide)) (h_ad (n := n0) (i := 1039) (j := 1046) (by decide))))).trans hqo)) rfl) kX5_line lX0_41 sX5_line (by omega) (Nat.le_of_ble_eq_true rfl) dX0_open_15 (fun τ15 v15 h15 z15 => ?_)
  obtain ⟨rfl, gq, gl⟩ := h15
  show G _ _ _ _ _ _ _ _ _ _ 18 [(0, .ref (n0 + 1041))] []
  exact g_vret rfl dX0_open_18 (⟨rfl, (gl.1 _ (fun h => h.elim (h_ad (n := n0) (i := 1041) (j := 1039) (by decide)) (h_ad (n := n0) (i := 1041) (j := 1040) (by decide)))).trans h_e, gs.fr (σ1 := τ15) (F := fun q => q = n0 + 1041 ∨ q = n0 + 1039 ∨ q = n0 + 1040) ⟨fun q hq => (gl.1 q (fun h => hq (Or.inr h))).trans (h_n (fun h => hq (Or.inl h)) rfl), gl.2.trans rfl⟩ (fun h => h.elim (h_ad (n := n0) (i := 1042) (j := 1041) (by decide)) (fun h => h.elim (h_ad (n := n0) (i := 1042) (j := 1039) (by decide)) (h_ad (n := n0) (i := 1042) (j := 1040) (by decide)))) (fun h => h.elim (h_ad (n := n0) (i := 1043) (j := 1041) (by decide)) (fun h => h.elim (h_ad (n := n0) (i := 1043) (j := 1039) (by decide)) (h_ad (n := n0) (i := 1043) (j := 1040) (by decide)))) (fun h => h.elim (h_ad (n := n0) (i := 1044) (j := 1041) (by decide)) (fun h => h.elim (h_ad (n := n0) (i := 1044) (j := 1039) (by decide)) (h_ad (n := n0) (i := 1044) (j := 1040) (by decide)))) (fun h => h.elim (h_ad (n := n0) (i := 1045) (j := 1041) (by decide)) (fun h => h.elim (h_ad (n := n0) (i := 1045) (j := 1039) (by decide)) (h_ad (n := n0) (i := 1045) (j := 1040) (by decide)))), gr.fr (σ1 := τ15) (F := fun q => q = n0 + 1041 ∨ q = n0 + 1039 ∨ q = n0 + 1040) ⟨fun q hq => (gl.1 q (fun h => hq (Or.inr h))).trans (h_n (fun h => hq (Or.inl h)) rfl), gl.2.trans rfl⟩ (fun h => h.elim (h_ad (n := n0) (i := 1046) (j := 1041) (by decide)) (fun h => h.elim (h_ad (n := n0) (i := 1046) (j := 1039) (by decide)) (h_ad (n := n0) (i := 1046) (j := 1040) (by decide)))) (fun h => h.elim (h_ad (n := n0) (i := 1047) (j := 1041) (by decide)) (fun h => h.elim (h_ad (n := n0) (i := 1047) (j := 1039) (by decide)) (h_ad (n := n0) (i := 1047) (j := 1040) (by decide)))) (fun h => h.elim (h_ad (n := n0) (i := 1048) (j := 1041) (by decide)) (fun h => h.elim (h_ad (n := n0) (i := 1048) (j := 1039) (by decide)) (h_ad (n := n0) (i := 1048) (j := 1040) (by decide)))) (fun h => h.elim (h_ad (n := n0) (i := 1049) (j := 1041) (by decide)) (fun h => h.elim (h_ad (n := n0) (i := 1049) (j := 1039) (by decide)) (h_ad (n := n0) (i := 1049) (j := 1040) (by decide)))), gq, ⟨fun q hq => (gl.1 q (fun h => hq (Or.inr (Or.inr (Or.inr h))))).trans (h_n (fun h => hq (Or.inl h)) (gf.1 q (fun h => hq (h.elim Or.inl (fun h => Or.inr (h.elim Or.inl (fun h => Or.inr (Or.inl h)))))))), gl.2.trans gf.2⟩⟩)
set_option maxRecDepth 100000 in
set_option maxHeartbeats 4000000 in
/-- connect -/
theorem ct_connect {l : Launch} {D : va_G} {A : Nat → ClassId} {B : Nat} {Z : State → Heap → Prop} {vF : Value} (hs : zs B Z vF) {d : Nat} {σ : hS} {sq sw : Nat} (hsk : ∀ (U : State) (H : Heap), Z U H → vk_R RX0 39 "220 here LMTP" sq U) (hst : sC B Z sq sw S220) {a n0 : Nat} {ts mc oc mb dy cm ci : Nat} {pw : Int32} (ha : σ.1 a = some (smO n0 ts mc oc mb dy cm ci pw)) {txs io lz ste acr gre big : Int32} (hdl : σ.1 (n0 + 1041) = some (dlO n0 txs io lz ste acr gre big)) {sp sq2 : Nat → Int32} {sg rg : Nat → Int32} {rp rq : Nat → Int32} {ssz sbe sus rsz rbe rus : Nat} (hse : txA A σ (n0 + 1042) (n0 + 1043) (n0 + 1044) (n0 + 1045) 101 1 sg sp sq2 ssz sbe sus) (hre : txA A σ (n0 + 1046) (n0 + 1047) (n0 + 1048) (n0 + 1049) 404 4 rg rp rq rsz rbe rus) {xs : List Int32} (hq : qAt A σ (n0 + 1039) (n0 + 1040) xs) (hd1 : 7 ≤ d) : Ct l D (h_ty A) B Z d mX11_connect σ [.ref a] (fun σ1 v => ¬ pw = 0 ∧ v = some (.int 1) ∧ (σ1.1 (n0 + 1041) = some (dlO n0 txs 1 0 0 0 0 big) ∧ txA A σ1 (n0 + 1042) (n0 + 1043) (n0 + 1044) (n0 + 1045) 101 1 sg sp sq2 0 0 0 ∧ txA A σ1 (n0 + 1046) (n0 + 1047) (n0 + 1048) (n0 + 1049) 404 4 rg rp rq 0 0 0 ∧ qAt A σ1 (n0 + 1039) (n0 + 1040) (q_adds xs (S220 ++ CRLF)) ∧ h_fr (fun q => q = n0 + 1041 ∨ q = n0 + 1042 ∨ q = n0 + 1046 ∨ q = n0 + 1039 ∨ q = n0 + 1040) σ σ1) ∨ pw = 0 ∧ v = some (.int 0) ∧ σ1 = σ) := by
  refine ct_of rfl hs.1 (Nat.le_of_ble_eq_true rfl) ?_
  show G _ _ _ _ _ _ _ _ _ _ 0 [(0, .ref a)] []
  refine g_aload_n dX11_connect_0 rfl (List.mem_of_getElem? (i := 0) rfl) ?_
  refine g_get fX11_44 ha (v := .int pw) rfl dX11_connect_1 ?_
  refine g_if_ne (tgt := 9) dX11_connect_4 (by decide) (fun c4 => ?_) (fun c4 => ?_)
  · have c4 := c4
    refine g_aload_n dX11_connect_9 rfl (List.mem_of_getElem? (i := 0) rfl) ?_
    refine g_get fX11_56 ha (v := .ref (n0 + 1041)) rfl dX11_connect_10 ?_
    refine g_cv (d1 := 6) (As := []) (st := []) (ct_D_open hs hsk hst hdl hse hre hq (by omega)) (h_rcO (r := (RX0, TX0, 12)) hdl rfl) kX0_open lX11_96 sX0_open (by omega) (Nat.le_of_ble_eq_true rfl) dX11_connect_13 (fun τ13 v13 h13 z13 => ?_)
    have h13 := h13
    obtain ⟨rfl, -⟩ := h13
    show G _ _ _ _ _ _ _ _ _ _ 16 [(0, .ref a)] []
    refine g_iconst (v := 1) dX11_connect_16 (by decide) ?_
    exact g_zret rfl rfl dX11_connect_17 (Or.inl ⟨c4, rfl, h13.2⟩)
  · have c4 := c4
    refine g_iconst (v := 0) dX11_connect_7 (by decide) ?_
    exact g_zret rfl rfl dX11_connect_8 (Or.inr ⟨c4, rfl, rfl⟩)
set_option maxRecDepth 100000 in
set_option maxHeartbeats 4000000 in
/-- mail without a session -/
theorem ct_mail0 {l : Launch} {D : va_G} {A : Nat → ClassId} {B : Nat} {Z : State → Heap → Prop} (hZ : h_st B Z) {d : Nat} {σ : hS} {a n0 : Nat} {ts mc oc mb dy cm ci : Nat} {pw : Int32} (ha : σ.1 a = some (smO n0 ts mc oc mb dy cm ci pw)) {txs io lz ste acr gre big : Int32} (hdl : σ.1 (n0 + 1041) = some (dlO n0 txs io lz ste acr gre big)) (hio : io = 0) {n : Int32} : Ct l D (h_ty A) B Z d mX11_mail σ [.ref a, .int n] (fun σ1 v => σ1 = σ ∧ v = some (.int (-1))) := by
  refine ct_of rfl hZ (Nat.le_of_ble_eq_true rfl) ?_
  show G _ _ _ _ _ _ _ _ _ _ 0 [(0, .ref a), (1, .int n)] []
  refine g_aload_n dX11_mail_0 rfl (List.mem_of_getElem? (i := 0) rfl) ?_
  refine g_get fX11_44 ha (v := .int pw) rfl dX11_mail_1 ?_
  refine g_if_eq (tgt := 29) dX11_mail_4 (by decide) (fun c4 => ?_) (fun c4 => ?_)
  · have c4 := c4
    refine g_iconst (v := -1) dX11_mail_29 (by decide) ?_
    exact g_iret rfl dX11_mail_30 (⟨rfl, rfl⟩)
  · have c4 := c4
    refine g_aload_n dX11_mail_7 rfl (List.mem_of_getElem? (i := 0) rfl) ?_
    refine g_get fX11_56 ha (v := .ref (n0 + 1041)) rfl dX11_mail_8 ?_
    refine g_get fX11_99 hdl (v := .int io) rfl dX11_mail_11 ?_
    refine g_if_eq (tgt := 29) dX11_mail_14 (by decide) (fun c14 => ?_) (fun c14 => absurd (hio) c14)
    refine g_iconst (v := -1) dX11_mail_29 (by decide) ?_
    exact g_iret rfl dX11_mail_30 (⟨rfl, rfl⟩)
/-- the sessions for scripts: where they are -/
def seF (n0 : Nat) : Nat → Option Nat := fun u => if u < 4 then some (n0 + 977 + 16 * u) else none
theorem seF_in {n0 u : Nat} (h : u < 4) : va_rf (seF n0 (nI u).toNatClampNeg) = .ref (n0 + 977 + 16 * u) := by
  rw [nI_clamp (by omega)]
  unfold seF
  rw [if_pos h]
  rfl
set_option maxRecDepth 100000 in
set_option maxHeartbeats 4000000 in
/-- manage with an empty tape -/
theorem ct_manage0 {l : Launch} {D : va_G} {A : Nat → ClassId} {B : Nat} {Z : State → Heap → Prop} (hZ : h_st B Z) {d : Nat} {σ : hS} {a n0 : Nat} {mc oc mb dy cm ci : Nat} {pw : Int32} (ha : σ.1 a = some (smO n0 0 mc oc mb dy cm ci pw)) (hse : σ.1 (n0 + 2) = some (.inl (A 5, 4, .inr (.inr (.inr (.inr (seF n0))))))) {k m : Int32} : Ct l D (h_ty A) B Z d mX11_manage σ [.ref a, .int k, .int m] (fun σ1 v => ((¬ pw = 0 ∧ ∃ u : Nat, u < 4 ∧ k = nI u ∧ m = nI 0 ∧ v = some (.int 0)) ∨ ¬ (¬ pw = 0 ∧ ∃ u : Nat, u < 4 ∧ k = nI u ∧ m = nI 0) ∧ v = some (.int (-1))) ∧ h_fr (fun q => q = a) σ σ1 ∧ σ1.1 a = some (smO n0 0 mc oc mb dy cm ci pw)) := by
  refine ct_of rfl hZ (Nat.le_of_ble_eq_true rfl) ?_
  show G _ _ _ _ _ _ _ _ _ _ 0 [(0, .ref a), (1, .int k), (2, .int m)] []
  refine g_aload_n dX11_manage_0 rfl (List.mem_of_getElem? (i := 0) rfl) ?_
  refine g_get fX11_44 ha (v := .int pw) rfl dX11_manage_1 ?_
  refine g_if_eq (tgt := 28) dX11_manage_4 (by decide) (fun c4 => ?_) (fun c4 => ?_)
  · have c4 := c4
    refine g_iconst (v := -1) dX11_manage_28 (by decide) ?_
    exact g_iret rfl dX11_manage_29 (⟨Or.inr ⟨fun h => h.1 c4, rfl⟩, h_fr.rf, ha⟩)
  · have c4 := c4
    refine g_iload_n dX11_manage_7 rfl (List.mem_of_getElem? (i := 1) rfl) ?_
    refine g_if_lt (tgt := 28) dX11_manage_8 (by decide) (fun c8 => ?_) (fun c8 => ?_)
    · have c8 := c8
      refine g_iconst (v := -1) dX11_manage_28 (by decide) ?_
      exact g_iret rfl dX11_manage_29 (⟨Or.inr ⟨fun ⟨_, u, hu, e, _⟩ => by subst e; exact nI_pos (by omega) c8, rfl⟩, h_fr.rf, ha⟩)
    · have c8 := c8
      refine g_iload_n dX11_manage_11 rfl (List.mem_of_getElem? (i := 1) rfl) ?_
      refine g_iconst (v := 4) dX11_manage_12 (by decide) ?_
      refine g_icmp_ge (tgt := 28) dX11_manage_13 (by decide) (fun c13 => ?_) (fun c13 => ?_)
      · have c13 := c13
        refine g_iconst (v := -1) dX11_manage_28 (by decide) ?_
        exact g_iret rfl dX11_manage_29 (⟨Or.inr ⟨fun ⟨_, u, hu, e, _⟩ => by subst e; have := (nI_leI (a := 4) (b := u) (by decide) (by omega)).mp c13; omega, rfl⟩, h_fr.rf, ha⟩)
      · have c13 := c13
        refine g_iload_n dX11_manage_16 rfl (List.mem_of_getElem? (i := 2) rfl) ?_
        refine g_if_lt (tgt := 28) dX11_manage_17 (by decide) (fun c17 => ?_) (fun c17 => ?_)
        · have c17 := c17
          refine g_iconst (v := -1) dX11_manage_28 (by decide) ?_
          exact g_iret rfl dX11_manage_29 (⟨Or.inr ⟨fun ⟨_, u, hu, _, e⟩ => by subst e; exact absurd c17 (by decide), rfl⟩, h_fr.rf, ha⟩)
        · have c17 := c17
          refine g_iload_n dX11_manage_20 rfl (List.mem_of_getElem? (i := 2) rfl) ?_
          refine g_aload_n dX11_manage_21 rfl (List.mem_of_getElem? (i := 0) rfl) ?_
          refine g_get fX11_88 ha (v := .int (nI 0)) rfl dX11_manage_22 ?_
          refine g_icmp_le (tgt := 30) dX11_manage_25 (by decide) (fun c25 => ?_) (fun c25 => ?_)
          · obtain ⟨u, hu2, rfl⟩ := nI_of c8
            have hu : u < 4 := Nat.lt_of_not_le fun h => c13 ((nI_leI (a := 4) (b := u) (by decide) hu2).mpr h)
            obtain ⟨n, hn2, rfl⟩ := nI_of c17
            have hn : n = 0 := by have := (nI_leI (a := n) (b := 0) hn2 (by decide)).mp c25; omega
            subst hn
            refine g_aload_n dX11_manage_30 rfl (List.mem_of_getElem? (i := 0) rfl) ?_
            refine g_get fX11_21 ha (v := .ref (n0 + 2)) rfl dX11_manage_31 ?_
            refine g_iload_n dX11_manage_34 rfl (List.mem_of_getElem? (i := 1) rfl) ?_
            refine g_aald (t0 := 5) rfl hse (vp_in_nI hu (by decide)) dX11_manage_35 ?_
            refine g_eqv (.ref (n0 + 977 + 16 * u)) (seF_in hu) ?_
            refine g_astore_n dX11_manage_36 rfl (by decide) rfl ?_
            refine g_iconst (v := 0) dX11_manage_37 (by decide) ?_
            refine g_istore dX11_manage_38 (by decide) rfl ?_
            refine g_iload dX11_manage_40 (List.mem_of_getElem? (i := 0) rfl) ?_
            refine g_iload_n dX11_manage_42 rfl (List.mem_of_getElem? (i := 4) rfl) ?_
            refine g_icmp_ge (tgt := 127) dX11_manage_43 (by decide) (fun c43 => ?_) (fun c43 => absurd ((by decide : (nI 0 : Int32) ≤ 0)) c43)
            refine g_aload_n dX11_manage_127 rfl (List.mem_of_getElem? (i := 2) rfl) ?_
            refine g_iconst (v := 0) dX11_manage_128 (by decide) ?_
            refine g_put (ft := .int) fX11_88 ptX11 (Or.inl rfl) ha (by decide +kernel) rfl rfl (Nat.le_of_ble_eq_true rfl) dX11_manage_129 ?_
            refine g_iload dX11_manage_132 (List.mem_of_getElem? (i := 0) rfl) ?_
            exact g_iret rfl dX11_manage_134 (⟨Or.inl ⟨c4, u, hu, rfl, rfl, rfl⟩, ⟨fun q hq => h_n hq rfl, rfl⟩, h_e⟩)
          · have c25 := c25
            refine g_iconst (v := -1) dX11_manage_28 (by decide) ?_
            exact g_iret rfl dX11_manage_29 (⟨Or.inr ⟨fun ⟨_, u, hu, _, e⟩ => by subst e; exact absurd c25 (by decide), rfl⟩, h_fr.rf, ha⟩)
