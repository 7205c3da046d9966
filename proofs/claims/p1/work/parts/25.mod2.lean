abbrev mX12_commit : hM := (yX12_commit, cX12_commit, 2, (some (.boolean)))
theorem dX12_commit_0 : decode cX12_commit 0 = .ok (.aload_n 0, 1) := by decide +kernel
theorem dX12_commit_1 : decode cX12_commit 1 = .ok (.getfield 1, 3) := by decide +kernel
theorem dX12_commit_4 : decode cX12_commit 4 = .ok (.ifCond .le 50, 3) := by decide +kernel
theorem dX12_commit_7 : decode cX12_commit 7 = .ok (.aload_n 0, 1) := by decide +kernel
theorem dX12_commit_8 : decode cX12_commit 8 = .ok (.aload_n 0, 1) := by decide +kernel
theorem dX12_commit_9 : decode cX12_commit 9 = .ok (.getfield 1, 3) := by decide +kernel
theorem dX12_commit_12 : decode cX12_commit 12 = .ok (.iconst 1, 1) := by decide +kernel
theorem dX12_commit_13 : decode cX12_commit 13 = .ok (.isub, 1) := by decide +kernel
theorem dX12_commit_14 : decode cX12_commit 14 = .ok (.putfield 1, 3) := by decide +kernel
theorem dX12_commit_17 : decode cX12_commit 17 = .ok (.aload_n 0, 1) := by decide +kernel
theorem dX12_commit_18 : decode cX12_commit 18 = .ok (.getfield 1, 3) := by decide +kernel
theorem dX12_commit_21 : decode cX12_commit 21 = .ok (.ifCond .ne 33, 3) := by decide +kernel
theorem dX12_commit_24 : decode cX12_commit 24 = .ok (.aload_n 0, 1) := by decide +kernel
theorem dX12_commit_25 : decode cX12_commit 25 = .ok (.iconst 0, 1) := by decide +kernel
theorem dX12_commit_26 : decode cX12_commit 26 = .ok (.putfield 7, 3) := by decide +kernel
theorem dX12_commit_29 : decode cX12_commit 29 = .ok (.aload_n 0, 1) := by decide +kernel
theorem dX12_commit_30 : decode cX12_commit 30 = .ok (.iconst 0, 1) := by decide +kernel
theorem dX12_commit_31 : decode cX12_commit 31 = .ok (.putfield 11, 3) := by decide +kernel
theorem fX12_11 : h_fl RX12 11 12 113 RX12 TX12 153 := ⟨rfl, by decide, inX12, h_t12 74 rfl rfl⟩
theorem dX12_commit_34 : decode cX12_commit 34 = .ok (.iconst 0, 1) := by decide +kernel
theorem dX12_commit_35 : decode cX12_commit 35 = .ok (.istore_n 1, 1) := by decide +kernel
theorem dX12_commit_36 : decode cX12_commit 36 = .ok (.iload_n 1, 1) := by decide +kernel
theorem dX12_commit_37 : decode cX12_commit 37 = .ok (.iconst 4, 1) := by decide +kernel
theorem dX12_commit_38 : decode cX12_commit 38 = .ok (.if_icmp .ge 14, 3) := by decide +kernel
theorem dX12_commit_41 : decode cX12_commit 41 = .ok (.aload_n 0, 1) := by decide +kernel
theorem dX12_commit_42 : decode cX12_commit 42 = .ok (.iload_n 1, 1) := by decide +kernel
theorem dX12_commit_43 : decode cX12_commit 43 = .ok (.invokevirtual 14, 3) := by decide +kernel
abbrev mX12_fresh : hM := (yX12_fresh, cX12_fresh, 2, none)
theorem kX12_fresh : h_ml mX12_fresh 1 := ⟨h_t10 133 rfl rfl, h_t1 16 rfl rfl, ⟨by decide, by decide, by decide +kernel⟩, by decide⟩
theorem sX12_fresh : Cond.instanceMethod mX12_fresh.1 ∈ lw_g ∧ Cond.selects mX12_fresh.1.cls mX12_fresh.1 mX12_fresh.1 ∈ lw_g := ⟨h_t10 132 rfl rfl, h_ins 226 rfl⟩
theorem lX12_14 : Cond.methodLink RX12 14 mX12_fresh.1 ∈ lw_g := h_t10 130 rfl rfl
theorem dX12_commit_46 : decode cX12_commit 46 = .ok (.iinc 1 1, 3) := by decide +kernel
theorem dX12_commit_49 : decode cX12_commit 49 = .ok (.goto (-13), 3) := by decide +kernel
theorem dX12_commit_52 : decode cX12_commit 52 = .ok (.iconst 0, 1) := by decide +kernel
theorem dX12_commit_53 : decode cX12_commit 53 = .ok (.ireturn, 1) := by decide +kernel
theorem dX12_commit_54 : decode cX12_commit 54 = .ok (.aload_n 0, 1) := by decide +kernel
theorem dX12_commit_55 : decode cX12_commit 55 = .ok (.aload_n 0, 1) := by decide +kernel
theorem dX12_commit_56 : decode cX12_commit 56 = .ok (.getfield 18, 3) := by decide +kernel
theorem dX12_commit_59 : decode cX12_commit 59 = .ok (.iconst 1, 1) := by decide +kernel
theorem dX12_commit_60 : decode cX12_commit 60 = .ok (.iadd, 1) := by decide +kernel
theorem dX12_commit_61 : decode cX12_commit 61 = .ok (.putfield 18, 3) := by decide +kernel
theorem dX12_commit_64 : decode cX12_commit 64 = .ok (.iconst 1, 1) := by decide +kernel
theorem dX12_commit_65 : decode cX12_commit 65 = .ok (.ireturn, 1) := by decide +kernel
abbrev mX12_tick : hM := (yX12_tick, cX12_tick, 1, (some (.int)))
theorem dX12_tick_0 : decode cX12_tick 0 = .ok (.aload_n 0, 1) := by decide +kernel
theorem dX12_tick_1 : decode cX12_tick 1 = .ok (.getfield 7, 3) := by decide +kernel
theorem dX12_tick_4 : decode cX12_tick 4 = .ok (.ifCond .eq 10, 3) := by decide +kernel
theorem dX12_tick_7 : decode cX12_tick 7 = .ok (.aload_n 0, 1) := by decide +kernel
theorem dX12_tick_8 : decode cX12_tick 8 = .ok (.invokevirtual 993, 3) := by decide +kernel
theorem kX12_commit : h_ml mX12_commit 0 := ⟨h_t10 129 rfl rfl, h_t1 16 rfl rfl, ⟨by decide, by decide, by decide +kernel⟩, by decide⟩
theorem sX12_commit : Cond.instanceMethod mX12_commit.1 ∈ lw_g ∧ Cond.selects mX12_commit.1.cls mX12_commit.1 mX12_commit.1 ∈ lw_g := ⟨h_t10 128 rfl rfl, h_ins 225 rfl⟩
theorem lX12_993 : Cond.methodLink RX12 993 mX12_commit.1 ∈ lw_g := h_t10 126 rfl rfl
theorem dX12_tick_11 : decode cX12_tick 11 = .ok (.ifCond .ne 5, 3) := by decide +kernel
theorem dX12_tick_14 : decode cX12_tick 14 = .ok (.iconst (-1), 1) := by decide +kernel
theorem dX12_tick_15 : decode cX12_tick 15 = .ok (.ireturn, 1) := by decide +kernel
theorem dX12_tick_16 : decode cX12_tick 16 = .ok (.aload_n 0, 1) := by decide +kernel
theorem dX12_tick_17 : decode cX12_tick 17 = .ok (.aload_n 0, 1) := by decide +kernel
theorem dX12_tick_18 : decode cX12_tick 18 = .ok (.getfield 863, 3) := by decide +kernel
theorem fX12_863 : h_fl RX12 863 12 1 RX12 TX12 153 := ⟨rfl, by decide, inX12, h_t11 202 rfl rfl⟩
theorem dX12_tick_21 : decode cX12_tick 21 = .ok (.iconst 1, 1) := by decide +kernel
theorem dX12_tick_22 : decode cX12_tick 22 = .ok (.iadd, 1) := by decide +kernel
theorem dX12_tick_23 : decode cX12_tick 23 = .ok (.putfield 863, 3) := by decide +kernel
theorem dX12_tick_26 : decode cX12_tick 26 = .ok (.aload_n 0, 1) := by decide +kernel
theorem dX12_tick_27 : decode cX12_tick 27 = .ok (.getfield 863, 3) := by decide +kernel
theorem dX12_tick_30 : decode cX12_tick 30 = .ok (.ireturn, 1) := by decide +kernel
abbrev mX12_isBox : hM := (yX12_isBox, cX12_isBox, 3, (some (.boolean)))
theorem dX12_isBox_0 : decode cX12_isBox 0 = .ok (.iload_n 1, 1) := by decide +kernel
theorem dX12_isBox_1 : decode cX12_isBox 1 = .ok (.ifCond .lt 26, 3) := by decide +kernel
theorem dX12_isBox_4 : decode cX12_isBox 4 = .ok (.iload_n 1, 1) := by decide +kernel
theorem dX12_isBox_5 : decode cX12_isBox 5 = .ok (.iconst 4, 1) := by decide +kernel
theorem dX12_isBox_6 : decode cX12_isBox 6 = .ok (.if_icmp .ge 21, 3) := by decide +kernel
theorem dX12_isBox_9 : decode cX12_isBox 9 = .ok (.iload_n 2, 1) := by decide +kernel
theorem dX12_isBox_10 : decode cX12_isBox 10 = .ok (.ifCond .lt 17, 3) := by decide +kernel
theorem dX12_isBox_13 : decode cX12_isBox 13 = .ok (.iload_n 2, 1) := by decide +kernel
theorem dX12_isBox_14 : decode cX12_isBox 14 = .ok (.aload_n 0, 1) := by decide +kernel
theorem dX12_isBox_15 : decode cX12_isBox 15 = .ok (.getfield 796, 3) := by decide +kernel
theorem dX12_isBox_18 : decode cX12_isBox 18 = .ok (.iload_n 1, 1) := by decide +kernel
theorem dX12_isBox_19 : decode cX12_isBox 19 = .ok (.iaload, 1) := by decide +kernel
theorem dX12_isBox_20 : decode cX12_isBox 20 = .ok (.if_icmp .ge 7, 3) := by decide +kernel
theorem dX12_isBox_23 : decode cX12_isBox 23 = .ok (.iconst 1, 1) := by decide +kernel
theorem dX12_isBox_24 : decode cX12_isBox 24 = .ok (.goto 4, 3) := by decide +kernel
theorem dX12_isBox_27 : decode cX12_isBox 27 = .ok (.iconst 0, 1) := by decide +kernel
theorem dX12_isBox_28 : decode cX12_isBox 28 = .ok (.ireturn, 1) := by decide +kernel
abbrev mX12_messages : hM := (yX12_messages, cX12_messages, 5, (some (.int)))
theorem dX12_messages_0 : decode cX12_messages 0 = .ok (.aload_n 0, 1) := by decide +kernel
theorem dX12_messages_1 : decode cX12_messages 1 = .ok (.iload_n 1, 1) := by decide +kernel
theorem dX12_messages_2 : decode cX12_messages 2 = .ok (.iload_n 2, 1) := by decide +kernel
theorem dX12_messages_3 : decode cX12_messages 3 = .ok (.invokevirtual 1389, 3) := by decide +kernel
theorem kX12_isBox : h_ml mX12_isBox 2 := ⟨h_t13 202 rfl rfl, h_t1 16 rfl rfl, ⟨by decide, by decide, by decide +kernel⟩, by decide⟩
theorem sX12_isBox : Cond.instanceMethod mX12_isBox.1 ∈ lw_g ∧ Cond.selects mX12_isBox.1.cls mX12_isBox.1 mX12_isBox.1 ∈ lw_g := ⟨h_t13 201 rfl rfl, h_ins 286 rfl⟩
theorem lX12_1389 : Cond.methodLink RX12 1389 mX12_isBox.1 ∈ lw_g := h_t13 199 rfl rfl
theorem dX12_messages_6 : decode cX12_messages 6 = .ok (.ifCond .ne 5, 3) := by decide +kernel
theorem dX12_messages_9 : decode cX12_messages 9 = .ok (.iconst (-1), 1) := by decide +kernel
theorem dX12_messages_10 : decode cX12_messages 10 = .ok (.ireturn, 1) := by decide +kernel
theorem dX12_messages_11 : decode cX12_messages 11 = .ok (.iconst 0, 1) := by decide +kernel
theorem dX12_messages_12 : decode cX12_messages 12 = .ok (.istore_n 3, 1) := by decide +kernel
theorem dX12_messages_13 : decode cX12_messages 13 = .ok (.iconst 0, 1) := by decide +kernel
theorem dX12_messages_14 : decode cX12_messages 14 = .ok (.istore 4, 2) := by decide +kernel
theorem dX12_messages_16 : decode cX12_messages 16 = .ok (.iload 4, 2) := by decide +kernel
theorem dX12_messages_18 : decode cX12_messages 18 = .ok (.aload_n 0, 1) := by decide +kernel
theorem dX12_messages_19 : decode cX12_messages 19 = .ok (.getfield 563, 3) := by decide +kernel
theorem fX12_563 : h_fl RX12 563 12 70 RX12 TX12 153 := ⟨rfl, by decide, inX12, h_t12 31 rfl rfl⟩
theorem dX12_messages_22 : decode cX12_messages 22 = .ok (.aload_n 0, 1) := by decide +kernel
theorem dX12_messages_23 : decode cX12_messages 23 = .ok (.getfield 566, 3) := by decide +kernel
theorem fX12_566 : h_fl RX12 566 12 71 RX12 TX12 153 := ⟨rfl, by decide, inX12, h_t12 32 rfl rfl⟩
theorem dX12_messages_26 : decode cX12_messages 26 = .ok (.iadd, 1) := by decide +kernel
theorem dX12_messages_27 : decode cX12_messages 27 = .ok (.if_icmp .ge 39, 3) := by decide +kernel
theorem dX12_messages_30 : decode cX12_messages 30 = .ok (.aload_n 0, 1) := by decide +kernel
theorem dX12_messages_31 : decode cX12_messages 31 = .ok (.getfield 569, 3) := by decide +kernel
theorem dX12_messages_34 : decode cX12_messages 34 = .ok (.iload 4, 2) := by decide +kernel
theorem dX12_messages_36 : decode cX12_messages 36 = .ok (.iaload, 1) := by decide +kernel
theorem dX12_messages_37 : decode cX12_messages 37 = .ok (.iload_n 1, 1) := by decide +kernel
theorem dX12_messages_38 : decode cX12_messages 38 = .ok (.if_icmp .ne 20, 3) := by decide +kernel
theorem dX12_messages_41 : decode cX12_messages 41 = .ok (.aload_n 0, 1) := by decide +kernel
theorem dX12_messages_42 : decode cX12_messages 42 = .ok (.getfield 572, 3) := by decide +kernel
theorem dX12_messages_45 : decode cX12_messages 45 = .ok (.iload 4, 2) := by decide +kernel
theorem dX12_messages_47 : decode cX12_messages 47 = .ok (.iaload, 1) := by decide +kernel
theorem dX12_messages_48 : decode cX12_messages 48 = .ok (.iload_n 2, 1) := by decide +kernel
theorem dX12_messages_49 : decode cX12_messages 49 = .ok (.if_icmp .ne 9, 3) := by decide +kernel
theorem dX12_messages_52 : decode cX12_messages 52 = .ok (.iload_n 3, 1) := by decide +kernel
theorem dX12_messages_53 : decode cX12_messages 53 = .ok (.iconst 1, 1) := by decide +kernel
theorem dX12_messages_54 : decode cX12_messages 54 = .ok (.iadd, 1) := by decide +kernel
theorem dX12_messages_55 : decode cX12_messages 55 = .ok (.goto 4, 3) := by decide +kernel
theorem dX12_messages_58 : decode cX12_messages 58 = .ok (.iload_n 3, 1) := by decide +kernel
theorem dX12_messages_59 : decode cX12_messages 59 = .ok (.istore_n 3, 1) := by decide +kernel
theorem dX12_messages_60 : decode cX12_messages 60 = .ok (.iinc 4 1, 3) := by decide +kernel
theorem dX12_messages_63 : decode cX12_messages 63 = .ok (.goto (-47), 3) := by decide +kernel
theorem dX12_messages_66 : decode cX12_messages 66 = .ok (.iload_n 3, 1) := by decide +kernel
theorem dX12_messages_67 : decode cX12_messages 67 = .ok (.ireturn, 1) := by decide +kernel
abbrev mX12_message : hM := (yX12_message, cX12_message, 7, (some (.int)))
theorem dX12_message_0 : decode cX12_message 0 = .ok (.aload_n 0, 1) := by decide +kernel
theorem dX12_message_1 : decode cX12_message 1 = .ok (.iload_n 1, 1) := by decide +kernel
theorem dX12_message_2 : decode cX12_message 2 = .ok (.iload_n 2, 1) := by decide +kernel
theorem dX12_message_3 : decode cX12_message 3 = .ok (.invokevirtual 1389, 3) := by decide +kernel
theorem dX12_message_6 : decode cX12_message 6 = .ok (.ifCond .eq 18, 3) := by decide +kernel
theorem dX12_message_9 : decode cX12_message 9 = .ok (.iload_n 3, 1) := by decide +kernel
theorem dX12_message_10 : decode cX12_message 10 = .ok (.ifCond .lt 14, 3) := by decide +kernel
theorem dX12_message_13 : decode cX12_message 13 = .ok (.iload 4, 2) := by decide +kernel
theorem dX12_message_15 : decode cX12_message 15 = .ok (.ifCond .lt 9, 3) := by decide +kernel
theorem dX12_message_18 : decode cX12_message 18 = .ok (.iload 4, 2) := by decide +kernel
theorem dX12_message_20 : decode cX12_message 20 = .ok (.iconst 2, 1) := by decide +kernel
theorem dX12_message_21 : decode cX12_message 21 = .ok (.if_icmp .le 5, 3) := by decide +kernel
theorem dX12_message_24 : decode cX12_message 24 = .ok (.iconst (-1), 1) := by decide +kernel
theorem dX12_message_25 : decode cX12_message 25 = .ok (.ireturn, 1) := by decide +kernel
theorem dX12_message_26 : decode cX12_message 26 = .ok (.iload_n 3, 1) := by decide +kernel
theorem dX12_message_27 : decode cX12_message 27 = .ok (.istore 5, 2) := by decide +kernel
theorem dX12_message_29 : decode cX12_message 29 = .ok (.iconst 0, 1) := by decide +kernel
theorem dX12_message_30 : decode cX12_message 30 = .ok (.istore 6, 2) := by decide +kernel
theorem dX12_message_32 : decode cX12_message 32 = .ok (.iload 6, 2) := by decide +kernel
theorem dX12_message_34 : decode cX12_message 34 = .ok (.aload_n 0, 1) := by decide +kernel
theorem dX12_message_35 : decode cX12_message 35 = .ok (.getfield 563, 3) := by decide +kernel
theorem dX12_message_38 : decode cX12_message 38 = .ok (.aload_n 0, 1) := by decide +kernel
theorem dX12_message_39 : decode cX12_message 39 = .ok (.getfield 566, 3) := by decide +kernel
theorem dX12_message_42 : decode cX12_message 42 = .ok (.iadd, 1) := by decide +kernel
theorem dX12_message_43 : decode cX12_message 43 = .ok (.if_icmp .ge 79, 3) := by decide +kernel
theorem dX12_message_46 : decode cX12_message 46 = .ok (.aload_n 0, 1) := by decide +kernel
theorem dX12_message_47 : decode cX12_message 47 = .ok (.getfield 569, 3) := by decide +kernel
theorem dX12_message_50 : decode cX12_message 50 = .ok (.iload 6, 2) := by decide +kernel
theorem dX12_message_52 : decode cX12_message 52 = .ok (.iaload, 1) := by decide +kernel
theorem dX12_message_53 : decode cX12_message 53 = .ok (.iload_n 1, 1) := by decide +kernel
theorem dX12_message_54 : decode cX12_message 54 = .ok (.if_icmp .ne 62, 3) := by decide +kernel
theorem dX12_message_57 : decode cX12_message 57 = .ok (.aload_n 0, 1) := by decide +kernel
theorem dX12_message_58 : decode cX12_message 58 = .ok (.getfield 572, 3) := by decide +kernel
theorem dX12_message_61 : decode cX12_message 61 = .ok (.iload 6, 2) := by decide +kernel
theorem dX12_message_63 : decode cX12_message 63 = .ok (.iaload, 1) := by decide +kernel
theorem dX12_message_64 : decode cX12_message 64 = .ok (.iload_n 2, 1) := by decide +kernel
theorem dX12_message_65 : decode cX12_message 65 = .ok (.if_icmp .eq 6, 3) := by decide +kernel
theorem dX12_message_68 : decode cX12_message 68 = .ok (.goto 48, 3) := by decide +kernel
theorem dX12_message_71 : decode cX12_message 71 = .ok (.iload 5, 2) := by decide +kernel
theorem dX12_message_73 : decode cX12_message 73 = .ok (.ifCond .ne 37, 3) := by decide +kernel
theorem dX12_message_76 : decode cX12_message 76 = .ok (.iload 4, 2) := by decide +kernel
theorem dX12_message_78 : decode cX12_message 78 = .ok (.ifCond .ne 13, 3) := by decide +kernel
theorem dX12_message_81 : decode cX12_message 81 = .ok (.aload_n 0, 1) := by decide +kernel
theorem dX12_message_82 : decode cX12_message 82 = .ok (.getfield 578, 3) := by decide +kernel
theorem dX12_message_85 : decode cX12_message 85 = .ok (.iload 6, 2) := by decide +kernel
theorem dX12_message_87 : decode cX12_message 87 = .ok (.iaload, 1) := by decide +kernel
theorem dX12_message_88 : decode cX12_message 88 = .ok (.goto 21, 3) := by decide +kernel
theorem dX12_message_91 : decode cX12_message 91 = .ok (.iload 4, 2) := by decide +kernel
theorem dX12_message_93 : decode cX12_message 93 = .ok (.iconst 1, 1) := by decide +kernel
theorem dX12_message_94 : decode cX12_message 94 = .ok (.if_icmp .ne 13, 3) := by decide +kernel
theorem dX12_message_97 : decode cX12_message 97 = .ok (.aload_n 0, 1) := by decide +kernel
theorem dX12_message_98 : decode cX12_message 98 = .ok (.getfield 581, 3) := by decide +kernel
theorem dX12_message_101 : decode cX12_message 101 = .ok (.iload 6, 2) := by decide +kernel
theorem dX12_message_103 : decode cX12_message 103 = .ok (.iaload, 1) := by decide +kernel
theorem dX12_message_104 : decode cX12_message 104 = .ok (.goto 5, 3) := by decide +kernel
theorem dX12_message_107 : decode cX12_message 107 = .ok (.iload 6, 2) := by decide +kernel
theorem dX12_message_109 : decode cX12_message 109 = .ok (.ireturn, 1) := by decide +kernel
theorem dX12_message_110 : decode cX12_message 110 = .ok (.iload 5, 2) := by decide +kernel
theorem dX12_message_112 : decode cX12_message 112 = .ok (.iconst 1, 1) := by decide +kernel
theorem dX12_message_113 : decode cX12_message 113 = .ok (.isub, 1) := by decide +kernel
theorem dX12_message_114 : decode cX12_message 114 = .ok (.istore 5, 2) := by decide +kernel
theorem dX12_message_116 : decode cX12_message 116 = .ok (.iinc 6 1, 3) := by decide +kernel
theorem dX12_message_119 : decode cX12_message 119 = .ok (.goto (-87), 3) := by decide +kernel
theorem dX12_message_122 : decode cX12_message 122 = .ok (.iconst (-1), 1) := by decide +kernel
theorem dX12_message_123 : decode cX12_message 123 = .ok (.ireturn, 1) := by decide +kernel
abbrev mX12_bytes : hM := (yX12_bytes, cX12_bytes, 7, (some (.long)))
theorem dX12_bytes_0 : decode cX12_bytes 0 = .ok (.iload_n 1, 1) := by decide +kernel
theorem dX12_bytes_1 : decode cX12_bytes 1 = .ok (.ifCond .lt 20, 3) := by decide +kernel
theorem dX12_bytes_4 : decode cX12_bytes 4 = .ok (.iload_n 1, 1) := by decide +kernel
theorem dX12_bytes_5 : decode cX12_bytes 5 = .ok (.aload_n 0, 1) := by decide +kernel
theorem dX12_bytes_6 : decode cX12_bytes 6 = .ok (.getfield 563, 3) := by decide +kernel
theorem dX12_bytes_9 : decode cX12_bytes 9 = .ok (.aload_n 0, 1) := by decide +kernel
theorem dX12_bytes_10 : decode cX12_bytes 10 = .ok (.getfield 566, 3) := by decide +kernel
theorem dX12_bytes_13 : decode cX12_bytes 13 = .ok (.iadd, 1) := by decide +kernel
theorem dX12_bytes_14 : decode cX12_bytes 14 = .ok (.if_icmp .ge 7, 3) := by decide +kernel
theorem dX12_bytes_17 : decode cX12_bytes 17 = .ok (.iload_n 2, 1) := by decide +kernel
theorem dX12_bytes_18 : decode cX12_bytes 18 = .ok (.ifCond .ge 7, 3) := by decide +kernel
theorem dX12_bytes_21 : decode cX12_bytes 21 = .ok (.ldc2_w 561, 3) := by decide +kernel
theorem cX12_561 : Cond.constantLong RX12 561 (-1) ∈ lw_g := h_t10 151 rfl rfl
theorem dX12_bytes_24 : decode cX12_bytes 24 = .ok (.lreturn, 1) := by decide +kernel
theorem dX12_bytes_25 : decode cX12_bytes 25 = .ok (.lconst 0, 1) := by decide +kernel
theorem dX12_bytes_26 : decode cX12_bytes 26 = .ok (.lstore_n 3, 1) := by decide +kernel
theorem dX12_bytes_27 : decode cX12_bytes 27 = .ok (.iconst 0, 1) := by decide +kernel
theorem dX12_bytes_28 : decode cX12_bytes 28 = .ok (.istore 5, 2) := by decide +kernel
theorem dX12_bytes_30 : decode cX12_bytes 30 = .ok (.iload 5, 2) := by decide +kernel
theorem dX12_bytes_32 : decode cX12_bytes 32 = .ok (.bipush 8, 2) := by decide +kernel
theorem dX12_bytes_34 : decode cX12_bytes 34 = .ok (.if_icmp .ge 70, 3) := by decide +kernel
theorem dX12_bytes_37 : decode cX12_bytes 37 = .ok (.iload_n 2, 1) := by decide +kernel
theorem dX12_bytes_38 : decode cX12_bytes 38 = .ok (.aload_n 0, 1) := by decide +kernel
theorem dX12_bytes_39 : decode cX12_bytes 39 = .ok (.getfield 578, 3) := by decide +kernel
theorem dX12_bytes_42 : decode cX12_bytes 42 = .ok (.iload_n 1, 1) := by decide +kernel
theorem dX12_bytes_43 : decode cX12_bytes 43 = .ok (.iaload, 1) := by decide +kernel
theorem dX12_bytes_44 : decode cX12_bytes 44 = .ok (.if_icmp .ge 20, 3) := by decide +kernel
theorem dX12_bytes_47 : decode cX12_bytes 47 = .ok (.iload 5, 2) := by decide +kernel
theorem dX12_bytes_49 : decode cX12_bytes 49 = .ok (.aload_n 0, 1) := by decide +kernel
theorem dX12_bytes_50 : decode cX12_bytes 50 = .ok (.getfield 578, 3) := by decide +kernel
theorem dX12_bytes_53 : decode cX12_bytes 53 = .ok (.iload_n 1, 1) := by decide +kernel
theorem dX12_bytes_54 : decode cX12_bytes 54 = .ok (.iaload, 1) := by decide +kernel
theorem dX12_bytes_55 : decode cX12_bytes 55 = .ok (.iload_n 2, 1) := by decide +kernel
theorem dX12_bytes_56 : decode cX12_bytes 56 = .ok (.isub, 1) := by decide +kernel
theorem dX12_bytes_57 : decode cX12_bytes 57 = .ok (.if_icmp .ge 7, 3) := by decide +kernel
theorem dX12_bytes_60 : decode cX12_bytes 60 = .ok (.iconst 1, 1) := by decide +kernel
theorem dX12_bytes_61 : decode cX12_bytes 61 = .ok (.goto 4, 3) := by decide +kernel
theorem dX12_bytes_64 : decode cX12_bytes 64 = .ok (.iconst 0, 1) := by decide +kernel
theorem dX12_bytes_65 : decode cX12_bytes 65 = .ok (.istore 6, 2) := by decide +kernel
theorem dX12_bytes_67 : decode cX12_bytes 67 = .ok (.lload_n 3, 1) := by decide +kernel
theorem dX12_bytes_68 : decode cX12_bytes 68 = .ok (.bipush 8, 2) := by decide +kernel
theorem dX12_bytes_70 : decode cX12_bytes 70 = .ok (.lshl, 1) := by decide +kernel
theorem dX12_bytes_71 : decode cX12_bytes 71 = .ok (.iload 6, 2) := by decide +kernel
theorem dX12_bytes_73 : decode cX12_bytes 73 = .ok (.ifCond .eq 21, 3) := by decide +kernel
theorem dX12_bytes_76 : decode cX12_bytes 76 = .ok (.aload_n 0, 1) := by decide +kernel
theorem dX12_bytes_77 : decode cX12_bytes 77 = .ok (.aload_n 0, 1) := by decide +kernel
theorem dX12_bytes_78 : decode cX12_bytes 78 = .ok (.getfield 575, 3) := by decide +kernel
theorem dX12_bytes_81 : decode cX12_bytes 81 = .ok (.iload_n 1, 1) := by decide +kernel
theorem dX12_bytes_82 : decode cX12_bytes 82 = .ok (.iaload, 1) := by decide +kernel
theorem dX12_bytes_83 : decode cX12_bytes 83 = .ok (.iload_n 2, 1) := by decide +kernel
theorem dX12_bytes_84 : decode cX12_bytes 84 = .ok (.iadd, 1) := by decide +kernel
theorem dX12_bytes_85 : decode cX12_bytes 85 = .ok (.iload 5, 2) := by decide +kernel
theorem dX12_bytes_87 : decode cX12_bytes 87 = .ok (.iadd, 1) := by decide +kernel
theorem dX12_bytes_88 : decode cX12_bytes 88 = .ok (.invokevirtual 1392, 3) := by decide +kernel
abbrev mX12_storedAt : hM := (yX12_storedAt, cX12_storedAt, 2, (some (.int)))
theorem kX12_storedAt : h_ml mX12_storedAt 1 := ⟨h_t13 214 rfl rfl, h_t1 16 rfl rfl, ⟨by decide, by decide, by decide +kernel⟩, by decide⟩
theorem sX12_storedAt : Cond.instanceMethod mX12_storedAt.1 ∈ lw_g ∧ Cond.selects mX12_storedAt.1.cls mX12_storedAt.1 mX12_storedAt.1 ∈ lw_g := ⟨h_t13 213 rfl rfl, h_ins 287 rfl⟩
theorem lX12_1392 : Cond.methodLink RX12 1392 mX12_storedAt.1 ∈ lw_g := h_t13 211 rfl rfl
theorem dX12_bytes_91 : decode cX12_bytes 91 = .ok (.goto 4, 3) := by decide +kernel
theorem dX12_bytes_94 : decode cX12_bytes 94 = .ok (.iconst 0, 1) := by decide +kernel
theorem dX12_bytes_95 : decode cX12_bytes 95 = .ok (.i2l, 1) := by decide +kernel
theorem dX12_bytes_96 : decode cX12_bytes 96 = .ok (.lor, 1) := by decide +kernel
theorem dX12_bytes_97 : decode cX12_bytes 97 = .ok (.lstore_n 3, 1) := by decide +kernel
theorem dX12_bytes_98 : decode cX12_bytes 98 = .ok (.iinc 5 1, 3) := by decide +kernel
theorem dX12_bytes_101 : decode cX12_bytes 101 = .ok (.goto (-71), 3) := by decide +kernel
theorem dX12_bytes_104 : decode cX12_bytes 104 = .ok (.lload_n 3, 1) := by decide +kernel
theorem dX12_bytes_105 : decode cX12_bytes 105 = .ok (.lreturn, 1) := by decide +kernel
abbrev mX12_mail : hM := (yX12_mail, cX12_mail, 3, (some (.int)))
theorem dX12_mail_0 : decode cX12_mail 0 = .ok (.aload_n 0, 1) := by decide +kernel
theorem dX12_mail_1 : decode cX12_mail 1 = .ok (.getfield 11, 3) := by decide +kernel
theorem dX12_mail_4 : decode cX12_mail 4 = .ok (.ifCond .eq 22, 3) := by decide +kernel
theorem dX12_mail_7 : decode cX12_mail 7 = .ok (.aload_n 0, 1) := by decide +kernel
theorem dX12_mail_8 : decode cX12_mail 8 = .ok (.getfield 7, 3) := by decide +kernel
theorem dX12_mail_11 : decode cX12_mail 11 = .ok (.ifCond .eq 15, 3) := by decide +kernel
theorem dX12_mail_14 : decode cX12_mail 14 = .ok (.iload_n 1, 1) := by decide +kernel
theorem dX12_mail_15 : decode cX12_mail 15 = .ok (.ifCond .lt 11, 3) := by decide +kernel
theorem dX12_mail_18 : decode cX12_mail 18 = .ok (.iload_n 1, 1) := by decide +kernel
theorem dX12_mail_19 : decode cX12_mail 19 = .ok (.aload_n 0, 1) := by decide +kernel
theorem dX12_mail_20 : decode cX12_mail 20 = .ok (.getfield 25, 3) := by decide +kernel
theorem dX12_mail_23 : decode cX12_mail 23 = .ok (.if_icmp .le 5, 3) := by decide +kernel
theorem dX12_mail_26 : decode cX12_mail 26 = .ok (.iconst (-1), 1) := by decide +kernel
theorem dX12_mail_27 : decode cX12_mail 27 = .ok (.ireturn, 1) := by decide +kernel
theorem dX12_mail_28 : decode cX12_mail 28 = .ok (.aload_n 0, 1) := by decide +kernel
theorem dX12_mail_29 : decode cX12_mail 29 = .ok (.iconst 0, 1) := by decide +kernel
theorem dX12_mail_30 : decode cX12_mail 30 = .ok (.putfield 25, 3) := by decide +kernel
theorem dX12_mail_33 : decode cX12_mail 33 = .ok (.iconst 0, 1) := by decide +kernel
theorem dX12_mail_34 : decode cX12_mail 34 = .ok (.istore_n 2, 1) := by decide +kernel
theorem dX12_mail_35 : decode cX12_mail 35 = .ok (.iload_n 2, 1) := by decide +kernel
theorem dX12_mail_36 : decode cX12_mail 36 = .ok (.iload_n 1, 1) := by decide +kernel
theorem dX12_mail_37 : decode cX12_mail 37 = .ok (.if_icmp .ge 33, 3) := by decide +kernel
theorem dX12_mail_40 : decode cX12_mail 40 = .ok (.aload_n 0, 1) := by decide +kernel
theorem dX12_mail_41 : decode cX12_mail 41 = .ok (.getfield 11, 3) := by decide +kernel
theorem dX12_mail_44 : decode cX12_mail 44 = .ok (.ifCond .eq 20, 3) := by decide +kernel
theorem dX12_mail_47 : decode cX12_mail 47 = .ok (.aload_n 0, 1) := by decide +kernel
theorem dX12_mail_48 : decode cX12_mail 48 = .ok (.aload_n 0, 1) := by decide +kernel
theorem dX12_mail_49 : decode cX12_mail 49 = .ok (.getfield 21, 3) := by decide +kernel
theorem dX12_mail_52 : decode cX12_mail 52 = .ok (.iload_n 2, 1) := by decide +kernel
theorem dX12_mail_53 : decode cX12_mail 53 = .ok (.iaload, 1) := by decide +kernel
theorem dX12_mail_54 : decode cX12_mail 54 = .ok (.invokevirtual 1171, 3) := by decide +kernel
abbrev mX12_mailIn : hM := (yX12_mailIn, cX12_mailIn, 2, (some (.boolean)))
theorem kX12_mailIn : h_ml mX12_mailIn 1 := ⟨h_t8 10 rfl rfl, h_t1 16 rfl rfl, ⟨by decide, by decide, by decide +kernel⟩, by decide⟩
theorem sX12_mailIn : Cond.instanceMethod mX12_mailIn.1 ∈ lw_g ∧ Cond.selects mX12_mailIn.1.cls mX12_mailIn.1 mX12_mailIn.1 ∈ lw_g := ⟨h_t8 9 rfl rfl, h_ins 106 rfl⟩
theorem lX12_1171 : Cond.methodLink RX12 1171 mX12_mailIn.1 ∈ lw_g := h_t8 7 rfl rfl
theorem dX12_mail_57 : decode cX12_mail 57 = .ok (.ifCond .ne 7, 3) := by decide +kernel
theorem dX12_mail_60 : decode cX12_mail 60 = .ok (.iload_n 2, 1) := by decide +kernel
theorem dX12_mail_61 : decode cX12_mail 61 = .ok (.iconst 1, 1) := by decide +kernel
theorem dX12_mail_62 : decode cX12_mail 62 = .ok (.iadd, 1) := by decide +kernel
theorem dX12_mail_63 : decode cX12_mail 63 = .ok (.ireturn, 1) := by decide +kernel
theorem dX12_mail_64 : decode cX12_mail 64 = .ok (.iinc 2 1, 3) := by decide +kernel
theorem dX12_mail_67 : decode cX12_mail 67 = .ok (.goto (-32), 3) := by decide +kernel
theorem dX12_mail_70 : decode cX12_mail 70 = .ok (.iload_n 1, 1) := by decide +kernel
theorem dX12_mail_71 : decode cX12_mail 71 = .ok (.ireturn, 1) := by decide +kernel
abbrev mX12_manage : hM := (yX12_manage, cX12_manage, 4, (some (.int)))
theorem dX12_manage_0 : decode cX12_manage 0 = .ok (.iload_n 1, 1) := by decide +kernel
theorem dX12_manage_1 : decode cX12_manage 1 = .ok (.ifCond .lt 27, 3) := by decide +kernel
theorem dX12_manage_4 : decode cX12_manage 4 = .ok (.iload_n 1, 1) := by decide +kernel
theorem dX12_manage_5 : decode cX12_manage 5 = .ok (.iconst 3, 1) := by decide +kernel
theorem dX12_manage_6 : decode cX12_manage 6 = .ok (.if_icmp .gt 22, 3) := by decide +kernel
theorem dX12_manage_9 : decode cX12_manage 9 = .ok (.aload_n 0, 1) := by decide +kernel
theorem dX12_manage_10 : decode cX12_manage 10 = .ok (.getfield 7, 3) := by decide +kernel
theorem dX12_manage_13 : decode cX12_manage 13 = .ok (.ifCond .eq 15, 3) := by decide +kernel
theorem dX12_manage_16 : decode cX12_manage 16 = .ok (.iload_n 2, 1) := by decide +kernel
theorem dX12_manage_17 : decode cX12_manage 17 = .ok (.ifCond .lt 11, 3) := by decide +kernel
theorem dX12_manage_20 : decode cX12_manage 20 = .ok (.iload_n 2, 1) := by decide +kernel
theorem dX12_manage_21 : decode cX12_manage 21 = .ok (.aload_n 0, 1) := by decide +kernel
theorem dX12_manage_22 : decode cX12_manage 22 = .ok (.getfield 25, 3) := by decide +kernel
theorem dX12_manage_25 : decode cX12_manage 25 = .ok (.if_icmp .le 5, 3) := by decide +kernel
theorem dX12_manage_28 : decode cX12_manage 28 = .ok (.iconst (-1), 1) := by decide +kernel
theorem dX12_manage_29 : decode cX12_manage 29 = .ok (.ireturn, 1) := by decide +kernel
theorem dX12_manage_30 : decode cX12_manage 30 = .ok (.aload_n 0, 1) := by decide +kernel
theorem dX12_manage_31 : decode cX12_manage 31 = .ok (.iconst 0, 1) := by decide +kernel
theorem dX12_manage_32 : decode cX12_manage 32 = .ok (.putfield 25, 3) := by decide +kernel
theorem dX12_manage_35 : decode cX12_manage 35 = .ok (.iconst 0, 1) := by decide +kernel
theorem dX12_manage_36 : decode cX12_manage 36 = .ok (.istore_n 3, 1) := by decide +kernel
theorem dX12_manage_37 : decode cX12_manage 37 = .ok (.iload_n 3, 1) := by decide +kernel
theorem dX12_manage_38 : decode cX12_manage 38 = .ok (.iload_n 2, 1) := by decide +kernel
theorem dX12_manage_39 : decode cX12_manage 39 = .ok (.if_icmp .ge 27, 3) := by decide +kernel
theorem dX12_manage_42 : decode cX12_manage 42 = .ok (.aload_n 0, 1) := by decide +kernel
theorem dX12_manage_43 : decode cX12_manage 43 = .ok (.iload_n 1, 1) := by decide +kernel
theorem dX12_manage_44 : decode cX12_manage 44 = .ok (.aload_n 0, 1) := by decide +kernel
theorem dX12_manage_45 : decode cX12_manage 45 = .ok (.getfield 21, 3) := by decide +kernel
theorem dX12_manage_48 : decode cX12_manage 48 = .ok (.iload_n 3, 1) := by decide +kernel
theorem dX12_manage_49 : decode cX12_manage 49 = .ok (.iaload, 1) := by decide +kernel
theorem dX12_manage_50 : decode cX12_manage 50 = .ok (.invokevirtual 1379, 3) := by decide +kernel
abbrev mX12_manageIn : hM := (yX12_manageIn, cX12_manageIn, 3, (some (.boolean)))
theorem kX12_manageIn : h_ml mX12_manageIn 2 := ⟨h_t11 38 rfl rfl, h_t1 16 rfl rfl, ⟨by decide, by decide, by decide +kernel⟩, by decide⟩
theorem sX12_manageIn : Cond.instanceMethod mX12_manageIn.1 ∈ lw_g ∧ Cond.selects mX12_manageIn.1.cls mX12_manageIn.1 mX12_manageIn.1 ∈ lw_g := ⟨h_t11 37 rfl rfl, h_ins 252 rfl⟩
theorem lX12_1379 : Cond.methodLink RX12 1379 mX12_manageIn.1 ∈ lw_g := h_t11 35 rfl rfl
theorem dX12_manage_53 : decode cX12_manage 53 = .ok (.ifCond .ne 7, 3) := by decide +kernel
theorem dX12_manage_56 : decode cX12_manage 56 = .ok (.iload_n 3, 1) := by decide +kernel
theorem dX12_manage_57 : decode cX12_manage 57 = .ok (.iconst 1, 1) := by decide +kernel
theorem dX12_manage_58 : decode cX12_manage 58 = .ok (.iadd, 1) := by decide +kernel
theorem dX12_manage_59 : decode cX12_manage 59 = .ok (.ireturn, 1) := by decide +kernel
theorem dX12_manage_60 : decode cX12_manage 60 = .ok (.iinc 3 1, 3) := by decide +kernel
theorem dX12_manage_63 : decode cX12_manage 63 = .ok (.goto (-26), 3) := by decide +kernel
theorem dX12_manage_66 : decode cX12_manage 66 = .ok (.iload_n 2, 1) := by decide +kernel
theorem dX12_manage_67 : decode cX12_manage 67 = .ok (.ireturn, 1) := by decide +kernel
abbrev mX12_reply : hM := (yX12_reply, cX12_reply, 6, (some (.long)))
theorem dX12_reply_0 : decode cX12_reply 0 = .ok (.iload_n 1, 1) := by decide +kernel
theorem dX12_reply_1 : decode cX12_reply 1 = .ok (.ifCond .lt 8, 3) := by decide +kernel
theorem dX12_reply_4 : decode cX12_reply 4 = .ok (.iload_n 1, 1) := by decide +kernel
theorem dX12_reply_5 : decode cX12_reply 5 = .ok (.iconst 4, 1) := by decide +kernel
theorem dX12_reply_6 : decode cX12_reply 6 = .ok (.if_icmp .le 5, 3) := by decide +kernel
theorem dX12_reply_9 : decode cX12_reply 9 = .ok (.lconst 0, 1) := by decide +kernel
theorem dX12_reply_10 : decode cX12_reply 10 = .ok (.lreturn, 1) := by decide +kernel
theorem dX12_reply_11 : decode cX12_reply 11 = .ok (.aload_n 0, 1) := by decide +kernel
theorem dX12_reply_12 : decode cX12_reply 12 = .ok (.getfield 31, 3) := by decide +kernel
theorem dX12_reply_15 : decode cX12_reply 15 = .ok (.iload_n 1, 1) := by decide +kernel
theorem dX12_reply_16 : decode cX12_reply 16 = .ok (.iaload, 1) := by decide +kernel
theorem dX12_reply_17 : decode cX12_reply 17 = .ok (.bipush 7, 2) := by decide +kernel
theorem dX12_reply_19 : decode cX12_reply 19 = .ok (.if_icmp .ge 12, 3) := by decide +kernel
theorem dX12_reply_22 : decode cX12_reply 22 = .ok (.aload_n 0, 1) := by decide +kernel
theorem dX12_reply_23 : decode cX12_reply 23 = .ok (.getfield 31, 3) := by decide +kernel
theorem dX12_reply_26 : decode cX12_reply 26 = .ok (.iload_n 1, 1) := by decide +kernel
theorem dX12_reply_27 : decode cX12_reply 27 = .ok (.iaload, 1) := by decide +kernel
theorem dX12_reply_28 : decode cX12_reply 28 = .ok (.goto 5, 3) := by decide +kernel
theorem dX12_reply_31 : decode cX12_reply 31 = .ok (.bipush 7, 2) := by decide +kernel
theorem dX12_reply_33 : decode cX12_reply 33 = .ok (.istore_n 2, 1) := by decide +kernel
theorem dX12_reply_34 : decode cX12_reply 34 = .ok (.iload_n 2, 1) := by decide +kernel
theorem dX12_reply_35 : decode cX12_reply 35 = .ok (.ifCond .ne 5, 3) := by decide +kernel
theorem dX12_reply_38 : decode cX12_reply 38 = .ok (.lconst 0, 1) := by decide +kernel
theorem dX12_reply_39 : decode cX12_reply 39 = .ok (.lreturn, 1) := by decide +kernel
theorem dX12_reply_40 : decode cX12_reply 40 = .ok (.iload_n 2, 1) := by decide +kernel
theorem dX12_reply_41 : decode cX12_reply 41 = .ok (.i2l, 1) := by decide +kernel
theorem dX12_reply_42 : decode cX12_reply 42 = .ok (.bipush 56, 2) := by decide +kernel
theorem dX12_reply_44 : decode cX12_reply 44 = .ok (.lshl, 1) := by decide +kernel
theorem dX12_reply_45 : decode cX12_reply 45 = .ok (.lstore_n 3, 1) := by decide +kernel
theorem dX12_reply_46 : decode cX12_reply 46 = .ok (.iconst 0, 1) := by decide +kernel
theorem dX12_reply_47 : decode cX12_reply 47 = .ok (.istore 5, 2) := by decide +kernel
theorem dX12_reply_49 : decode cX12_reply 49 = .ok (.iload 5, 2) := by decide +kernel
theorem dX12_reply_51 : decode cX12_reply 51 = .ok (.iload_n 2, 1) := by decide +kernel
theorem dX12_reply_52 : decode cX12_reply 52 = .ok (.if_icmp .ge 29, 3) := by decide +kernel
theorem dX12_reply_55 : decode cX12_reply 55 = .ok (.lload_n 3, 1) := by decide +kernel
theorem dX12_reply_56 : decode cX12_reply 56 = .ok (.aload_n 0, 1) := by decide +kernel
theorem dX12_reply_57 : decode cX12_reply 57 = .ok (.iload_n 1, 1) := by decide +kernel
theorem dX12_reply_58 : decode cX12_reply 58 = .ok (.iload 5, 2) := by decide +kernel
theorem dX12_reply_60 : decode cX12_reply 60 = .ok (.invokevirtual 50, 3) := by decide +kernel
abbrev mX12_saidAt : hM := (yX12_saidAt, cX12_saidAt, 3, (some (.int)))
theorem kX12_saidAt : h_ml mX12_saidAt 2 := ⟨h_t7 215 rfl rfl, h_t1 16 rfl rfl, ⟨by decide, by decide, by decide +kernel⟩, by decide⟩
theorem sX12_saidAt : Cond.instanceMethod mX12_saidAt.1 ∈ lw_g ∧ Cond.selects mX12_saidAt.1.cls mX12_saidAt.1 mX12_saidAt.1 ∈ lw_g := ⟨h_t7 214 rfl rfl, h_ins 100 rfl⟩
theorem lX12_50 : Cond.methodLink RX12 50 mX12_saidAt.1 ∈ lw_g := h_t7 212 rfl rfl
theorem dX12_reply_63 : decode cX12_reply 63 = .ok (.i2l, 1) := by decide +kernel
theorem dX12_reply_64 : decode cX12_reply 64 = .ok (.bipush 48, 2) := by decide +kernel
theorem dX12_reply_66 : decode cX12_reply 66 = .ok (.bipush 8, 2) := by decide +kernel
theorem dX12_reply_68 : decode cX12_reply 68 = .ok (.iload 5, 2) := by decide +kernel
theorem dX12_reply_70 : decode cX12_reply 70 = .ok (.imul, 1) := by decide +kernel
theorem dX12_reply_71 : decode cX12_reply 71 = .ok (.isub, 1) := by decide +kernel
theorem dX12_reply_72 : decode cX12_reply 72 = .ok (.lshl, 1) := by decide +kernel
theorem dX12_reply_73 : decode cX12_reply 73 = .ok (.lor, 1) := by decide +kernel
theorem dX12_reply_74 : decode cX12_reply 74 = .ok (.lstore_n 3, 1) := by decide +kernel
theorem dX12_reply_75 : decode cX12_reply 75 = .ok (.iinc 5 1, 3) := by decide +kernel
theorem dX12_reply_78 : decode cX12_reply 78 = .ok (.goto (-29), 3) := by decide +kernel
theorem dX12_reply_81 : decode cX12_reply 81 = .ok (.aload_n 0, 1) := by decide +kernel
theorem dX12_reply_82 : decode cX12_reply 82 = .ok (.iload_n 1, 1) := by decide +kernel
theorem dX12_reply_83 : decode cX12_reply 83 = .ok (.iload_n 2, 1) := by decide +kernel
theorem dX12_reply_84 : decode cX12_reply 84 = .ok (.invokevirtual 72, 3) := by decide +kernel
abbrev mX12_forget : hM := (yX12_forget, cX12_forget, 5, none)
theorem kX12_forget : h_ml mX12_forget 2 := ⟨h_t7 219 rfl rfl, h_t1 16 rfl rfl, ⟨by decide, by decide, by decide +kernel⟩, by decide⟩
theorem sX12_forget : Cond.instanceMethod mX12_forget.1 ∈ lw_g ∧ Cond.selects mX12_forget.1.cls mX12_forget.1 mX12_forget.1 ∈ lw_g := ⟨h_t7 218 rfl rfl, h_ins 101 rfl⟩
theorem lX12_72 : Cond.methodLink RX12 72 mX12_forget.1 ∈ lw_g := h_t7 216 rfl rfl
theorem dX12_reply_87 : decode cX12_reply 87 = .ok (.lload_n 3, 1) := by decide +kernel
theorem dX12_reply_88 : decode cX12_reply 88 = .ok (.lreturn, 1) := by decide +kernel
set_option maxRecDepth 100000 in
set_option maxHeartbeats 4000000 in
/-- the reference: commit, no cut asked for -/
theorem cm_commit0 {l : Launch} {D : va_G} {A : Nat → ClassId} {B : Nat} {Z : State → Heap → Prop} (hZ : h_st B Z) {d : Nat} {σ : hS} {a n0 : Nat} {v : Nat → Int32} (ha : σ.1 a = some (.inr (12, mFs n0 v))) (hc : v 3 = 0) : Ct l D (h_ty A) B Z d mX12_commit σ [.ref a] (fun σ1 w => w = some (.int 1) ∧ σ1.1 a = some (.inr (12, mFs n0 (upd v 2 (v 2 + 1)))) ∧ h_fr (fun q => q = a) σ σ1) := by
  refine ct_of rfl hZ (Nat.le_of_ble_eq_true rfl) ?_
  show G _ _ _ _ _ _ _ _ _ _ 0 [(0, .ref a)] []
  refine g_aload_n dX12_commit_0 rfl (List.mem_of_getElem? (i := 0) rfl) ?_
  refine g_get fX12_1 ha (v := .int (v 3)) (mFs_int (by decide) rfl) dX12_commit_1 ?_
  refine g_if_le (tgt := 54) dX12_commit_4 (by decide) (fun c4 => ?_) (fun c4 => absurd (by rw [hc]; decide) c4)
  refine g_aload_n dX12_commit_54 rfl (List.mem_of_getElem? (i := 0) rfl) ?_
  refine g_aload_n dX12_commit_55 rfl (List.mem_of_getElem? (i := 0) rfl) ?_
  refine g_get fX12_18 ha (v := .int (v 2)) (mFs_int (by decide) rfl) dX12_commit_56 ?_
  refine g_iconst (v := 1) dX12_commit_59 (by decide) ?_
  refine g_iadd dX12_commit_60 ?_
  refine g_putM (ft := .int) fX12_18 rfl rfl ha (by decide +kernel) rfl rfl dX12_commit_61 ?_
  refine g_iconst (v := 1) dX12_commit_64 (by decide) ?_
  exact g_zret rfl rfl dX12_commit_65 (⟨rfl, h_e, ⟨fun q hq => h_n hq rfl, rfl⟩⟩)
set_option maxRecDepth 100000 in
set_option maxHeartbeats 4000000 in
/-- the reference: tick, no cut asked for -/
theorem cm_tick0 {l : Launch} {D : va_G} {A : Nat → ClassId} {B : Nat} {Z : State → Heap → Prop} (hZ : h_st B Z) {d : Nat} {σ : hS} {a n0 : Nat} {v : Nat → Int32} (ha : σ.1 a = some (.inr (12, mFs n0 v))) (hc : v 3 = 0) (hd1 : 1 ≤ d) : Ct l D (h_ty A) B Z d mX12_tick σ [.ref a] (fun σ1 w => w = some (.int (if v 0 = 0 then -1 else v 1 + 1)) ∧ σ1.1 a = some (.inr (12, mFs n0 (if v 0 = 0 then v else upd (upd v 2 (v 2 + 1)) 1 (v 1 + 1)))) ∧ h_fr (fun q => q = a) σ σ1) := by
  refine ct_of rfl hZ (Nat.le_of_ble_eq_true rfl) ?_
  show G _ _ _ _ _ _ _ _ _ _ 0 [(0, .ref a)] []
  refine g_aload_n dX12_tick_0 rfl (List.mem_of_getElem? (i := 0) rfl) ?_
  refine g_get fX12_7 ha (v := .int (v 0)) (mFs_int (by decide) rfl) dX12_tick_1 ?_
  refine g_if_eq (tgt := 14) dX12_tick_4 (by decide) (fun c4 => ?_) (fun c4 => ?_)
  · have c4 := c4
    refine g_iconst (v := -1) dX12_tick_14 (by decide) ?_
    exact g_iret rfl dX12_tick_15 (⟨by rw [if_pos c4], by rw [if_pos c4]; exact ha, h_fr.rf⟩)
  · have c4 := c4
    refine g_aload_n dX12_tick_7 rfl (List.mem_of_getElem? (i := 0) rfl) ?_
    refine g_cv (d1 := 0) (As := []) (st := []) (cm_commit0 hZ ha hc) (h_rcO (r := (RX12, TX12, 153)) ha rfl) kX12_commit lX12_993 sX12_commit (by omega) (Nat.le_of_ble_eq_true rfl) dX12_tick_8 (fun τ8 v8 h8 z8 => ?_)
    obtain ⟨rfl, ga, gf⟩ := h8
    show G _ _ _ _ _ _ _ _ _ _ 11 [(0, .ref a)] [.int 1]
    refine g_if_ne (tgt := 16) dX12_tick_11 (by decide) (fun c11 => ?_) (fun c11 => absurd c11 (by decide))
    refine g_aload_n dX12_tick_16 rfl (List.mem_of_getElem? (i := 0) rfl) ?_
    refine g_aload_n dX12_tick_17 rfl (List.mem_of_getElem? (i := 0) rfl) ?_
    refine g_get fX12_863 ga (v := .int (v 1)) (mFs_int (by decide) rfl) dX12_tick_18 ?_
    refine g_iconst (v := 1) dX12_tick_21 (by decide) ?_
    refine g_iadd dX12_tick_22 ?_
    refine g_putM (ft := .int) fX12_863 rfl rfl ga (by decide +kernel) rfl rfl dX12_tick_23 ?_
    refine g_aload_n dX12_tick_26 rfl (List.mem_of_getElem? (i := 0) rfl) ?_
    refine g_get fX12_863 h_e (v := .int ((v 1) + 1)) (mFs_int (by decide) rfl) dX12_tick_27 ?_
    exact g_iret rfl dX12_tick_30 (⟨by rw [if_neg c4], by rw [if_neg c4]; exact h_e, gf.tr ⟨fun q hq => h_n hq rfl, rfl⟩⟩)
set_option maxRecDepth 100000 in
set_option maxHeartbeats 4000000 in
/-- the reference: isBox -/
theorem cm_isBox {l : Launch} {D : va_G} {A : Nat → ClassId} {B : Nat} {Z : State → Heap → Prop} (hZ : h_st B Z) {d : Nat} {σ : hS} {a n0 : Nat} {v : Nat → Int32} (ha : σ.1 a = some (.inr (12, mFs n0 v))) {bb : Nat → Int32} {bx : Nat → Nat} (hbb : σ.1 (n0 + 46) = some (.inl (A 0, 4, .inl bb))) (hbx : ∀ u : Nat, u < 4 → bb u = nI (bx u) ∧ bx u ≤ 6) {u b : Int32} : Ct l D (h_ty A) B Z d mX12_isBox σ [.ref a, .int u, .int b] (fun σ1 w => σ1 = σ ∧ (w = some (.int 1) ∧ bxI bx u b ∨ w = some (.int 0) ∧ ¬ bxI bx u b)) := by
  refine ct_of rfl hZ (Nat.le_of_ble_eq_true rfl) ?_
  show G _ _ _ _ _ _ _ _ _ _ 0 [(0, .ref a), (1, .int u), (2, .int b)] []
  refine g_iload_n dX12_isBox_0 rfl (List.mem_of_getElem? (i := 1) rfl) ?_
  refine g_if_lt (tgt := 27) dX12_isBox_1 (by decide) (fun c1 => ?_) (fun c1 => ?_)
  · have hno : ¬ bxI bx u b := fun ⟨u1, b1, h1, h2, h3, h4⟩ => nI_pos (n := u1) (by omega) (h3 ▸ c1)
    refine g_iconst (v := 0) dX12_isBox_27 (by decide) ?_
    exact g_zret rfl rfl dX12_isBox_28 (⟨rfl, Or.inr ⟨rfl, hno⟩⟩)
  · have c1 := c1
    refine g_iload_n dX12_isBox_4 rfl (List.mem_of_getElem? (i := 1) rfl) ?_
    refine g_iconst (v := 4) dX12_isBox_5 (by decide) ?_
    refine g_icmp_ge (tgt := 27) dX12_isBox_6 (by decide) (fun c6 => ?_) (fun c6 => ?_)
    · have hno : ¬ bxI bx u b := fun ⟨u1, b1, h1, h2, h3, h4⟩ => by
        subst h3
        have := (nI_leI (a := 4) (b := u1) (by decide) (by omega)).mp c6
        omega
      refine g_iconst (v := 0) dX12_isBox_27 (by decide) ?_
      exact g_zret rfl rfl dX12_isBox_28 (⟨rfl, Or.inr ⟨rfl, hno⟩⟩)
    · obtain ⟨u', hu', rfl⟩ : ∃ j : Nat, j < 4 ∧ u = nI j := by
        obtain ⟨j, hj, rfl⟩ := nI_of c1
        exact ⟨j, Nat.lt_of_not_le fun h => c6 ((nI_leI (a := 4) (b := j) (by decide) hj).mpr h), rfl⟩
      have hbu := hbx u' hu'
      refine g_iload_n dX12_isBox_9 rfl (List.mem_of_getElem? (i := 2) rfl) ?_
      refine g_if_lt (tgt := 27) dX12_isBox_10 (by decide) (fun c10 => ?_) (fun c10 => ?_)
      · have hno : ¬ bxI bx (nI u') b := fun ⟨u1, b1, h1, h2, h3, h4⟩ => by
          have hb1 := (hbx u1 h1).2
          exact nI_pos (n := b1) (by omega) (h4 ▸ c10)
        refine g_iconst (v := 0) dX12_isBox_27 (by decide) ?_
        exact g_zret rfl rfl dX12_isBox_28 (⟨rfl, Or.inr ⟨rfl, hno⟩⟩)
      · obtain ⟨b', hb', rfl⟩ := nI_of c10
        refine g_iload_n dX12_isBox_13 rfl (List.mem_of_getElem? (i := 2) rfl) ?_
        refine g_aload_n dX12_isBox_14 rfl (List.mem_of_getElem? (i := 0) rfl) ?_
        refine g_get fX12_796 ha (v := .ref (n0 + 46)) (mFs_get (by decide) rfl) dX12_isBox_15 ?_
        refine g_iload_n dX12_isBox_18 rfl (List.mem_of_getElem? (i := 1) rfl) ?_
        refine g_iald (t0 := 0) rfl hbb (vp_in_nI hu' (by decide)) dX12_isBox_19 ?_
        refine g_eqi (nI (bx u')) (by rw [nI_clamp (by omega)]; exact hbu.1) ?_
        refine g_icmp_ge (tgt := 27) dX12_isBox_20 (by decide) (fun c20 => ?_) (fun c20 => ?_)
        · have hno : ¬ bxI bx (nI u') (nI b') := fun ⟨u1, b1, h1, h2, h3, h4⟩ => by
            have e1 := (nI_eq (a := u') (b := u1) (by omega) (by omega)).mp h3
            subst e1
            have e2 := (nI_eq (a := b') (b := b1) (by omega) (by omega)).mp h4
            subst e2
            have := (nI_leI (a := bx u') (b := b') (by omega) (by omega)).mp c20
            omega
          refine g_iconst (v := 0) dX12_isBox_27 (by decide) ?_
          exact g_zret rfl rfl dX12_isBox_28 (⟨rfl, Or.inr ⟨rfl, hno⟩⟩)
        · have hyes : bxI bx (nI u') (nI b') := ⟨u', b', hu', Nat.lt_of_not_le fun h => c20 ((nI_leI (a := bx u') (b := b') (by omega) (by omega)).mpr h), rfl, rfl⟩
          refine g_iconst (v := 1) dX12_isBox_23 (by decide) ?_
          refine g_goto (tgt := 28) dX12_isBox_24 (by decide) ?_
          exact g_zret rfl rfl dX12_isBox_28 (⟨rfl, Or.inl ⟨rfl, hyes⟩⟩)
set_option maxRecDepth 100000 in
set_option maxHeartbeats 4000000 in
/-- the reference: messages, of an empty store -/
theorem cm_messages0 {l : Launch} {D : va_G} {A : Nat → ClassId} {B : Nat} {Z : State → Heap → Prop} (hZ : h_st B Z) {d : Nat} {σ : hS} {a n0 : Nat} {v : Nat → Int32} (ha : σ.1 a = some (.inr (12, mFs n0 v))) {bb : Nat → Int32} {bx : Nat → Nat} (hbb : σ.1 (n0 + 46) = some (.inl (A 0, 4, .inl bb))) (hbx : ∀ u : Nat, u < 4 → bb u = nI (bx u) ∧ bx u ≤ 6) (h0 : v 70 = 0 ∧ v 71 = 0) (hd1 : 1 ≤ d) {u b : Int32} : Ct l D (h_ty A) B Z d mX12_messages σ [.ref a, .int u, .int b] (fun σ1 w => σ1 = σ ∧ (bxI bx u b ∧ w = some (.int 0) ∨ ¬ bxI bx u b ∧ w = some (.int (-1)))) := by
  refine ct_of rfl hZ (Nat.le_of_ble_eq_true rfl) ?_
  show G _ _ _ _ _ _ _ _ _ _ 0 [(0, .ref a), (1, .int u), (2, .int b)] []
  refine g_aload_n dX12_messages_0 rfl (List.mem_of_getElem? (i := 0) rfl) ?_
  refine g_iload_n dX12_messages_1 rfl (List.mem_of_getElem? (i := 1) rfl) ?_
  refine g_iload_n dX12_messages_2 rfl (List.mem_of_getElem? (i := 2) rfl) ?_
  refine g_cv (d1 := 0) (As := [.int u, .int b]) (st := []) (cm_isBox hZ ha hbb hbx (u := u) (b := b)) (h_rcO (r := (RX12, TX12, 153)) ha rfl) kX12_isBox lX12_1389 sX12_isBox (by omega) (Nat.le_of_ble_eq_true rfl) dX12_messages_3 (fun τ3 v3 h3 z3 => ?_)
  obtain ⟨rfl, h3⟩ := h3
  obtain ⟨r3, rfl, k3⟩ : ∃ r : Int32, v3 = some (.int r) ∧ (r = 1 ∧ bxI bx u b ∨ r = 0 ∧ ¬ bxI bx u b) := by
    rcases h3 with ⟨h1, h2⟩ | ⟨h1, h2⟩
    · exact ⟨1, h1, Or.inl ⟨rfl, h2⟩⟩
    · exact ⟨0, h1, Or.inr ⟨rfl, h2⟩⟩
  show G _ _ _ _ _ _ _ _ _ _ 6 [(0, .ref a), (1, .int u), (2, .int b)] [.int r3]
  refine g_if_ne (tgt := 11) dX12_messages_6 (by decide) (fun c6 => ?_) (fun c6 => ?_)
  · have hyes : bxI bx u b := by
      rcases k3 with ⟨h1, h2⟩ | ⟨h1, h2⟩
      · exact h2
      · exact absurd h1 c6
    refine g_iconst (v := 0) dX12_messages_11 (by decide) ?_
    refine g_istore_n dX12_messages_12 rfl (by decide) rfl ?_
    refine g_iconst (v := 0) dX12_messages_13 (by decide) ?_
    refine g_istore dX12_messages_14 (by decide) rfl ?_
    refine g_iload dX12_messages_16 (List.mem_of_getElem? (i := 0) rfl) ?_
    refine g_aload_n dX12_messages_18 rfl (List.mem_of_getElem? (i := 2) rfl) ?_
    refine g_get fX12_563 ha (v := .int (v 70)) (mFs_int (by decide) rfl) dX12_messages_19 ?_
    refine g_aload_n dX12_messages_22 rfl (List.mem_of_getElem? (i := 2) rfl) ?_
    refine g_get fX12_566 ha (v := .int (v 71)) (mFs_int (by decide) rfl) dX12_messages_23 ?_
    refine g_iadd dX12_messages_26 ?_
    refine g_eqi 0 (by rw [h0.1, h0.2]; decide) ?_
    refine g_icmp_ge (tgt := 66) dX12_messages_27 (by decide) (fun c27 => ?_) (fun c27 => absurd (by decide) c27)
    refine g_iload_n dX12_messages_66 rfl (List.mem_of_getElem? (i := 1) rfl) ?_
    exact g_iret rfl dX12_messages_67 (⟨rfl, Or.inl ⟨hyes, rfl⟩⟩)
  · have hno : ¬ bxI bx u b := by
      rcases k3 with ⟨h1, h2⟩ | ⟨h1, h2⟩
      · rw [h1] at c6; exact absurd c6 (by decide)
      · exact h2
    refine g_iconst (v := -1) dX12_messages_9 (by decide) ?_
    exact g_iret rfl dX12_messages_10 (⟨rfl, Or.inr ⟨hno, rfl⟩⟩)
set_option maxRecDepth 100000 in
set_option maxHeartbeats 4000000 in
/-- the reference: message, of an empty store -/
theorem cm_message0 {l : Launch} {D : va_G} {A : Nat → ClassId} {B : Nat} {Z : State → Heap → Prop} (hZ : h_st B Z) {d : Nat} {σ : hS} {a n0 : Nat} {v : Nat → Int32} (ha : σ.1 a = some (.inr (12, mFs n0 v))) {bb : Nat → Int32} {bx : Nat → Nat} (hbb : σ.1 (n0 + 46) = some (.inl (A 0, 4, .inl bb))) (hbx : ∀ u : Nat, u < 4 → bb u = nI (bx u) ∧ bx u ≤ 6) (h0 : v 70 = 0 ∧ v 71 = 0) (hd1 : 1 ≤ d) {u b i q : Int32} : Ct l D (h_ty A) B Z d mX12_message σ [.ref a, .int u, .int b, .int i, .int q] (fun σ1 w => σ1 = σ ∧ w = some (.int (-1))) := by
  refine ct_of rfl hZ (Nat.le_of_ble_eq_true rfl) ?_
  show G _ _ _ _ _ _ _ _ _ _ 0 [(0, .ref a), (1, .int u), (2, .int b), (3, .int i), (4, .int q)] []
  refine g_aload_n dX12_message_0 rfl (List.mem_of_getElem? (i := 0) rfl) ?_
  refine g_iload_n dX12_message_1 rfl (List.mem_of_getElem? (i := 1) rfl) ?_
  refine g_iload_n dX12_message_2 rfl (List.mem_of_getElem? (i := 2) rfl) ?_
  refine g_cv (d1 := 0) (As := [.int u, .int b]) (st := []) (cm_isBox hZ ha hbb hbx (u := u) (b := b)) (h_rcO (r := (RX12, TX12, 153)) ha rfl) kX12_isBox lX12_1389 sX12_isBox (by omega) (Nat.le_of_ble_eq_true rfl) dX12_message_3 (fun τ3 v3 h3 z3 => ?_)
  obtain ⟨rfl, h3⟩ := h3
  obtain ⟨r3, rfl, k3⟩ : ∃ r : Int32, v3 = some (.int r) ∧ (r = 1 ∧ bxI bx u b ∨ r = 0 ∧ ¬ bxI bx u b) := by
    rcases h3 with ⟨h1, h2⟩ | ⟨h1, h2⟩
    · exact ⟨1, h1, Or.inl ⟨rfl, h2⟩⟩
    · exact ⟨0, h1, Or.inr ⟨rfl, h2⟩⟩
  show G _ _ _ _ _ _ _ _ _ _ 6 [(0, .ref a), (1, .int u), (2, .int b), (3, .int i), (4, .int q)] [.int r3]
  refine g_if_eq (tgt := 24) dX12_message_6 (by decide) (fun c6 => ?_) (fun c6 => ?_)
  · have hno : ¬ bxI bx u b := by
      rcases k3 with ⟨h1, h2⟩ | ⟨h1, h2⟩
      · rw [h1] at c6; exact absurd c6 (by decide)
      · exact h2
    refine g_iconst (v := -1) dX12_message_24 (by decide) ?_
    exact g_iret rfl dX12_message_25 (⟨rfl, rfl⟩)
  · have hyes : bxI bx u b := by
      rcases k3 with ⟨h1, h2⟩ | ⟨h1, h2⟩
      · exact h2
      · exact absurd h1 c6
    refine g_iload_n dX12_message_9 rfl (List.mem_of_getElem? (i := 3) rfl) ?_
    refine g_if_lt (tgt := 24) dX12_message_10 (by decide) (fun c10 => ?_) (fun c10 => ?_)
    · have cc := c10
      refine g_iconst (v := -1) dX12_message_24 (by decide) ?_
      exact g_iret rfl dX12_message_25 (⟨rfl, rfl⟩)
    · have cc := c10
      refine g_iload dX12_message_13 (List.mem_of_getElem? (i := 4) rfl) ?_
      refine g_if_lt (tgt := 24) dX12_message_15 (by decide) (fun c15 => ?_) (fun c15 => ?_)
      · have cc := c15
        refine g_iconst (v := -1) dX12_message_24 (by decide) ?_
        exact g_iret rfl dX12_message_25 (⟨rfl, rfl⟩)
      · have cc := c15
        refine g_iload dX12_message_18 (List.mem_of_getElem? (i := 4) rfl) ?_
        refine g_iconst (v := 2) dX12_message_20 (by decide) ?_
        refine g_icmp_le (tgt := 26) dX12_message_21 (by decide) (fun c21 => ?_) (fun c21 => ?_)
        · have cc := c21
          refine g_iload_n dX12_message_26 rfl (List.mem_of_getElem? (i := 3) rfl) ?_
          refine g_istore dX12_message_27 (by decide) rfl ?_
          refine g_iconst (v := 0) dX12_message_29 (by decide) ?_
          refine g_istore dX12_message_30 (by decide) rfl ?_
          refine g_iload dX12_message_32 (List.mem_of_getElem? (i := 0) rfl) ?_
          refine g_aload_n dX12_message_34 rfl (List.mem_of_getElem? (i := 2) rfl) ?_
          refine g_get fX12_563 ha (v := .int (v 70)) (mFs_int (by decide) rfl) dX12_message_35 ?_
          refine g_aload_n dX12_message_38 rfl (List.mem_of_getElem? (i := 2) rfl) ?_
          refine g_get fX12_566 ha (v := .int (v 71)) (mFs_int (by decide) rfl) dX12_message_39 ?_
          refine g_iadd dX12_message_42 ?_
          refine g_eqi 0 (by rw [h0.1, h0.2]; decide) ?_
          refine g_icmp_ge (tgt := 122) dX12_message_43 (by decide) (fun c43 => ?_) (fun c43 => absurd (by decide) c43)
          refine g_iconst (v := -1) dX12_message_122 (by decide) ?_
          exact g_iret rfl dX12_message_123 (⟨rfl, rfl⟩)
        · have cc := c21
          refine g_iconst (v := -1) dX12_message_24 (by decide) ?_
          exact g_iret rfl dX12_message_25 (⟨rfl, rfl⟩)
set_option maxRecDepth 100000 in
set_option maxHeartbeats 4000000 in
/-- the reference: bytes, of an empty store -/
theorem cm_bytes0 {l : Launch} {D : va_G} {A : Nat → ClassId} {B : Nat} {Z : State → Heap → Prop} (hZ : h_st B Z) {d : Nat} {σ : hS} {a n0 : Nat} {v : Nat → Int32} (ha : σ.1 a = some (.inr (12, mFs n0 v))) (h0 : v 70 = 0 ∧ v 71 = 0) {n i : Int32} : Ct l D (h_ty A) B Z d mX12_bytes σ [.ref a, .int n, .int i] (fun σ1 w => σ1 = σ ∧ w = some (.long (-1))) := by
  refine ct_of rfl hZ (Nat.le_of_ble_eq_true rfl) ?_
  show G _ _ _ _ _ _ _ _ _ _ 0 [(0, .ref a), (1, .int n), (2, .int i)] []
  refine g_iload_n dX12_bytes_0 rfl (List.mem_of_getElem? (i := 1) rfl) ?_
  refine g_if_lt (tgt := 21) dX12_bytes_1 (by decide) (fun c1 => ?_) (fun c1 => ?_)
  · have cc := c1
    refine g_ldc2 cX12_561 dX12_bytes_21 ?_
    exact g_lret rfl dX12_bytes_24 (⟨rfl, rfl⟩)
  · have cc := c1
    refine g_iload_n dX12_bytes_4 rfl (List.mem_of_getElem? (i := 1) rfl) ?_
    refine g_aload_n dX12_bytes_5 rfl (List.mem_of_getElem? (i := 0) rfl) ?_
    refine g_get fX12_563 ha (v := .int (v 70)) (mFs_int (by decide) rfl) dX12_bytes_6 ?_
    refine g_aload_n dX12_bytes_9 rfl (List.mem_of_getElem? (i := 0) rfl) ?_
    refine g_get fX12_566 ha (v := .int (v 71)) (mFs_int (by decide) rfl) dX12_bytes_10 ?_
    refine g_iadd dX12_bytes_13 ?_
    refine g_eqi 0 (by rw [h0.1, h0.2]; decide) ?_
    refine g_icmp_ge (tgt := 21) dX12_bytes_14 (by decide) (fun c14 => ?_) (fun c14 => absurd (Int32.not_lt.mp c1) c14)
    refine g_ldc2 cX12_561 dX12_bytes_21 ?_
    exact g_lret rfl dX12_bytes_24 (⟨rfl, rfl⟩)
set_option maxRecDepth 100000 in
set_option maxHeartbeats 4000000 in
/-- the reference: mail without a session -/
theorem cm_mail0 {l : Launch} {D : va_G} {A : Nat → ClassId} {B : Nat} {Z : State → Heap → Prop} (hZ : h_st B Z) {d : Nat} {σ : hS} {a n0 : Nat} {v : Nat → Int32} (ha : σ.1 a = some (.inr (12, mFs n0 v))) (hio : v 113 = 0) {n : Int32} : Ct l D (h_ty A) B Z d mX12_mail σ [.ref a, .int n] (fun σ1 w => σ1 = σ ∧ w = some (.int (-1))) := by
  refine ct_of rfl hZ (Nat.le_of_ble_eq_true rfl) ?_
  show G _ _ _ _ _ _ _ _ _ _ 0 [(0, .ref a), (1, .int n)] []
  refine g_aload_n dX12_mail_0 rfl (List.mem_of_getElem? (i := 0) rfl) ?_
  refine g_get fX12_11 ha (v := .int (v 113)) (mFs_int (by decide) rfl) dX12_mail_1 ?_
  refine g_if_eq (tgt := 26) dX12_mail_4 (by decide) (fun c4 => ?_) (fun c4 => absurd (hio) c4)
  refine g_iconst (v := -1) dX12_mail_26 (by decide) ?_
  exact g_iret rfl dX12_mail_27 (⟨rfl, rfl⟩)
set_option maxRecDepth 100000 in
set_option maxHeartbeats 4000000 in
/-- the reference: manage with an empty tape -/
theorem cm_manage0 {l : Launch} {D : va_G} {A : Nat → ClassId} {B : Nat} {Z : State → Heap → Prop} (hZ : h_st B Z) {d : Nat} {σ : hS} {a n0 : Nat} {v : Nat → Int32} (ha : σ.1 a = some (.inr (12, mFs n0 v))) (h0 : v 5 = 0) {k m : Int32} : Ct l D (h_ty A) B Z d mX12_manage σ [.ref a, .int k, .int m] (fun σ1 w => ((¬ v 0 = 0 ∧ ∃ u : Nat, u < 4 ∧ k = nI u ∧ m = nI 0 ∧ w = some (.int 0)) ∨ ¬ (¬ v 0 = 0 ∧ ∃ u : Nat, u < 4 ∧ k = nI u ∧ m = nI 0) ∧ w = some (.int (-1))) ∧ h_fr (fun q => q = a) σ σ1) := by
  refine ct_of rfl hZ (Nat.le_of_ble_eq_true rfl) ?_
  show G _ _ _ _ _ _ _ _ _ _ 0 [(0, .ref a), (1, .int k), (2, .int m)] []
  refine g_iload_n dX12_manage_0 rfl (List.mem_of_getElem? (i := 1) rfl) ?_
  refine g_if_lt (tgt := 28) dX12_manage_1 (by decide) (fun c1 => ?_) (fun c1 => ?_)
  · have c1 := c1
    refine g_iconst (v := -1) dX12_manage_28 (by decide) ?_
    exact g_iret rfl dX12_manage_29 (⟨Or.inr ⟨fun ⟨_, u, hu, e, _⟩ => by subst e; exact nI_pos (by omega) c1, rfl⟩, h_fr.rf⟩)
  · have c1 := c1
    refine g_iload_n dX12_manage_4 rfl (List.mem_of_getElem? (i := 1) rfl) ?_
    refine g_iconst (v := 3) dX12_manage_5 (by decide) ?_
    refine g_icmp_gt (tgt := 28) dX12_manage_6 (by decide) (fun c6 => ?_) (fun c6 => ?_)
    · have c6 := c6
      refine g_iconst (v := -1) dX12_manage_28 (by decide) ?_
      exact g_iret rfl dX12_manage_29 (⟨Or.inr ⟨fun ⟨_, u, hu, e, _⟩ => by subst e; exact absurd ((nI_leI (a := u) (b := 3) (by omega) (by decide)).mpr (by omega)) (Int32.not_le.mpr c6), rfl⟩, h_fr.rf⟩)
    · have c6 := c6
      refine g_aload_n dX12_manage_9 rfl (List.mem_of_getElem? (i := 0) rfl) ?_
      refine g_get fX12_7 ha (v := .int (v 0)) (mFs_int (by decide) rfl) dX12_manage_10 ?_
      refine g_if_eq (tgt := 28) dX12_manage_13 (by decide) (fun c13 => ?_) (fun c13 => ?_)
      · have c13 := c13
        refine g_iconst (v := -1) dX12_manage_28 (by decide) ?_
        exact g_iret rfl dX12_manage_29 (⟨Or.inr ⟨fun h => h.1 c13, rfl⟩, h_fr.rf⟩)
      · have c13 := c13
        refine g_iload_n dX12_manage_16 rfl (List.mem_of_getElem? (i := 2) rfl) ?_
        refine g_if_lt (tgt := 28) dX12_manage_17 (by decide) (fun c17 => ?_) (fun c17 => ?_)
        · have c17 := c17
          refine g_iconst (v := -1) dX12_manage_28 (by decide) ?_
          exact g_iret rfl dX12_manage_29 (⟨Or.inr ⟨fun ⟨_, u, hu, _, e⟩ => by subst e; exact absurd c17 (by decide), rfl⟩, h_fr.rf⟩)
        · have c17 := c17
          refine g_iload_n dX12_manage_20 rfl (List.mem_of_getElem? (i := 2) rfl) ?_
          refine g_aload_n dX12_manage_21 rfl (List.mem_of_getElem? (i := 0) rfl) ?_
          refine g_get fX12_25 ha (v := .int (v 5)) (mFs_int (by decide) rfl) dX12_manage_22 ?_
          refine g_icmp_le (tgt := 30) dX12_manage_25 (by decide) (fun c25 => ?_) (fun c25 => ?_)
          · obtain ⟨u, hu2, rfl⟩ := nI_of c1
            have hu : u < 4 := by have := (nI_leI (a := u) (b := 3) hu2 (by decide)).mp (Int32.not_lt.mp c6); omega
            obtain ⟨n, hn2, rfl⟩ := nI_of c17
            have hn : n = 0 := by rw [h0] at c25; have := (nI_leI (a := n) (b := 0) hn2 (by decide)).mp c25; omega
            subst hn
            refine g_aload_n dX12_manage_30 rfl (List.mem_of_getElem? (i := 0) rfl) ?_
            refine g_iconst (v := 0) dX12_manage_31 (by decide) ?_
            refine g_putM (ft := .int) fX12_25 rfl rfl ha (by decide +kernel) rfl rfl dX12_manage_32 ?_
            refine g_iconst (v := 0) dX12_manage_35 (by decide) ?_
            refine g_istore_n dX12_manage_36 rfl (by decide) rfl ?_
            refine g_iload_n dX12_manage_37 rfl (List.mem_of_getElem? (i := 0) rfl) ?_
            refine g_iload_n dX12_manage_38 rfl (List.mem_of_getElem? (i := 3) rfl) ?_
            refine g_icmp_ge (tgt := 66) dX12_manage_39 (by decide) (fun c39 => ?_) (fun c39 => absurd ((by decide : (nI 0 : Int32) ≤ 0)) c39)
            refine g_iload_n dX12_manage_66 rfl (List.mem_of_getElem? (i := 3) rfl) ?_
            exact g_iret rfl dX12_manage_67 (⟨Or.inl ⟨c13, u, hu, rfl, rfl, rfl⟩, ⟨fun q hq => h_n hq rfl, rfl⟩⟩)
          · have c25 := c25
            refine g_iconst (v := -1) dX12_manage_28 (by decide) ?_
            exact g_iret rfl dX12_manage_29 (⟨Or.inr ⟨fun ⟨_, u, hu, _, e⟩ => by subst e; rw [h0] at c25; exact absurd c25 (by decide), rfl⟩, h_fr.rf⟩)
set_option maxRecDepth 100000 in
set_option maxHeartbeats 4000000 in
/-- the reference: reply where nothing waits -/
theorem cm_reply0 {l : Launch} {D : va_G} {A : Nat → ClassId} {B : Nat} {Z : State → Heap → Prop} (hZ : h_st B Z) {d : Nat} {σ : hS} {a n0 : Nat} {v : Nat → Int32} (ha : σ.1 a = some (.inr (12, mFs n0 v))) {ss : Nat → Int32} (hss : σ.1 (n0 + 6) = some (.inl (A 0, 5, .inl ss))) (hz : ∀ s : Nat, s < 5 → ss s = 0) {k : Int32} : Ct l D (h_ty A) B Z d mX12_reply σ [.ref a, .int k] (fun σ1 w => σ1 = σ ∧ w = some (.long 0)) := by
  refine ct_of rfl hZ (Nat.le_of_ble_eq_true rfl) ?_
  show G _ _ _ _ _ _ _ _ _ _ 0 [(0, .ref a), (1, .int k)] []
  refine g_iload_n dX12_reply_0 rfl (List.mem_of_getElem? (i := 1) rfl) ?_
  refine g_if_lt (tgt := 9) dX12_reply_1 (by decide) (fun c1 => ?_) (fun c1 => ?_)
  · have cc := c1
    refine g_lconst (v := 0) dX12_reply_9 (by decide) ?_
    exact g_lret rfl dX12_reply_10 (⟨rfl, rfl⟩)
  · have c1 := c1
    refine g_iload_n dX12_reply_4 rfl (List.mem_of_getElem? (i := 1) rfl) ?_
    refine g_iconst (v := 4) dX12_reply_5 (by decide) ?_
    refine g_icmp_le (tgt := 11) dX12_reply_6 (by decide) (fun c6 => ?_) (fun c6 => ?_)
    · obtain ⟨s, hs2, rfl⟩ := nI_of c1
      have hs : s < 5 := by have := (nI_leI (a := s) (b := 4) hs2 (by decide)).mp c6; omega
      refine g_aload_n dX12_reply_11 rfl (List.mem_of_getElem? (i := 0) rfl) ?_
      refine g_get fX12_31 ha (v := .ref (n0 + 6)) (mFs_get (by decide) rfl) dX12_reply_12 ?_
      refine g_iload_n dX12_reply_15 rfl (List.mem_of_getElem? (i := 1) rfl) ?_
      refine g_iald (t0 := 0) rfl hss (vp_in_nI hs (by decide)) dX12_reply_16 ?_
      refine g_eqi (0) (by rw [nI_clamp (by omega)]; exact hz s hs) ?_
      refine g_bipush (v := 7) dX12_reply_17 (by decide) ?_
      refine g_icmp_ge (tgt := 31) dX12_reply_19 (by decide) (fun c19 => absurd c19 (by decide)) (fun c19 => ?_)
      refine g_aload_n dX12_reply_22 rfl (List.mem_of_getElem? (i := 0) rfl) ?_
      refine g_get fX12_31 ha (v := .ref (n0 + 6)) (mFs_get (by decide) rfl) dX12_reply_23 ?_
      refine g_iload_n dX12_reply_26 rfl (List.mem_of_getElem? (i := 1) rfl) ?_
      refine g_iald (t0 := 0) rfl hss (vp_in_nI hs (by decide)) dX12_reply_27 ?_
      refine g_eqi (0) (by rw [nI_clamp (by omega)]; exact hz s hs) ?_
      refine g_goto (tgt := 33) dX12_reply_28 (by decide) ?_
      refine g_istore_n dX12_reply_33 rfl (by decide) rfl ?_
      refine g_iload_n dX12_reply_34 rfl (List.mem_of_getElem? (i := 0) rfl) ?_
      refine g_if_ne (tgt := 40) dX12_reply_35 (by decide) (fun c35 => absurd (by decide) c35) (fun c35 => ?_)
      refine g_lconst (v := 0) dX12_reply_38 (by decide) ?_
      exact g_lret rfl dX12_reply_39 (⟨rfl, rfl⟩)
    · have cc := c6
      refine g_lconst (v := 0) dX12_reply_9 (by decide) ?_
      exact g_lret rfl dX12_reply_10 (⟨rfl, rfl⟩)
