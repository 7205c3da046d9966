abbrev mX5_put : hM := (yX5_put, cX5_put, 2, none)
theorem dX5_put_0 : decode cX5_put 0 = .ok (.aload_n 0, 1) := by decide +kernel
theorem dX5_put_1 : decode cX5_put 1 = .ok (.getfield 13, 3) := by decide +kernel
theorem fX5_13 : h_fl RX5 13 5 2 RX5 TX5 3 := ⟨rfl, by decide, inX5, h_t2 21 rfl rfl⟩
theorem dX5_put_4 : decode cX5_put 4 = .ok (.sipush 10000, 3) := by decide +kernel
theorem dX5_put_7 : decode cX5_put 7 = .ok (.if_icmp .ge 33, 3) := by decide +kernel
theorem dX5_put_10 : decode cX5_put 10 = .ok (.aload_n 0, 1) := by decide +kernel
theorem dX5_put_11 : decode cX5_put 11 = .ok (.getfield 9, 3) := by decide +kernel
theorem fX5_9 : h_fl RX5 9 5 0 RX5 TX5 3 := ⟨rfl, by decide, inX5, h_t2 19 rfl rfl⟩
theorem dX5_put_14 : decode cX5_put 14 = .ok (.aload_n 0, 1) := by decide +kernel
theorem dX5_put_15 : decode cX5_put 15 = .ok (.getfield 17, 3) := by decide +kernel
theorem fX5_17 : h_fl RX5 17 5 1 RX5 TX5 3 := ⟨rfl, by decide, inX5, h_t2 20 rfl rfl⟩
theorem dX5_put_18 : decode cX5_put 18 = .ok (.aload_n 0, 1) := by decide +kernel
theorem dX5_put_19 : decode cX5_put 19 = .ok (.getfield 13, 3) := by decide +kernel
theorem dX5_put_22 : decode cX5_put 22 = .ok (.iadd, 1) := by decide +kernel
theorem dX5_put_23 : decode cX5_put 23 = .ok (.sipush 10000, 3) := by decide +kernel
theorem dX5_put_26 : decode cX5_put 26 = .ok (.irem, 1) := by decide +kernel
theorem dX5_put_27 : decode cX5_put 27 = .ok (.iload_n 1, 1) := by decide +kernel
theorem dX5_put_28 : decode cX5_put 28 = .ok (.i2b, 1) := by decide +kernel
theorem dX5_put_29 : decode cX5_put 29 = .ok (.bastore, 1) := by decide +kernel
theorem dX5_put_30 : decode cX5_put 30 = .ok (.aload_n 0, 1) := by decide +kernel
theorem dX5_put_31 : decode cX5_put 31 = .ok (.dup, 1) := by decide +kernel
theorem dX5_put_32 : decode cX5_put 32 = .ok (.getfield 13, 3) := by decide +kernel
theorem dX5_put_35 : decode cX5_put 35 = .ok (.iconst 1, 1) := by decide +kernel
theorem dX5_put_36 : decode cX5_put 36 = .ok (.iadd, 1) := by decide +kernel
theorem dX5_put_37 : decode cX5_put 37 = .ok (.putfield 13, 3) := by decide +kernel
theorem dX5_put_40 : decode cX5_put 40 = .ok (.return_, 1) := by decide +kernel
