theorem d_Tp_init_0 : decode b_Tp_init 0 = .ok (.aload_n 0, 1) := by decide +kernel
theorem d_Tp_init_1 : decode b_Tp_init 1 = .ok (.invokespecial 1, 3) := by decide +kernel
theorem d_Tp_init_4 : decode b_Tp_init 4 = .ok (.aload_n 0, 1) := by decide +kernel
theorem d_Tp_init_5 : decode b_Tp_init 5 = .ok (.bipush 64, 2) := by decide +kernel
theorem d_Tp_init_7 : decode b_Tp_init 7 = .ok (.newarray .byte, 2) := by decide +kernel
theorem d_Tp_init_9 : decode b_Tp_init 9 = .ok (.putfield 7, 3) := by decide +kernel
theorem d_Tp_init_12 : decode b_Tp_init 12 = .ok (.aload_n 0, 1) := by decide +kernel
theorem d_Tp_init_13 : decode b_Tp_init 13 = .ok (.iconst 0, 1) := by decide +kernel
theorem d_Tp_init_14 : decode b_Tp_init 14 = .ok (.putfield 13, 3) := by decide +kernel
theorem d_Tp_init_17 : decode b_Tp_init 17 = .ok (.return_, 1) := by decide +kernel
theorem d_Tp_byteAt_0 : decode b_Tp_byteAt 0 = .ok (.iload_n 1, 1) := by decide +kernel
theorem d_Tp_byteAt_1 : decode b_Tp_byteAt 1 = .ok (.ifCond .lt 24, 3) := by decide +kernel
theorem d_Tp_byteAt_4 : decode b_Tp_byteAt 4 = .ok (.iload_n 1, 1) := by decide +kernel
theorem d_Tp_byteAt_5 : decode b_Tp_byteAt 5 = .ok (.aload_n 0, 1) := by decide +kernel
theorem d_Tp_byteAt_6 : decode b_Tp_byteAt 6 = .ok (.getfield 13, 3) := by decide +kernel
theorem d_Tp_byteAt_9 : decode b_Tp_byteAt 9 = .ok (.if_icmp .ge 16, 3) := by decide +kernel
theorem d_Tp_byteAt_12 : decode b_Tp_byteAt 12 = .ok (.aload_n 0, 1) := by decide +kernel
theorem d_Tp_byteAt_13 : decode b_Tp_byteAt 13 = .ok (.getfield 7, 3) := by decide +kernel
theorem d_Tp_byteAt_16 : decode b_Tp_byteAt 16 = .ok (.iload_n 1, 1) := by decide +kernel
theorem d_Tp_byteAt_17 : decode b_Tp_byteAt 17 = .ok (.baload, 1) := by decide +kernel
theorem d_Tp_byteAt_18 : decode b_Tp_byteAt 18 = .ok (.sipush 255, 3) := by decide +kernel
theorem d_Tp_byteAt_21 : decode b_Tp_byteAt 21 = .ok (.iand, 1) := by decide +kernel
theorem d_Tp_byteAt_22 : decode b_Tp_byteAt 22 = .ok (.goto 4, 3) := by decide +kernel
theorem d_Tp_byteAt_25 : decode b_Tp_byteAt 25 = .ok (.iconst (-1), 1) := by decide +kernel
theorem d_Tp_byteAt_26 : decode b_Tp_byteAt 26 = .ok (.ireturn, 1) := by decide +kernel
theorem d_Tp_lineEndWidth_0 : decode b_Tp_lineEndWidth 0 = .ok (.aload_n 0, 1) := by decide +kernel
theorem d_Tp_lineEndWidth_1 : decode b_Tp_lineEndWidth 1 = .ok (.iload_n 1, 1) := by decide +kernel
theorem d_Tp_lineEndWidth_2 : decode b_Tp_lineEndWidth 2 = .ok (.invokevirtual 26, 3) := by decide +kernel
theorem d_Tp_lineEndWidth_5 : decode b_Tp_lineEndWidth 5 = .ok (.istore_n 2, 1) := by decide +kernel
theorem d_Tp_lineEndWidth_6 : decode b_Tp_lineEndWidth 6 = .ok (.iload_n 2, 1) := by decide +kernel
theorem d_Tp_lineEndWidth_7 : decode b_Tp_lineEndWidth 7 = .ok (.invokestatic 30, 3) := by decide +kernel
theorem d_Tp_lineEndWidth_10 : decode b_Tp_lineEndWidth 10 = .ok (.ifCond .ne 5, 3) := by decide +kernel
theorem d_Tp_lineEndWidth_13 : decode b_Tp_lineEndWidth 13 = .ok (.iconst 0, 1) := by decide +kernel
theorem d_Tp_lineEndWidth_14 : decode b_Tp_lineEndWidth 14 = .ok (.ireturn, 1) := by decide +kernel
theorem d_Tp_lineEndWidth_15 : decode b_Tp_lineEndWidth 15 = .ok (.aload_n 0, 1) := by decide +kernel
theorem d_Tp_lineEndWidth_16 : decode b_Tp_lineEndWidth 16 = .ok (.iload_n 1, 1) := by decide +kernel
theorem d_Tp_lineEndWidth_17 : decode b_Tp_lineEndWidth 17 = .ok (.iconst 1, 1) := by decide +kernel
theorem d_Tp_lineEndWidth_18 : decode b_Tp_lineEndWidth 18 = .ok (.iadd, 1) := by decide +kernel
theorem d_Tp_lineEndWidth_19 : decode b_Tp_lineEndWidth 19 = .ok (.invokevirtual 26, 3) := by decide +kernel
theorem d_Tp_lineEndWidth_22 : decode b_Tp_lineEndWidth 22 = .ok (.istore_n 3, 1) := by decide +kernel
theorem d_Tp_lineEndWidth_23 : decode b_Tp_lineEndWidth 23 = .ok (.iload_n 3, 1) := by decide +kernel
theorem d_Tp_lineEndWidth_24 : decode b_Tp_lineEndWidth 24 = .ok (.invokestatic 30, 3) := by decide +kernel
theorem d_Tp_lineEndWidth_27 : decode b_Tp_lineEndWidth 27 = .ok (.ifCond .eq 12, 3) := by decide +kernel
theorem d_Tp_lineEndWidth_30 : decode b_Tp_lineEndWidth 30 = .ok (.iload_n 3, 1) := by decide +kernel
theorem d_Tp_lineEndWidth_31 : decode b_Tp_lineEndWidth 31 = .ok (.iload_n 2, 1) := by decide +kernel
theorem d_Tp_lineEndWidth_32 : decode b_Tp_lineEndWidth 32 = .ok (.if_icmp .eq 7, 3) := by decide +kernel
theorem d_Tp_lineEndWidth_35 : decode b_Tp_lineEndWidth 35 = .ok (.iconst 2, 1) := by decide +kernel
theorem d_Tp_lineEndWidth_36 : decode b_Tp_lineEndWidth 36 = .ok (.goto 4, 3) := by decide +kernel
theorem d_Tp_lineEndWidth_39 : decode b_Tp_lineEndWidth 39 = .ok (.iconst 1, 1) := by decide +kernel
theorem d_Tp_lineEndWidth_40 : decode b_Tp_lineEndWidth 40 = .ok (.ireturn, 1) := by decide +kernel
theorem d_Tp_equalSignsAt_0 : decode b_Tp_equalSignsAt 0 = .ok (.iload_n 1, 1) := by decide +kernel
theorem d_Tp_equalSignsAt_1 : decode b_Tp_equalSignsAt 1 = .ok (.istore_n 2, 1) := by decide +kernel
theorem d_Tp_equalSignsAt_2 : decode b_Tp_equalSignsAt 2 = .ok (.iload_n 2, 1) := by decide +kernel
theorem d_Tp_equalSignsAt_3 : decode b_Tp_equalSignsAt 3 = .ok (.aload_n 0, 1) := by decide +kernel
theorem d_Tp_equalSignsAt_4 : decode b_Tp_equalSignsAt 4 = .ok (.getfield 13, 3) := by decide +kernel
theorem d_Tp_equalSignsAt_7 : decode b_Tp_equalSignsAt 7 = .ok (.if_icmp .ge 19, 3) := by decide +kernel
theorem d_Tp_equalSignsAt_10 : decode b_Tp_equalSignsAt 10 = .ok (.aload_n 0, 1) := by decide +kernel
theorem d_Tp_equalSignsAt_11 : decode b_Tp_equalSignsAt 11 = .ok (.iload_n 2, 1) := by decide +kernel
theorem d_Tp_equalSignsAt_12 : decode b_Tp_equalSignsAt 12 = .ok (.invokevirtual 26, 3) := by decide +kernel
theorem d_Tp_equalSignsAt_15 : decode b_Tp_equalSignsAt 15 = .ok (.bipush 61, 2) := by decide +kernel
theorem d_Tp_equalSignsAt_17 : decode b_Tp_equalSignsAt 17 = .ok (.if_icmp .ne 9, 3) := by decide +kernel
theorem d_Tp_equalSignsAt_20 : decode b_Tp_equalSignsAt 20 = .ok (.iinc 2 1, 3) := by decide +kernel
theorem d_Tp_equalSignsAt_23 : decode b_Tp_equalSignsAt 23 = .ok (.goto (-21), 3) := by decide +kernel
theorem d_Tp_equalSignsAt_26 : decode b_Tp_equalSignsAt 26 = .ok (.iload_n 2, 1) := by decide +kernel
theorem d_Tp_equalSignsAt_27 : decode b_Tp_equalSignsAt 27 = .ok (.iload_n 1, 1) := by decide +kernel
theorem d_Tp_equalSignsAt_28 : decode b_Tp_equalSignsAt 28 = .ok (.isub, 1) := by decide +kernel
theorem d_Tp_equalSignsAt_29 : decode b_Tp_equalSignsAt 29 = .ok (.ireturn, 1) := by decide +kernel
theorem d_Tp_append_0 : decode b_Tp_append 0 = .ok (.aload_n 0, 1) := by decide +kernel
theorem d_Tp_append_1 : decode b_Tp_append 1 = .ok (.getfield 13, 3) := by decide +kernel
theorem d_Tp_append_4 : decode b_Tp_append 4 = .ok (.ldc 17, 2) := by decide +kernel
theorem d_Tp_append_6 : decode b_Tp_append 6 = .ok (.if_icmp .lt 4, 3) := by decide +kernel
theorem d_Tp_append_9 : decode b_Tp_append 9 = .ok (.return_, 1) := by decide +kernel
theorem d_Tp_append_10 : decode b_Tp_append 10 = .ok (.aload_n 0, 1) := by decide +kernel
theorem d_Tp_append_11 : decode b_Tp_append 11 = .ok (.aload_n 0, 1) := by decide +kernel
theorem d_Tp_append_12 : decode b_Tp_append 12 = .ok (.getfield 7, 3) := by decide +kernel
theorem d_Tp_append_15 : decode b_Tp_append 15 = .ok (.aload_n 0, 1) := by decide +kernel
theorem d_Tp_append_16 : decode b_Tp_append 16 = .ok (.getfield 13, 3) := by decide +kernel
theorem d_Tp_append_19 : decode b_Tp_append 19 = .ok (.iconst 1, 1) := by decide +kernel
theorem d_Tp_append_20 : decode b_Tp_append 20 = .ok (.iadd, 1) := by decide +kernel
theorem d_Tp_append_21 : decode b_Tp_append 21 = .ok (.ldc 17, 2) := by decide +kernel
theorem d_Tp_append_23 : decode b_Tp_append 23 = .ok (.invokestatic 18, 3) := by decide +kernel
theorem d_Tp_append_26 : decode b_Tp_append 26 = .ok (.putfield 7, 3) := by decide +kernel
theorem d_Tp_append_29 : decode b_Tp_append 29 = .ok (.aload_n 0, 1) := by decide +kernel
theorem d_Tp_append_30 : decode b_Tp_append 30 = .ok (.getfield 7, 3) := by decide +kernel
theorem d_Tp_append_33 : decode b_Tp_append 33 = .ok (.aload_n 0, 1) := by decide +kernel
theorem d_Tp_append_34 : decode b_Tp_append 34 = .ok (.getfield 13, 3) := by decide +kernel
theorem d_Tp_append_37 : decode b_Tp_append 37 = .ok (.iload_n 1, 1) := by decide +kernel
theorem d_Tp_append_38 : decode b_Tp_append 38 = .ok (.i2b, 1) := by decide +kernel
theorem d_Tp_append_39 : decode b_Tp_append 39 = .ok (.bastore, 1) := by decide +kernel
theorem d_Tp_append_40 : decode b_Tp_append 40 = .ok (.aload_n 0, 1) := by decide +kernel
theorem d_Tp_append_41 : decode b_Tp_append 41 = .ok (.dup, 1) := by decide +kernel
theorem d_Tp_append_42 : decode b_Tp_append 42 = .ok (.getfield 13, 3) := by decide +kernel
theorem d_Tp_append_45 : decode b_Tp_append 45 = .ok (.iconst 1, 1) := by decide +kernel
theorem d_Tp_append_46 : decode b_Tp_append 46 = .ok (.iadd, 1) := by decide +kernel
theorem d_Tp_append_47 : decode b_Tp_append 47 = .ok (.putfield 13, 3) := by decide +kernel
theorem d_Tp_append_50 : decode b_Tp_append 50 = .ok (.return_, 1) := by decide +kernel
