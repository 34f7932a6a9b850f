theorem d_Md_init_0 : decode b_Md_init 0 = .ok (.aload_n 0, 1) := by decide +kernel
theorem d_Md_init_1 : decode b_Md_init 1 = .ok (.invokespecial 1, 3) := by decide +kernel
theorem d_Md_init_4 : decode b_Md_init 4 = .ok (.aload_n 0, 1) := by decide +kernel
theorem d_Md_init_5 : decode b_Md_init 5 = .ok (.ldc 7, 2) := by decide +kernel
theorem d_Md_init_7 : decode b_Md_init 7 = .ok (.newarray .byte, 2) := by decide +kernel
theorem d_Md_init_9 : decode b_Md_init 9 = .ok (.putfield 8, 3) := by decide +kernel
theorem d_Md_init_12 : decode b_Md_init 12 = .ok (.aload_n 0, 1) := by decide +kernel
theorem d_Md_init_13 : decode b_Md_init 13 = .ok (.sipush 16384, 3) := by decide +kernel
theorem d_Md_init_16 : decode b_Md_init 16 = .ok (.newarray .int, 2) := by decide +kernel
theorem d_Md_init_18 : decode b_Md_init 18 = .ok (.putfield 14, 3) := by decide +kernel
theorem d_Md_init_21 : decode b_Md_init 21 = .ok (.aload_n 0, 1) := by decide +kernel
theorem d_Md_init_22 : decode b_Md_init 22 = .ok (.sipush 16384, 3) := by decide +kernel
theorem d_Md_init_25 : decode b_Md_init 25 = .ok (.newarray .int, 2) := by decide +kernel
theorem d_Md_init_27 : decode b_Md_init 27 = .ok (.putfield 18, 3) := by decide +kernel
theorem d_Md_init_30 : decode b_Md_init 30 = .ok (.aload_n 0, 1) := by decide +kernel
theorem d_Md_init_31 : decode b_Md_init 31 = .ok (.sipush 16384, 3) := by decide +kernel
theorem d_Md_init_34 : decode b_Md_init 34 = .ok (.newarray .int, 2) := by decide +kernel
theorem d_Md_init_36 : decode b_Md_init 36 = .ok (.putfield 21, 3) := by decide +kernel
theorem d_Md_init_39 : decode b_Md_init 39 = .ok (.aload_n 0, 1) := by decide +kernel
theorem d_Md_init_40 : decode b_Md_init 40 = .ok (.sipush 16384, 3) := by decide +kernel
theorem d_Md_init_43 : decode b_Md_init 43 = .ok (.newarray .int, 2) := by decide +kernel
theorem d_Md_init_45 : decode b_Md_init 45 = .ok (.putfield 24, 3) := by decide +kernel
theorem d_Md_init_48 : decode b_Md_init 48 = .ok (.aload_n 0, 1) := by decide +kernel
theorem d_Md_init_49 : decode b_Md_init 49 = .ok (.sipush 16384, 3) := by decide +kernel
theorem d_Md_init_52 : decode b_Md_init 52 = .ok (.newarray .int, 2) := by decide +kernel
theorem d_Md_init_54 : decode b_Md_init 54 = .ok (.putfield 27, 3) := by decide +kernel
theorem d_Md_init_57 : decode b_Md_init 57 = .ok (.aload_n 0, 1) := by decide +kernel
theorem d_Md_init_58 : decode b_Md_init 58 = .ok (.ldc 30, 2) := by decide +kernel
theorem d_Md_init_60 : decode b_Md_init 60 = .ok (.newarray .byte, 2) := by decide +kernel
theorem d_Md_init_62 : decode b_Md_init 62 = .ok (.putfield 31, 3) := by decide +kernel
theorem d_Md_init_65 : decode b_Md_init 65 = .ok (.aload_n 0, 1) := by decide +kernel
theorem d_Md_init_66 : decode b_Md_init 66 = .ok (.sipush 16385, 3) := by decide +kernel
theorem d_Md_init_69 : decode b_Md_init 69 = .ok (.newarray .int, 2) := by decide +kernel
theorem d_Md_init_71 : decode b_Md_init 71 = .ok (.putfield 34, 3) := by decide +kernel
theorem d_Md_init_74 : decode b_Md_init 74 = .ok (.aload_n 0, 1) := by decide +kernel
theorem d_Md_init_75 : decode b_Md_init 75 = .ok (.iconst 1, 1) := by decide +kernel
theorem d_Md_init_76 : decode b_Md_init 76 = .ok (.putfield 37, 3) := by decide +kernel
theorem d_Md_init_79 : decode b_Md_init 79 = .ok (.return_, 1) := by decide +kernel
theorem d_Md_type_0 : decode b_Md_type 0 = .ok (.iload_n 3, 1) := by decide +kernel
theorem d_Md_type_1 : decode b_Md_type 1 = .ok (.iconst 1, 1) := by decide +kernel
theorem d_Md_type_2 : decode b_Md_type 2 = .ok (.if_icmp .lt 9, 3) := by decide +kernel
theorem d_Md_type_5 : decode b_Md_type 5 = .ok (.iload_n 3, 1) := by decide +kernel
theorem d_Md_type_6 : decode b_Md_type 6 = .ok (.bipush 8, 2) := by decide +kernel
theorem d_Md_type_8 : decode b_Md_type 8 = .ok (.if_icmp .le 5, 3) := by decide +kernel
theorem d_Md_type_11 : decode b_Md_type 11 = .ok (.iconst (-1), 1) := by decide +kernel
theorem d_Md_type_12 : decode b_Md_type 12 = .ok (.ireturn, 1) := by decide +kernel
theorem d_Md_type_13 : decode b_Md_type 13 = .ok (.aload_n 0, 1) := by decide +kernel
theorem d_Md_type_14 : decode b_Md_type 14 = .ok (.getfield 41, 3) := by decide +kernel
theorem d_Md_type_17 : decode b_Md_type 17 = .ok (.iload_n 3, 1) := by decide +kernel
theorem d_Md_type_18 : decode b_Md_type 18 = .ok (.iadd, 1) := by decide +kernel
theorem d_Md_type_19 : decode b_Md_type 19 = .ok (.ldc 7, 2) := by decide +kernel
theorem d_Md_type_21 : decode b_Md_type 21 = .ok (.if_icmp .le 6, 3) := by decide +kernel
theorem d_Md_type_24 : decode b_Md_type 24 = .ok (.bipush (-3), 2) := by decide +kernel
theorem d_Md_type_26 : decode b_Md_type 26 = .ok (.ireturn, 1) := by decide +kernel
theorem d_Md_type_27 : decode b_Md_type 27 = .ok (.iload_n 3, 1) := by decide +kernel
theorem d_Md_type_28 : decode b_Md_type 28 = .ok (.iconst 1, 1) := by decide +kernel
theorem d_Md_type_29 : decode b_Md_type 29 = .ok (.isub, 1) := by decide +kernel
theorem d_Md_type_30 : decode b_Md_type 30 = .ok (.istore 4, 2) := by decide +kernel
theorem d_Md_type_32 : decode b_Md_type 32 = .ok (.iload 4, 2) := by decide +kernel
theorem d_Md_type_34 : decode b_Md_type 34 = .ok (.ifCond .lt 37, 3) := by decide +kernel
theorem d_Md_type_37 : decode b_Md_type 37 = .ok (.aload_n 0, 1) := by decide +kernel
theorem d_Md_type_38 : decode b_Md_type 38 = .ok (.getfield 8, 3) := by decide +kernel
theorem d_Md_type_41 : decode b_Md_type 41 = .ok (.aload_n 0, 1) := by decide +kernel
theorem d_Md_type_42 : decode b_Md_type 42 = .ok (.getfield 41, 3) := by decide +kernel
theorem d_Md_type_45 : decode b_Md_type 45 = .ok (.lload_n 1, 1) := by decide +kernel
theorem d_Md_type_46 : decode b_Md_type 46 = .ok (.bipush 8, 2) := by decide +kernel
theorem d_Md_type_48 : decode b_Md_type 48 = .ok (.iload 4, 2) := by decide +kernel
theorem d_Md_type_50 : decode b_Md_type 50 = .ok (.imul, 1) := by decide +kernel
theorem d_Md_type_51 : decode b_Md_type 51 = .ok (.lshr, 1) := by decide +kernel
theorem d_Md_type_52 : decode b_Md_type 52 = .ok (.l2i, 1) := by decide +kernel
theorem d_Md_type_53 : decode b_Md_type 53 = .ok (.i2b, 1) := by decide +kernel
theorem d_Md_type_54 : decode b_Md_type 54 = .ok (.bastore, 1) := by decide +kernel
theorem d_Md_type_55 : decode b_Md_type 55 = .ok (.aload_n 0, 1) := by decide +kernel
theorem d_Md_type_56 : decode b_Md_type 56 = .ok (.dup, 1) := by decide +kernel
theorem d_Md_type_57 : decode b_Md_type 57 = .ok (.getfield 41, 3) := by decide +kernel
theorem d_Md_type_60 : decode b_Md_type 60 = .ok (.iconst 1, 1) := by decide +kernel
theorem d_Md_type_61 : decode b_Md_type 61 = .ok (.iadd, 1) := by decide +kernel
theorem d_Md_type_62 : decode b_Md_type 62 = .ok (.putfield 41, 3) := by decide +kernel
theorem d_Md_type_65 : decode b_Md_type 65 = .ok (.iinc 4 (-1), 3) := by decide +kernel
theorem d_Md_type_68 : decode b_Md_type 68 = .ok (.goto (-36), 3) := by decide +kernel
theorem d_Md_type_71 : decode b_Md_type 71 = .ok (.aload_n 0, 1) := by decide +kernel
theorem d_Md_type_72 : decode b_Md_type 72 = .ok (.getfield 41, 3) := by decide +kernel
theorem d_Md_type_75 : decode b_Md_type 75 = .ok (.ireturn, 1) := by decide +kernel
theorem d_Md_byteAt_0 : decode b_Md_byteAt 0 = .ok (.iload_n 1, 1) := by decide +kernel
theorem d_Md_byteAt_1 : decode b_Md_byteAt 1 = .ok (.aload_n 0, 1) := by decide +kernel
theorem d_Md_byteAt_2 : decode b_Md_byteAt 2 = .ok (.getfield 41, 3) := by decide +kernel
theorem d_Md_byteAt_5 : decode b_Md_byteAt 5 = .ok (.if_icmp .ge 16, 3) := by decide +kernel
theorem d_Md_byteAt_8 : decode b_Md_byteAt 8 = .ok (.aload_n 0, 1) := by decide +kernel
theorem d_Md_byteAt_9 : decode b_Md_byteAt 9 = .ok (.getfield 8, 3) := by decide +kernel
theorem d_Md_byteAt_12 : decode b_Md_byteAt 12 = .ok (.iload_n 1, 1) := by decide +kernel
theorem d_Md_byteAt_13 : decode b_Md_byteAt 13 = .ok (.baload, 1) := by decide +kernel
theorem d_Md_byteAt_14 : decode b_Md_byteAt 14 = .ok (.sipush 255, 3) := by decide +kernel
theorem d_Md_byteAt_17 : decode b_Md_byteAt 17 = .ok (.iand, 1) := by decide +kernel
theorem d_Md_byteAt_18 : decode b_Md_byteAt 18 = .ok (.goto 4, 3) := by decide +kernel
theorem d_Md_byteAt_21 : decode b_Md_byteAt 21 = .ok (.iconst (-1), 1) := by decide +kernel
theorem d_Md_byteAt_22 : decode b_Md_byteAt 22 = .ok (.ireturn, 1) := by decide +kernel
theorem d_Md_isEnd_0 : decode b_Md_isEnd 0 = .ok (.iload_n 0, 1) := by decide +kernel
theorem d_Md_isEnd_1 : decode b_Md_isEnd 1 = .ok (.bipush 10, 2) := by decide +kernel
theorem d_Md_isEnd_3 : decode b_Md_isEnd 3 = .ok (.if_icmp .eq 9, 3) := by decide +kernel
theorem d_Md_isEnd_6 : decode b_Md_isEnd 6 = .ok (.iload_n 0, 1) := by decide +kernel
theorem d_Md_isEnd_7 : decode b_Md_isEnd 7 = .ok (.bipush 13, 2) := by decide +kernel
theorem d_Md_isEnd_9 : decode b_Md_isEnd 9 = .ok (.if_icmp .ne 7, 3) := by decide +kernel
theorem d_Md_isEnd_12 : decode b_Md_isEnd 12 = .ok (.iconst 1, 1) := by decide +kernel
theorem d_Md_isEnd_13 : decode b_Md_isEnd 13 = .ok (.goto 4, 3) := by decide +kernel
theorem d_Md_isEnd_16 : decode b_Md_isEnd 16 = .ok (.iconst 0, 1) := by decide +kernel
theorem d_Md_isEnd_17 : decode b_Md_isEnd 17 = .ok (.ireturn, 1) := by decide +kernel
theorem d_Md_isBlank_0 : decode b_Md_isBlank 0 = .ok (.iload_n 0, 1) := by decide +kernel
theorem d_Md_isBlank_1 : decode b_Md_isBlank 1 = .ok (.bipush 32, 2) := by decide +kernel
theorem d_Md_isBlank_3 : decode b_Md_isBlank 3 = .ok (.if_icmp .eq 15, 3) := by decide +kernel
theorem d_Md_isBlank_6 : decode b_Md_isBlank 6 = .ok (.iload_n 0, 1) := by decide +kernel
theorem d_Md_isBlank_7 : decode b_Md_isBlank 7 = .ok (.bipush 8, 2) := by decide +kernel
theorem d_Md_isBlank_9 : decode b_Md_isBlank 9 = .ok (.if_icmp .le 13, 3) := by decide +kernel
theorem d_Md_isBlank_12 : decode b_Md_isBlank 12 = .ok (.iload_n 0, 1) := by decide +kernel
theorem d_Md_isBlank_13 : decode b_Md_isBlank 13 = .ok (.bipush 14, 2) := by decide +kernel
theorem d_Md_isBlank_15 : decode b_Md_isBlank 15 = .ok (.if_icmp .ge 7, 3) := by decide +kernel
theorem d_Md_isBlank_18 : decode b_Md_isBlank 18 = .ok (.iconst 1, 1) := by decide +kernel
theorem d_Md_isBlank_19 : decode b_Md_isBlank 19 = .ok (.goto 4, 3) := by decide +kernel
theorem d_Md_isBlank_22 : decode b_Md_isBlank 22 = .ok (.iconst 0, 1) := by decide +kernel
theorem d_Md_isBlank_23 : decode b_Md_isBlank 23 = .ok (.ireturn, 1) := by decide +kernel
theorem d_Md_isDigit_0 : decode b_Md_isDigit 0 = .ok (.iload_n 0, 1) := by decide +kernel
theorem d_Md_isDigit_1 : decode b_Md_isDigit 1 = .ok (.bipush 48, 2) := by decide +kernel
theorem d_Md_isDigit_3 : decode b_Md_isDigit 3 = .ok (.if_icmp .lt 13, 3) := by decide +kernel
theorem d_Md_isDigit_6 : decode b_Md_isDigit 6 = .ok (.iload_n 0, 1) := by decide +kernel
theorem d_Md_isDigit_7 : decode b_Md_isDigit 7 = .ok (.bipush 58, 2) := by decide +kernel
theorem d_Md_isDigit_9 : decode b_Md_isDigit 9 = .ok (.if_icmp .ge 7, 3) := by decide +kernel
theorem d_Md_isDigit_12 : decode b_Md_isDigit 12 = .ok (.iconst 1, 1) := by decide +kernel
theorem d_Md_isDigit_13 : decode b_Md_isDigit 13 = .ok (.goto 4, 3) := by decide +kernel
theorem d_Md_isDigit_16 : decode b_Md_isDigit 16 = .ok (.iconst 0, 1) := by decide +kernel
theorem d_Md_isDigit_17 : decode b_Md_isDigit 17 = .ok (.ireturn, 1) := by decide +kernel
theorem d_Md_isLetter_0 : decode b_Md_isLetter 0 = .ok (.iload_n 0, 1) := by decide +kernel
theorem d_Md_isLetter_1 : decode b_Md_isLetter 1 = .ok (.bipush 97, 2) := by decide +kernel
theorem d_Md_isLetter_3 : decode b_Md_isLetter 3 = .ok (.if_icmp .lt 9, 3) := by decide +kernel
theorem d_Md_isLetter_6 : decode b_Md_isLetter 6 = .ok (.iload_n 0, 1) := by decide +kernel
theorem d_Md_isLetter_7 : decode b_Md_isLetter 7 = .ok (.bipush 123, 2) := by decide +kernel
theorem d_Md_isLetter_9 : decode b_Md_isLetter 9 = .ok (.if_icmp .lt 21, 3) := by decide +kernel
theorem d_Md_isLetter_12 : decode b_Md_isLetter 12 = .ok (.iload_n 0, 1) := by decide +kernel
theorem d_Md_isLetter_13 : decode b_Md_isLetter 13 = .ok (.bipush 65, 2) := by decide +kernel
theorem d_Md_isLetter_15 : decode b_Md_isLetter 15 = .ok (.if_icmp .lt 9, 3) := by decide +kernel
theorem d_Md_isLetter_18 : decode b_Md_isLetter 18 = .ok (.iload_n 0, 1) := by decide +kernel
theorem d_Md_isLetter_19 : decode b_Md_isLetter 19 = .ok (.bipush 91, 2) := by decide +kernel
theorem d_Md_isLetter_21 : decode b_Md_isLetter 21 = .ok (.if_icmp .lt 9, 3) := by decide +kernel
theorem d_Md_isLetter_24 : decode b_Md_isLetter 24 = .ok (.iload_n 0, 1) := by decide +kernel
theorem d_Md_isLetter_25 : decode b_Md_isLetter 25 = .ok (.bipush 95, 2) := by decide +kernel
theorem d_Md_isLetter_27 : decode b_Md_isLetter 27 = .ok (.if_icmp .ne 7, 3) := by decide +kernel
theorem d_Md_isLetter_30 : decode b_Md_isLetter 30 = .ok (.iconst 1, 1) := by decide +kernel
theorem d_Md_isLetter_31 : decode b_Md_isLetter 31 = .ok (.goto 4, 3) := by decide +kernel
theorem d_Md_isLetter_34 : decode b_Md_isLetter 34 = .ok (.iconst 0, 1) := by decide +kernel
theorem d_Md_isLetter_35 : decode b_Md_isLetter 35 = .ok (.ireturn, 1) := by decide +kernel
theorem d_Md_sixteenth_0 : decode b_Md_sixteenth 0 = .ok (.iload_n 0, 1) := by decide +kernel
theorem d_Md_sixteenth_1 : decode b_Md_sixteenth 1 = .ok (.invokestatic 44, 3) := by decide +kernel
theorem d_Md_sixteenth_4 : decode b_Md_sixteenth 4 = .ok (.ifCond .eq 8, 3) := by decide +kernel
theorem d_Md_sixteenth_7 : decode b_Md_sixteenth 7 = .ok (.iload_n 0, 1) := by decide +kernel
theorem d_Md_sixteenth_8 : decode b_Md_sixteenth 8 = .ok (.bipush 48, 2) := by decide +kernel
theorem d_Md_sixteenth_10 : decode b_Md_sixteenth 10 = .ok (.isub, 1) := by decide +kernel
theorem d_Md_sixteenth_11 : decode b_Md_sixteenth 11 = .ok (.ireturn, 1) := by decide +kernel
theorem d_Md_sixteenth_12 : decode b_Md_sixteenth 12 = .ok (.iload_n 0, 1) := by decide +kernel
theorem d_Md_sixteenth_13 : decode b_Md_sixteenth 13 = .ok (.bipush 97, 2) := by decide +kernel
theorem d_Md_sixteenth_15 : decode b_Md_sixteenth 15 = .ok (.if_icmp .lt 14, 3) := by decide +kernel
theorem d_Md_sixteenth_18 : decode b_Md_sixteenth 18 = .ok (.iload_n 0, 1) := by decide +kernel
theorem d_Md_sixteenth_19 : decode b_Md_sixteenth 19 = .ok (.bipush 103, 2) := by decide +kernel
theorem d_Md_sixteenth_21 : decode b_Md_sixteenth 21 = .ok (.if_icmp .ge 8, 3) := by decide +kernel
theorem d_Md_sixteenth_24 : decode b_Md_sixteenth 24 = .ok (.iload_n 0, 1) := by decide +kernel
theorem d_Md_sixteenth_25 : decode b_Md_sixteenth 25 = .ok (.bipush 87, 2) := by decide +kernel
theorem d_Md_sixteenth_27 : decode b_Md_sixteenth 27 = .ok (.isub, 1) := by decide +kernel
theorem d_Md_sixteenth_28 : decode b_Md_sixteenth 28 = .ok (.ireturn, 1) := by decide +kernel
theorem d_Md_sixteenth_29 : decode b_Md_sixteenth 29 = .ok (.iload_n 0, 1) := by decide +kernel
theorem d_Md_sixteenth_30 : decode b_Md_sixteenth 30 = .ok (.bipush 65, 2) := by decide +kernel
theorem d_Md_sixteenth_32 : decode b_Md_sixteenth 32 = .ok (.if_icmp .lt 16, 3) := by decide +kernel
theorem d_Md_sixteenth_35 : decode b_Md_sixteenth 35 = .ok (.iload_n 0, 1) := by decide +kernel
theorem d_Md_sixteenth_36 : decode b_Md_sixteenth 36 = .ok (.bipush 71, 2) := by decide +kernel
theorem d_Md_sixteenth_38 : decode b_Md_sixteenth 38 = .ok (.if_icmp .ge 10, 3) := by decide +kernel
theorem d_Md_sixteenth_41 : decode b_Md_sixteenth 41 = .ok (.iload_n 0, 1) := by decide +kernel
theorem d_Md_sixteenth_42 : decode b_Md_sixteenth 42 = .ok (.bipush 55, 2) := by decide +kernel
theorem d_Md_sixteenth_44 : decode b_Md_sixteenth 44 = .ok (.isub, 1) := by decide +kernel
theorem d_Md_sixteenth_45 : decode b_Md_sixteenth 45 = .ok (.goto 4, 3) := by decide +kernel
theorem d_Md_sixteenth_48 : decode b_Md_sixteenth 48 = .ok (.iconst (-1), 1) := by decide +kernel
theorem d_Md_sixteenth_49 : decode b_Md_sixteenth 49 = .ok (.ireturn, 1) := by decide +kernel
theorem d_Md_endLength_0 : decode b_Md_endLength 0 = .ok (.aload_n 0, 1) := by decide +kernel
theorem d_Md_endLength_1 : decode b_Md_endLength 1 = .ok (.iload_n 1, 1) := by decide +kernel
theorem d_Md_endLength_2 : decode b_Md_endLength 2 = .ok (.invokevirtual 48, 3) := by decide +kernel
theorem d_Md_endLength_5 : decode b_Md_endLength 5 = .ok (.istore_n 2, 1) := by decide +kernel
theorem d_Md_endLength_6 : decode b_Md_endLength 6 = .ok (.iload_n 2, 1) := by decide +kernel
theorem d_Md_endLength_7 : decode b_Md_endLength 7 = .ok (.invokestatic 52, 3) := by decide +kernel
theorem d_Md_endLength_10 : decode b_Md_endLength 10 = .ok (.ifCond .ne 5, 3) := by decide +kernel
theorem d_Md_endLength_13 : decode b_Md_endLength 13 = .ok (.iconst 0, 1) := by decide +kernel
theorem d_Md_endLength_14 : decode b_Md_endLength 14 = .ok (.ireturn, 1) := by decide +kernel
theorem d_Md_endLength_15 : decode b_Md_endLength 15 = .ok (.aload_n 0, 1) := by decide +kernel
theorem d_Md_endLength_16 : decode b_Md_endLength 16 = .ok (.iload_n 1, 1) := by decide +kernel
theorem d_Md_endLength_17 : decode b_Md_endLength 17 = .ok (.iconst 1, 1) := by decide +kernel
theorem d_Md_endLength_18 : decode b_Md_endLength 18 = .ok (.iadd, 1) := by decide +kernel
theorem d_Md_endLength_19 : decode b_Md_endLength 19 = .ok (.invokevirtual 48, 3) := by decide +kernel
theorem d_Md_endLength_22 : decode b_Md_endLength 22 = .ok (.istore_n 3, 1) := by decide +kernel
theorem d_Md_endLength_23 : decode b_Md_endLength 23 = .ok (.iload_n 3, 1) := by decide +kernel
theorem d_Md_endLength_24 : decode b_Md_endLength 24 = .ok (.invokestatic 52, 3) := by decide +kernel
theorem d_Md_endLength_27 : decode b_Md_endLength 27 = .ok (.ifCond .eq 12, 3) := by decide +kernel
theorem d_Md_endLength_30 : decode b_Md_endLength 30 = .ok (.iload_n 3, 1) := by decide +kernel
theorem d_Md_endLength_31 : decode b_Md_endLength 31 = .ok (.iload_n 2, 1) := by decide +kernel
theorem d_Md_endLength_32 : decode b_Md_endLength 32 = .ok (.if_icmp .eq 7, 3) := by decide +kernel
theorem d_Md_endLength_35 : decode b_Md_endLength 35 = .ok (.iconst 2, 1) := by decide +kernel
theorem d_Md_endLength_36 : decode b_Md_endLength 36 = .ok (.goto 4, 3) := by decide +kernel
theorem d_Md_endLength_39 : decode b_Md_endLength 39 = .ok (.iconst 1, 1) := by decide +kernel
theorem d_Md_endLength_40 : decode b_Md_endLength 40 = .ok (.ireturn, 1) := by decide +kernel
theorem d_Md_lineOf_0 : decode b_Md_lineOf 0 = .ok (.aload_n 0, 1) := by decide +kernel
theorem d_Md_lineOf_1 : decode b_Md_lineOf 1 = .ok (.getfield 55, 3) := by decide +kernel
theorem d_Md_lineOf_4 : decode b_Md_lineOf 4 = .ok (.iload_n 1, 1) := by decide +kernel
theorem d_Md_lineOf_5 : decode b_Md_lineOf 5 = .ok (.if_icmp .ge 70, 3) := by decide +kernel
theorem d_Md_lineOf_8 : decode b_Md_lineOf 8 = .ok (.aload_n 0, 1) := by decide +kernel
theorem d_Md_lineOf_9 : decode b_Md_lineOf 9 = .ok (.aload_n 0, 1) := by decide +kernel
theorem d_Md_lineOf_10 : decode b_Md_lineOf 10 = .ok (.getfield 55, 3) := by decide +kernel
theorem d_Md_lineOf_13 : decode b_Md_lineOf 13 = .ok (.invokevirtual 58, 3) := by decide +kernel
theorem d_Md_lineOf_16 : decode b_Md_lineOf 16 = .ok (.istore_n 2, 1) := by decide +kernel
theorem d_Md_lineOf_17 : decode b_Md_lineOf 17 = .ok (.iload_n 2, 1) := by decide +kernel
theorem d_Md_lineOf_18 : decode b_Md_lineOf 18 = .ok (.ifCond .le 18, 3) := by decide +kernel
theorem d_Md_lineOf_21 : decode b_Md_lineOf 21 = .ok (.aload_n 0, 1) := by decide +kernel
theorem d_Md_lineOf_22 : decode b_Md_lineOf 22 = .ok (.getfield 55, 3) := by decide +kernel
theorem d_Md_lineOf_25 : decode b_Md_lineOf 25 = .ok (.iload_n 2, 1) := by decide +kernel
theorem d_Md_lineOf_26 : decode b_Md_lineOf 26 = .ok (.iadd, 1) := by decide +kernel
theorem d_Md_lineOf_27 : decode b_Md_lineOf 27 = .ok (.iload_n 1, 1) := by decide +kernel
theorem d_Md_lineOf_28 : decode b_Md_lineOf 28 = .ok (.if_icmp .le 8, 3) := by decide +kernel
theorem d_Md_lineOf_31 : decode b_Md_lineOf 31 = .ok (.aload_n 0, 1) := by decide +kernel
theorem d_Md_lineOf_32 : decode b_Md_lineOf 32 = .ok (.getfield 61, 3) := by decide +kernel
theorem d_Md_lineOf_35 : decode b_Md_lineOf 35 = .ok (.ireturn, 1) := by decide +kernel
theorem d_Md_lineOf_36 : decode b_Md_lineOf 36 = .ok (.aload_n 0, 1) := by decide +kernel
theorem d_Md_lineOf_37 : decode b_Md_lineOf 37 = .ok (.dup, 1) := by decide +kernel
theorem d_Md_lineOf_38 : decode b_Md_lineOf 38 = .ok (.getfield 61, 3) := by decide +kernel
theorem d_Md_lineOf_41 : decode b_Md_lineOf 41 = .ok (.iload_n 2, 1) := by decide +kernel
theorem d_Md_lineOf_42 : decode b_Md_lineOf 42 = .ok (.ifCond .le 7, 3) := by decide +kernel
theorem d_Md_lineOf_45 : decode b_Md_lineOf 45 = .ok (.iconst 1, 1) := by decide +kernel
theorem d_Md_lineOf_46 : decode b_Md_lineOf 46 = .ok (.goto 4, 3) := by decide +kernel
theorem d_Md_lineOf_49 : decode b_Md_lineOf 49 = .ok (.iconst 0, 1) := by decide +kernel
theorem d_Md_lineOf_50 : decode b_Md_lineOf 50 = .ok (.iadd, 1) := by decide +kernel
theorem d_Md_lineOf_51 : decode b_Md_lineOf 51 = .ok (.putfield 61, 3) := by decide +kernel
theorem d_Md_lineOf_54 : decode b_Md_lineOf 54 = .ok (.aload_n 0, 1) := by decide +kernel
theorem d_Md_lineOf_55 : decode b_Md_lineOf 55 = .ok (.dup, 1) := by decide +kernel
theorem d_Md_lineOf_56 : decode b_Md_lineOf 56 = .ok (.getfield 55, 3) := by decide +kernel
theorem d_Md_lineOf_59 : decode b_Md_lineOf 59 = .ok (.iload_n 2, 1) := by decide +kernel
theorem d_Md_lineOf_60 : decode b_Md_lineOf 60 = .ok (.ifCond .le 7, 3) := by decide +kernel
theorem d_Md_lineOf_63 : decode b_Md_lineOf 63 = .ok (.iload_n 2, 1) := by decide +kernel
theorem d_Md_lineOf_64 : decode b_Md_lineOf 64 = .ok (.goto 4, 3) := by decide +kernel
theorem d_Md_lineOf_67 : decode b_Md_lineOf 67 = .ok (.iconst 1, 1) := by decide +kernel
theorem d_Md_lineOf_68 : decode b_Md_lineOf 68 = .ok (.iadd, 1) := by decide +kernel
theorem d_Md_lineOf_69 : decode b_Md_lineOf 69 = .ok (.putfield 55, 3) := by decide +kernel
theorem d_Md_lineOf_72 : decode b_Md_lineOf 72 = .ok (.goto (-72), 3) := by decide +kernel
theorem d_Md_lineOf_75 : decode b_Md_lineOf 75 = .ok (.aload_n 0, 1) := by decide +kernel
theorem d_Md_lineOf_76 : decode b_Md_lineOf 76 = .ok (.getfield 61, 3) := by decide +kernel
theorem d_Md_lineOf_79 : decode b_Md_lineOf 79 = .ok (.ireturn, 1) := by decide +kernel
theorem d_Md_fail_0 : decode b_Md_fail 0 = .ok (.aload_n 0, 1) := by decide +kernel
theorem d_Md_fail_1 : decode b_Md_fail 1 = .ok (.iload_n 1, 1) := by decide +kernel
theorem d_Md_fail_2 : decode b_Md_fail 2 = .ok (.putfield 64, 3) := by decide +kernel
theorem d_Md_fail_5 : decode b_Md_fail 5 = .ok (.aload_n 0, 1) := by decide +kernel
theorem d_Md_fail_6 : decode b_Md_fail 6 = .ok (.iload_n 2, 1) := by decide +kernel
theorem d_Md_fail_7 : decode b_Md_fail 7 = .ok (.putfield 67, 3) := by decide +kernel
theorem d_Md_fail_10 : decode b_Md_fail 10 = .ok (.iconst (-1), 1) := by decide +kernel
theorem d_Md_fail_11 : decode b_Md_fail 11 = .ok (.ireturn, 1) := by decide +kernel
theorem d_Md_level_0 : decode b_Md_level 0 = .ok (.aload_n 0, 1) := by decide +kernel
theorem d_Md_level_1 : decode b_Md_level 1 = .ok (.iload_n 1, 1) := by decide +kernel
theorem d_Md_level_2 : decode b_Md_level 2 = .ok (.invokevirtual 48, 3) := by decide +kernel
theorem d_Md_level_5 : decode b_Md_level 5 = .ok (.bipush 91, 2) := by decide +kernel
theorem d_Md_level_7 : decode b_Md_level 7 = .ok (.if_icmp .eq 5, 3) := by decide +kernel
theorem d_Md_level_10 : decode b_Md_level 10 = .ok (.iconst (-1), 1) := by decide +kernel
theorem d_Md_level_11 : decode b_Md_level 11 = .ok (.ireturn, 1) := by decide +kernel
theorem d_Md_level_12 : decode b_Md_level 12 = .ok (.iload_n 1, 1) := by decide +kernel
theorem d_Md_level_13 : decode b_Md_level 13 = .ok (.iconst 1, 1) := by decide +kernel
theorem d_Md_level_14 : decode b_Md_level 14 = .ok (.iadd, 1) := by decide +kernel
theorem d_Md_level_15 : decode b_Md_level 15 = .ok (.istore_n 2, 1) := by decide +kernel
theorem d_Md_level_16 : decode b_Md_level 16 = .ok (.aload_n 0, 1) := by decide +kernel
theorem d_Md_level_17 : decode b_Md_level 17 = .ok (.iload_n 2, 1) := by decide +kernel
theorem d_Md_level_18 : decode b_Md_level 18 = .ok (.invokevirtual 48, 3) := by decide +kernel
theorem d_Md_level_21 : decode b_Md_level 21 = .ok (.bipush 61, 2) := by decide +kernel
theorem d_Md_level_23 : decode b_Md_level 23 = .ok (.if_icmp .ne 9, 3) := by decide +kernel
theorem d_Md_level_26 : decode b_Md_level 26 = .ok (.iinc 2 1, 3) := by decide +kernel
theorem d_Md_level_29 : decode b_Md_level 29 = .ok (.goto (-13), 3) := by decide +kernel
theorem d_Md_level_32 : decode b_Md_level 32 = .ok (.aload_n 0, 1) := by decide +kernel
theorem d_Md_level_33 : decode b_Md_level 33 = .ok (.iload_n 2, 1) := by decide +kernel
theorem d_Md_level_34 : decode b_Md_level 34 = .ok (.invokevirtual 48, 3) := by decide +kernel
theorem d_Md_level_37 : decode b_Md_level 37 = .ok (.bipush 91, 2) := by decide +kernel
theorem d_Md_level_39 : decode b_Md_level 39 = .ok (.if_icmp .ne 11, 3) := by decide +kernel
theorem d_Md_level_42 : decode b_Md_level 42 = .ok (.iload_n 2, 1) := by decide +kernel
theorem d_Md_level_43 : decode b_Md_level 43 = .ok (.iload_n 1, 1) := by decide +kernel
theorem d_Md_level_44 : decode b_Md_level 44 = .ok (.isub, 1) := by decide +kernel
theorem d_Md_level_45 : decode b_Md_level 45 = .ok (.iconst 1, 1) := by decide +kernel
theorem d_Md_level_46 : decode b_Md_level 46 = .ok (.isub, 1) := by decide +kernel
theorem d_Md_level_47 : decode b_Md_level 47 = .ok (.goto 4, 3) := by decide +kernel
theorem d_Md_level_50 : decode b_Md_level 50 = .ok (.iconst (-1), 1) := by decide +kernel
theorem d_Md_level_51 : decode b_Md_level 51 = .ok (.ireturn, 1) := by decide +kernel
theorem d_Md_isClosing_0 : decode b_Md_isClosing 0 = .ok (.aload_n 0, 1) := by decide +kernel
theorem d_Md_isClosing_1 : decode b_Md_isClosing 1 = .ok (.iload_n 1, 1) := by decide +kernel
theorem d_Md_isClosing_2 : decode b_Md_isClosing 2 = .ok (.invokevirtual 48, 3) := by decide +kernel
theorem d_Md_isClosing_5 : decode b_Md_isClosing 5 = .ok (.bipush 93, 2) := by decide +kernel
theorem d_Md_isClosing_7 : decode b_Md_isClosing 7 = .ok (.if_icmp .ne 21, 3) := by decide +kernel
theorem d_Md_isClosing_10 : decode b_Md_isClosing 10 = .ok (.aload_n 0, 1) := by decide +kernel
theorem d_Md_isClosing_11 : decode b_Md_isClosing 11 = .ok (.iload_n 1, 1) := by decide +kernel
theorem d_Md_isClosing_12 : decode b_Md_isClosing 12 = .ok (.iload_n 2, 1) := by decide +kernel
theorem d_Md_isClosing_13 : decode b_Md_isClosing 13 = .ok (.iadd, 1) := by decide +kernel
theorem d_Md_isClosing_14 : decode b_Md_isClosing 14 = .ok (.iconst 1, 1) := by decide +kernel
theorem d_Md_isClosing_15 : decode b_Md_isClosing 15 = .ok (.iadd, 1) := by decide +kernel
theorem d_Md_isClosing_16 : decode b_Md_isClosing 16 = .ok (.invokevirtual 48, 3) := by decide +kernel
theorem d_Md_isClosing_19 : decode b_Md_isClosing 19 = .ok (.bipush 93, 2) := by decide +kernel
theorem d_Md_isClosing_21 : decode b_Md_isClosing 21 = .ok (.if_icmp .ne 7, 3) := by decide +kernel
theorem d_Md_isClosing_24 : decode b_Md_isClosing 24 = .ok (.iconst 1, 1) := by decide +kernel
theorem d_Md_isClosing_25 : decode b_Md_isClosing 25 = .ok (.goto 4, 3) := by decide +kernel
theorem d_Md_isClosing_28 : decode b_Md_isClosing 28 = .ok (.iconst 0, 1) := by decide +kernel
theorem d_Md_isClosing_29 : decode b_Md_isClosing 29 = .ok (.istore_n 3, 1) := by decide +kernel
theorem d_Md_isClosing_30 : decode b_Md_isClosing 30 = .ok (.iconst 1, 1) := by decide +kernel
theorem d_Md_isClosing_31 : decode b_Md_isClosing 31 = .ok (.istore 4, 2) := by decide +kernel
theorem d_Md_isClosing_33 : decode b_Md_isClosing 33 = .ok (.iload 4, 2) := by decide +kernel
theorem d_Md_isClosing_35 : decode b_Md_isClosing 35 = .ok (.iload_n 2, 1) := by decide +kernel
theorem d_Md_isClosing_36 : decode b_Md_isClosing 36 = .ok (.if_icmp .gt 32, 3) := by decide +kernel
theorem d_Md_isClosing_39 : decode b_Md_isClosing 39 = .ok (.iload_n 3, 1) := by decide +kernel
theorem d_Md_isClosing_40 : decode b_Md_isClosing 40 = .ok (.ifCond .eq 20, 3) := by decide +kernel
theorem d_Md_isClosing_43 : decode b_Md_isClosing 43 = .ok (.aload_n 0, 1) := by decide +kernel
theorem d_Md_isClosing_44 : decode b_Md_isClosing 44 = .ok (.iload_n 1, 1) := by decide +kernel
theorem d_Md_isClosing_45 : decode b_Md_isClosing 45 = .ok (.iload 4, 2) := by decide +kernel
theorem d_Md_isClosing_47 : decode b_Md_isClosing 47 = .ok (.iadd, 1) := by decide +kernel
theorem d_Md_isClosing_48 : decode b_Md_isClosing 48 = .ok (.invokevirtual 48, 3) := by decide +kernel
theorem d_Md_isClosing_51 : decode b_Md_isClosing 51 = .ok (.bipush 61, 2) := by decide +kernel
theorem d_Md_isClosing_53 : decode b_Md_isClosing 53 = .ok (.if_icmp .ne 7, 3) := by decide +kernel
theorem d_Md_isClosing_56 : decode b_Md_isClosing 56 = .ok (.iconst 1, 1) := by decide +kernel
theorem d_Md_isClosing_57 : decode b_Md_isClosing 57 = .ok (.goto 4, 3) := by decide +kernel
theorem d_Md_isClosing_60 : decode b_Md_isClosing 60 = .ok (.iconst 0, 1) := by decide +kernel
theorem d_Md_isClosing_61 : decode b_Md_isClosing 61 = .ok (.istore_n 3, 1) := by decide +kernel
theorem d_Md_isClosing_62 : decode b_Md_isClosing 62 = .ok (.iinc 4 1, 3) := by decide +kernel
theorem d_Md_isClosing_65 : decode b_Md_isClosing 65 = .ok (.goto (-32), 3) := by decide +kernel
theorem d_Md_isClosing_68 : decode b_Md_isClosing 68 = .ok (.iload_n 3, 1) := by decide +kernel
theorem d_Md_isClosing_69 : decode b_Md_isClosing 69 = .ok (.ireturn, 1) := by decide +kernel
theorem d_Md_make_0 : decode b_Md_make 0 = .ok (.aload_n 0, 1) := by decide +kernel
theorem d_Md_make_1 : decode b_Md_make 1 = .ok (.getfield 31, 3) := by decide +kernel
theorem d_Md_make_4 : decode b_Md_make 4 = .ok (.aload_n 0, 1) := by decide +kernel
theorem d_Md_make_5 : decode b_Md_make 5 = .ok (.getfield 70, 3) := by decide +kernel
theorem d_Md_make_8 : decode b_Md_make 8 = .ok (.aload_n 0, 1) := by decide +kernel
theorem d_Md_make_9 : decode b_Md_make 9 = .ok (.getfield 73, 3) := by decide +kernel
theorem d_Md_make_12 : decode b_Md_make 12 = .ok (.iadd, 1) := by decide +kernel
theorem d_Md_make_13 : decode b_Md_make 13 = .ok (.iload_n 1, 1) := by decide +kernel
theorem d_Md_make_14 : decode b_Md_make 14 = .ok (.i2b, 1) := by decide +kernel
theorem d_Md_make_15 : decode b_Md_make 15 = .ok (.bastore, 1) := by decide +kernel
theorem d_Md_make_16 : decode b_Md_make 16 = .ok (.aload_n 0, 1) := by decide +kernel
theorem d_Md_make_17 : decode b_Md_make 17 = .ok (.dup, 1) := by decide +kernel
theorem d_Md_make_18 : decode b_Md_make 18 = .ok (.getfield 73, 3) := by decide +kernel
theorem d_Md_make_21 : decode b_Md_make 21 = .ok (.iconst 1, 1) := by decide +kernel
theorem d_Md_make_22 : decode b_Md_make 22 = .ok (.iadd, 1) := by decide +kernel
theorem d_Md_make_23 : decode b_Md_make 23 = .ok (.putfield 73, 3) := by decide +kernel
theorem d_Md_make_26 : decode b_Md_make 26 = .ok (.return_, 1) := by decide +kernel
theorem d_Md_bracket_0 : decode b_Md_bracket 0 = .ok (.aload_n 0, 1) := by decide +kernel
theorem d_Md_bracket_1 : decode b_Md_bracket 1 = .ok (.iconst 0, 1) := by decide +kernel
theorem d_Md_bracket_2 : decode b_Md_bracket 2 = .ok (.putfield 73, 3) := by decide +kernel
theorem d_Md_bracket_5 : decode b_Md_bracket 5 = .ok (.iload_n 1, 1) := by decide +kernel
theorem d_Md_bracket_6 : decode b_Md_bracket 6 = .ok (.iload_n 2, 1) := by decide +kernel
theorem d_Md_bracket_7 : decode b_Md_bracket 7 = .ok (.iadd, 1) := by decide +kernel
theorem d_Md_bracket_8 : decode b_Md_bracket 8 = .ok (.iconst 2, 1) := by decide +kernel
theorem d_Md_bracket_9 : decode b_Md_bracket 9 = .ok (.iadd, 1) := by decide +kernel
theorem d_Md_bracket_10 : decode b_Md_bracket 10 = .ok (.istore_n 3, 1) := by decide +kernel
theorem d_Md_bracket_11 : decode b_Md_bracket 11 = .ok (.iload_n 3, 1) := by decide +kernel
theorem d_Md_bracket_12 : decode b_Md_bracket 12 = .ok (.aload_n 0, 1) := by decide +kernel
theorem d_Md_bracket_13 : decode b_Md_bracket 13 = .ok (.iload_n 3, 1) := by decide +kernel
theorem d_Md_bracket_14 : decode b_Md_bracket 14 = .ok (.invokevirtual 58, 3) := by decide +kernel
theorem d_Md_bracket_17 : decode b_Md_bracket 17 = .ok (.iadd, 1) := by decide +kernel
theorem d_Md_bracket_18 : decode b_Md_bracket 18 = .ok (.istore_n 3, 1) := by decide +kernel
theorem d_Md_bracket_19 : decode b_Md_bracket 19 = .ok (.aload_n 0, 1) := by decide +kernel
theorem d_Md_bracket_20 : decode b_Md_bracket 20 = .ok (.iload_n 3, 1) := by decide +kernel
theorem d_Md_bracket_21 : decode b_Md_bracket 21 = .ok (.iload_n 2, 1) := by decide +kernel
theorem d_Md_bracket_22 : decode b_Md_bracket 22 = .ok (.invokevirtual 76, 3) := by decide +kernel
theorem d_Md_bracket_25 : decode b_Md_bracket 25 = .ok (.ifCond .ne 65, 3) := by decide +kernel
theorem d_Md_bracket_28 : decode b_Md_bracket 28 = .ok (.aload_n 0, 1) := by decide +kernel
theorem d_Md_bracket_29 : decode b_Md_bracket 29 = .ok (.iload_n 3, 1) := by decide +kernel
theorem d_Md_bracket_30 : decode b_Md_bracket 30 = .ok (.invokevirtual 48, 3) := by decide +kernel
theorem d_Md_bracket_33 : decode b_Md_bracket 33 = .ok (.iconst (-1), 1) := by decide +kernel
theorem d_Md_bracket_34 : decode b_Md_bracket 34 = .ok (.if_icmp .ne 13, 3) := by decide +kernel
theorem d_Md_bracket_37 : decode b_Md_bracket 37 = .ok (.aload_n 0, 1) := by decide +kernel
theorem d_Md_bracket_38 : decode b_Md_bracket 38 = .ok (.iconst 4, 1) := by decide +kernel
theorem d_Md_bracket_39 : decode b_Md_bracket 39 = .ok (.aload_n 0, 1) := by decide +kernel
theorem d_Md_bracket_40 : decode b_Md_bracket 40 = .ok (.getfield 41, 3) := by decide +kernel
theorem d_Md_bracket_43 : decode b_Md_bracket 43 = .ok (.invokevirtual 80, 3) := by decide +kernel
theorem d_Md_bracket_46 : decode b_Md_bracket 46 = .ok (.ireturn, 1) := by decide +kernel
theorem d_Md_bracket_47 : decode b_Md_bracket 47 = .ok (.aload_n 0, 1) := by decide +kernel
theorem d_Md_bracket_48 : decode b_Md_bracket 48 = .ok (.iload_n 3, 1) := by decide +kernel
theorem d_Md_bracket_49 : decode b_Md_bracket 49 = .ok (.invokevirtual 58, 3) := by decide +kernel
theorem d_Md_bracket_52 : decode b_Md_bracket 52 = .ok (.istore 4, 2) := by decide +kernel
theorem d_Md_bracket_54 : decode b_Md_bracket 54 = .ok (.aload_n 0, 1) := by decide +kernel
theorem d_Md_bracket_55 : decode b_Md_bracket 55 = .ok (.iload 4, 2) := by decide +kernel
theorem d_Md_bracket_57 : decode b_Md_bracket 57 = .ok (.ifCond .le 8, 3) := by decide +kernel
theorem d_Md_bracket_60 : decode b_Md_bracket 60 = .ok (.bipush 10, 2) := by decide +kernel
theorem d_Md_bracket_62 : decode b_Md_bracket 62 = .ok (.goto 8, 3) := by decide +kernel
theorem d_Md_bracket_65 : decode b_Md_bracket 65 = .ok (.aload_n 0, 1) := by decide +kernel
theorem d_Md_bracket_66 : decode b_Md_bracket 66 = .ok (.iload_n 3, 1) := by decide +kernel
theorem d_Md_bracket_67 : decode b_Md_bracket 67 = .ok (.invokevirtual 48, 3) := by decide +kernel
theorem d_Md_bracket_70 : decode b_Md_bracket 70 = .ok (.invokevirtual 84, 3) := by decide +kernel
theorem d_Md_bracket_73 : decode b_Md_bracket 73 = .ok (.iload_n 3, 1) := by decide +kernel
theorem d_Md_bracket_74 : decode b_Md_bracket 74 = .ok (.iload 4, 2) := by decide +kernel
theorem d_Md_bracket_76 : decode b_Md_bracket 76 = .ok (.ifCond .le 8, 3) := by decide +kernel
theorem d_Md_bracket_79 : decode b_Md_bracket 79 = .ok (.iload 4, 2) := by decide +kernel
theorem d_Md_bracket_81 : decode b_Md_bracket 81 = .ok (.goto 4, 3) := by decide +kernel
theorem d_Md_bracket_84 : decode b_Md_bracket 84 = .ok (.iconst 1, 1) := by decide +kernel
theorem d_Md_bracket_85 : decode b_Md_bracket 85 = .ok (.iadd, 1) := by decide +kernel
theorem d_Md_bracket_86 : decode b_Md_bracket 86 = .ok (.istore_n 3, 1) := by decide +kernel
theorem d_Md_bracket_87 : decode b_Md_bracket 87 = .ok (.goto (-68), 3) := by decide +kernel
theorem d_Md_bracket_90 : decode b_Md_bracket 90 = .ok (.iload_n 3, 1) := by decide +kernel
theorem d_Md_bracket_91 : decode b_Md_bracket 91 = .ok (.iload_n 2, 1) := by decide +kernel
theorem d_Md_bracket_92 : decode b_Md_bracket 92 = .ok (.iadd, 1) := by decide +kernel
theorem d_Md_bracket_93 : decode b_Md_bracket 93 = .ok (.iconst 2, 1) := by decide +kernel
theorem d_Md_bracket_94 : decode b_Md_bracket 94 = .ok (.iadd, 1) := by decide +kernel
theorem d_Md_bracket_95 : decode b_Md_bracket 95 = .ok (.ireturn, 1) := by decide +kernel
theorem d_Md_comment_0 : decode b_Md_comment 0 = .ok (.aload_n 0, 1) := by decide +kernel
theorem d_Md_comment_1 : decode b_Md_comment 1 = .ok (.iload_n 1, 1) := by decide +kernel
theorem d_Md_comment_2 : decode b_Md_comment 2 = .ok (.iconst 2, 1) := by decide +kernel
theorem d_Md_comment_3 : decode b_Md_comment 3 = .ok (.iadd, 1) := by decide +kernel
theorem d_Md_comment_4 : decode b_Md_comment 4 = .ok (.invokevirtual 88, 3) := by decide +kernel
theorem d_Md_comment_7 : decode b_Md_comment 7 = .ok (.istore_n 2, 1) := by decide +kernel
theorem d_Md_comment_8 : decode b_Md_comment 8 = .ok (.iload_n 2, 1) := by decide +kernel
theorem d_Md_comment_9 : decode b_Md_comment 9 = .ok (.ifCond .lt 12, 3) := by decide +kernel
theorem d_Md_comment_12 : decode b_Md_comment 12 = .ok (.aload_n 0, 1) := by decide +kernel
theorem d_Md_comment_13 : decode b_Md_comment 13 = .ok (.iload_n 1, 1) := by decide +kernel
theorem d_Md_comment_14 : decode b_Md_comment 14 = .ok (.iconst 2, 1) := by decide +kernel
theorem d_Md_comment_15 : decode b_Md_comment 15 = .ok (.iadd, 1) := by decide +kernel
theorem d_Md_comment_16 : decode b_Md_comment 16 = .ok (.iload_n 2, 1) := by decide +kernel
theorem d_Md_comment_17 : decode b_Md_comment 17 = .ok (.invokevirtual 91, 3) := by decide +kernel
theorem d_Md_comment_20 : decode b_Md_comment 20 = .ok (.ireturn, 1) := by decide +kernel
theorem d_Md_comment_21 : decode b_Md_comment 21 = .ok (.iload_n 1, 1) := by decide +kernel
theorem d_Md_comment_22 : decode b_Md_comment 22 = .ok (.iconst 2, 1) := by decide +kernel
theorem d_Md_comment_23 : decode b_Md_comment 23 = .ok (.iadd, 1) := by decide +kernel
theorem d_Md_comment_24 : decode b_Md_comment 24 = .ok (.istore_n 3, 1) := by decide +kernel
theorem d_Md_comment_25 : decode b_Md_comment 25 = .ok (.iload_n 3, 1) := by decide +kernel
theorem d_Md_comment_26 : decode b_Md_comment 26 = .ok (.aload_n 0, 1) := by decide +kernel
theorem d_Md_comment_27 : decode b_Md_comment 27 = .ok (.getfield 41, 3) := by decide +kernel
theorem d_Md_comment_30 : decode b_Md_comment 30 = .ok (.if_icmp .ge 17, 3) := by decide +kernel
theorem d_Md_comment_33 : decode b_Md_comment 33 = .ok (.aload_n 0, 1) := by decide +kernel
theorem d_Md_comment_34 : decode b_Md_comment 34 = .ok (.iload_n 3, 1) := by decide +kernel
theorem d_Md_comment_35 : decode b_Md_comment 35 = .ok (.invokevirtual 58, 3) := by decide +kernel
theorem d_Md_comment_38 : decode b_Md_comment 38 = .ok (.ifCond .ne 9, 3) := by decide +kernel
theorem d_Md_comment_41 : decode b_Md_comment 41 = .ok (.iinc 3 1, 3) := by decide +kernel
theorem d_Md_comment_44 : decode b_Md_comment 44 = .ok (.goto (-19), 3) := by decide +kernel
theorem d_Md_comment_47 : decode b_Md_comment 47 = .ok (.iload_n 3, 1) := by decide +kernel
theorem d_Md_comment_48 : decode b_Md_comment 48 = .ok (.ireturn, 1) := by decide +kernel
theorem d_Md_textMade_0 : decode b_Md_textMade 0 = .ok (.iconst 0, 1) := by decide +kernel
theorem d_Md_textMade_1 : decode b_Md_textMade 1 = .ok (.istore_n 1, 1) := by decide +kernel
theorem d_Md_textMade_2 : decode b_Md_textMade 2 = .ok (.iload_n 1, 1) := by decide +kernel
theorem d_Md_textMade_3 : decode b_Md_textMade 3 = .ok (.aload_n 0, 1) := by decide +kernel
theorem d_Md_textMade_4 : decode b_Md_textMade 4 = .ok (.getfield 94, 3) := by decide +kernel
theorem d_Md_textMade_7 : decode b_Md_textMade 7 = .ok (.if_icmp .ge 96, 3) := by decide +kernel
theorem d_Md_textMade_10 : decode b_Md_textMade 10 = .ok (.aload_n 0, 1) := by decide +kernel
theorem d_Md_textMade_11 : decode b_Md_textMade 11 = .ok (.getfield 34, 3) := by decide +kernel
theorem d_Md_textMade_14 : decode b_Md_textMade 14 = .ok (.iload_n 1, 1) := by decide +kernel
theorem d_Md_textMade_15 : decode b_Md_textMade 15 = .ok (.iconst 1, 1) := by decide +kernel
theorem d_Md_textMade_16 : decode b_Md_textMade 16 = .ok (.iadd, 1) := by decide +kernel
theorem d_Md_textMade_17 : decode b_Md_textMade 17 = .ok (.iaload, 1) := by decide +kernel
theorem d_Md_textMade_18 : decode b_Md_textMade 18 = .ok (.aload_n 0, 1) := by decide +kernel
theorem d_Md_textMade_19 : decode b_Md_textMade 19 = .ok (.getfield 34, 3) := by decide +kernel
theorem d_Md_textMade_22 : decode b_Md_textMade 22 = .ok (.iload_n 1, 1) := by decide +kernel
theorem d_Md_textMade_23 : decode b_Md_textMade 23 = .ok (.iaload, 1) := by decide +kernel
theorem d_Md_textMade_24 : decode b_Md_textMade 24 = .ok (.isub, 1) := by decide +kernel
theorem d_Md_textMade_25 : decode b_Md_textMade 25 = .ok (.aload_n 0, 1) := by decide +kernel
theorem d_Md_textMade_26 : decode b_Md_textMade 26 = .ok (.getfield 73, 3) := by decide +kernel
theorem d_Md_textMade_29 : decode b_Md_textMade 29 = .ok (.if_icmp .ne 7, 3) := by decide +kernel
theorem d_Md_textMade_32 : decode b_Md_textMade 32 = .ok (.iconst 1, 1) := by decide +kernel
theorem d_Md_textMade_33 : decode b_Md_textMade 33 = .ok (.goto 4, 3) := by decide +kernel
theorem d_Md_textMade_36 : decode b_Md_textMade 36 = .ok (.iconst 0, 1) := by decide +kernel
theorem d_Md_textMade_37 : decode b_Md_textMade 37 = .ok (.istore_n 2, 1) := by decide +kernel
theorem d_Md_textMade_38 : decode b_Md_textMade 38 = .ok (.iconst 0, 1) := by decide +kernel
theorem d_Md_textMade_39 : decode b_Md_textMade 39 = .ok (.istore_n 3, 1) := by decide +kernel
theorem d_Md_textMade_40 : decode b_Md_textMade 40 = .ok (.iload_n 3, 1) := by decide +kernel
theorem d_Md_textMade_41 : decode b_Md_textMade 41 = .ok (.aload_n 0, 1) := by decide +kernel
theorem d_Md_textMade_42 : decode b_Md_textMade 42 = .ok (.getfield 73, 3) := by decide +kernel
theorem d_Md_textMade_45 : decode b_Md_textMade 45 = .ok (.if_icmp .ge 46, 3) := by decide +kernel
theorem d_Md_textMade_48 : decode b_Md_textMade 48 = .ok (.iload_n 2, 1) := by decide +kernel
theorem d_Md_textMade_49 : decode b_Md_textMade 49 = .ok (.ifCond .eq 42, 3) := by decide +kernel
theorem d_Md_textMade_52 : decode b_Md_textMade 52 = .ok (.aload_n 0, 1) := by decide +kernel
theorem d_Md_textMade_53 : decode b_Md_textMade 53 = .ok (.getfield 31, 3) := by decide +kernel
theorem d_Md_textMade_56 : decode b_Md_textMade 56 = .ok (.aload_n 0, 1) := by decide +kernel
theorem d_Md_textMade_57 : decode b_Md_textMade 57 = .ok (.getfield 34, 3) := by decide +kernel
theorem d_Md_textMade_60 : decode b_Md_textMade 60 = .ok (.iload_n 1, 1) := by decide +kernel
theorem d_Md_textMade_61 : decode b_Md_textMade 61 = .ok (.iaload, 1) := by decide +kernel
theorem d_Md_textMade_62 : decode b_Md_textMade 62 = .ok (.iload_n 3, 1) := by decide +kernel
theorem d_Md_textMade_63 : decode b_Md_textMade 63 = .ok (.iadd, 1) := by decide +kernel
theorem d_Md_textMade_64 : decode b_Md_textMade 64 = .ok (.baload, 1) := by decide +kernel
theorem d_Md_textMade_65 : decode b_Md_textMade 65 = .ok (.aload_n 0, 1) := by decide +kernel
theorem d_Md_textMade_66 : decode b_Md_textMade 66 = .ok (.getfield 31, 3) := by decide +kernel
theorem d_Md_textMade_69 : decode b_Md_textMade 69 = .ok (.aload_n 0, 1) := by decide +kernel
theorem d_Md_textMade_70 : decode b_Md_textMade 70 = .ok (.getfield 70, 3) := by decide +kernel
theorem d_Md_textMade_73 : decode b_Md_textMade 73 = .ok (.iload_n 3, 1) := by decide +kernel
theorem d_Md_textMade_74 : decode b_Md_textMade 74 = .ok (.iadd, 1) := by decide +kernel
theorem d_Md_textMade_75 : decode b_Md_textMade 75 = .ok (.baload, 1) := by decide +kernel
theorem d_Md_textMade_76 : decode b_Md_textMade 76 = .ok (.if_icmp .ne 7, 3) := by decide +kernel
theorem d_Md_textMade_79 : decode b_Md_textMade 79 = .ok (.iconst 1, 1) := by decide +kernel
theorem d_Md_textMade_80 : decode b_Md_textMade 80 = .ok (.goto 4, 3) := by decide +kernel
theorem d_Md_textMade_83 : decode b_Md_textMade 83 = .ok (.iconst 0, 1) := by decide +kernel
theorem d_Md_textMade_84 : decode b_Md_textMade 84 = .ok (.istore_n 2, 1) := by decide +kernel
theorem d_Md_textMade_85 : decode b_Md_textMade 85 = .ok (.iinc 3 1, 3) := by decide +kernel
theorem d_Md_textMade_88 : decode b_Md_textMade 88 = .ok (.goto (-48), 3) := by decide +kernel
theorem d_Md_textMade_91 : decode b_Md_textMade 91 = .ok (.iload_n 2, 1) := by decide +kernel
theorem d_Md_textMade_92 : decode b_Md_textMade 92 = .ok (.ifCond .eq 5, 3) := by decide +kernel
theorem d_Md_textMade_95 : decode b_Md_textMade 95 = .ok (.iload_n 1, 1) := by decide +kernel
theorem d_Md_textMade_96 : decode b_Md_textMade 96 = .ok (.ireturn, 1) := by decide +kernel
theorem d_Md_textMade_97 : decode b_Md_textMade 97 = .ok (.iinc 1 1, 3) := by decide +kernel
theorem d_Md_textMade_100 : decode b_Md_textMade 100 = .ok (.goto (-98), 3) := by decide +kernel
theorem d_Md_textMade_103 : decode b_Md_textMade 103 = .ok (.aload_n 0, 1) := by decide +kernel
theorem d_Md_textMade_104 : decode b_Md_textMade 104 = .ok (.dup, 1) := by decide +kernel
theorem d_Md_textMade_105 : decode b_Md_textMade 105 = .ok (.getfield 70, 3) := by decide +kernel
theorem d_Md_textMade_108 : decode b_Md_textMade 108 = .ok (.aload_n 0, 1) := by decide +kernel
theorem d_Md_textMade_109 : decode b_Md_textMade 109 = .ok (.getfield 73, 3) := by decide +kernel
theorem d_Md_textMade_112 : decode b_Md_textMade 112 = .ok (.iadd, 1) := by decide +kernel
theorem d_Md_textMade_113 : decode b_Md_textMade 113 = .ok (.putfield 70, 3) := by decide +kernel
theorem d_Md_textMade_116 : decode b_Md_textMade 116 = .ok (.aload_n 0, 1) := by decide +kernel
theorem d_Md_textMade_117 : decode b_Md_textMade 117 = .ok (.dup, 1) := by decide +kernel
theorem d_Md_textMade_118 : decode b_Md_textMade 118 = .ok (.getfield 94, 3) := by decide +kernel
theorem d_Md_textMade_121 : decode b_Md_textMade 121 = .ok (.iconst 1, 1) := by decide +kernel
theorem d_Md_textMade_122 : decode b_Md_textMade 122 = .ok (.iadd, 1) := by decide +kernel
theorem d_Md_textMade_123 : decode b_Md_textMade 123 = .ok (.putfield 94, 3) := by decide +kernel
theorem d_Md_textMade_126 : decode b_Md_textMade 126 = .ok (.aload_n 0, 1) := by decide +kernel
theorem d_Md_textMade_127 : decode b_Md_textMade 127 = .ok (.getfield 34, 3) := by decide +kernel
theorem d_Md_textMade_130 : decode b_Md_textMade 130 = .ok (.aload_n 0, 1) := by decide +kernel
theorem d_Md_textMade_131 : decode b_Md_textMade 131 = .ok (.getfield 94, 3) := by decide +kernel
theorem d_Md_textMade_134 : decode b_Md_textMade 134 = .ok (.aload_n 0, 1) := by decide +kernel
theorem d_Md_textMade_135 : decode b_Md_textMade 135 = .ok (.getfield 70, 3) := by decide +kernel
theorem d_Md_textMade_138 : decode b_Md_textMade 138 = .ok (.iastore, 1) := by decide +kernel
theorem d_Md_textMade_139 : decode b_Md_textMade 139 = .ok (.aload_n 0, 1) := by decide +kernel
theorem d_Md_textMade_140 : decode b_Md_textMade 140 = .ok (.getfield 94, 3) := by decide +kernel
theorem d_Md_textMade_143 : decode b_Md_textMade 143 = .ok (.iconst 1, 1) := by decide +kernel
theorem d_Md_textMade_144 : decode b_Md_textMade 144 = .ok (.isub, 1) := by decide +kernel
theorem d_Md_textMade_145 : decode b_Md_textMade 145 = .ok (.ireturn, 1) := by decide +kernel
theorem d_Md_word_0 : decode b_Md_word 0 = .ok (.aload_n 0, 1) := by decide +kernel
theorem d_Md_word_1 : decode b_Md_word 1 = .ok (.getfield 14, 3) := by decide +kernel
theorem d_Md_word_4 : decode b_Md_word 4 = .ok (.aload_n 0, 1) := by decide +kernel
theorem d_Md_word_5 : decode b_Md_word 5 = .ok (.getfield 97, 3) := by decide +kernel
theorem d_Md_word_8 : decode b_Md_word 8 = .ok (.iload_n 1, 1) := by decide +kernel
theorem d_Md_word_9 : decode b_Md_word 9 = .ok (.iastore, 1) := by decide +kernel
theorem d_Md_word_10 : decode b_Md_word 10 = .ok (.aload_n 0, 1) := by decide +kernel
theorem d_Md_word_11 : decode b_Md_word 11 = .ok (.getfield 18, 3) := by decide +kernel
theorem d_Md_word_14 : decode b_Md_word 14 = .ok (.aload_n 0, 1) := by decide +kernel
theorem d_Md_word_15 : decode b_Md_word 15 = .ok (.getfield 97, 3) := by decide +kernel
theorem d_Md_word_18 : decode b_Md_word 18 = .ok (.aload_n 0, 1) := by decide +kernel
theorem d_Md_word_19 : decode b_Md_word 19 = .ok (.iload_n 2, 1) := by decide +kernel
theorem d_Md_word_20 : decode b_Md_word 20 = .ok (.invokevirtual 100, 3) := by decide +kernel
theorem d_Md_word_23 : decode b_Md_word 23 = .ok (.iastore, 1) := by decide +kernel
theorem d_Md_word_24 : decode b_Md_word 24 = .ok (.aload_n 0, 1) := by decide +kernel
theorem d_Md_word_25 : decode b_Md_word 25 = .ok (.getfield 21, 3) := by decide +kernel
theorem d_Md_word_28 : decode b_Md_word 28 = .ok (.aload_n 0, 1) := by decide +kernel
theorem d_Md_word_29 : decode b_Md_word 29 = .ok (.getfield 97, 3) := by decide +kernel
theorem d_Md_word_32 : decode b_Md_word 32 = .ok (.iload_n 2, 1) := by decide +kernel
theorem d_Md_word_33 : decode b_Md_word 33 = .ok (.iastore, 1) := by decide +kernel
theorem d_Md_word_34 : decode b_Md_word 34 = .ok (.aload_n 0, 1) := by decide +kernel
theorem d_Md_word_35 : decode b_Md_word 35 = .ok (.getfield 24, 3) := by decide +kernel
theorem d_Md_word_38 : decode b_Md_word 38 = .ok (.aload_n 0, 1) := by decide +kernel
theorem d_Md_word_39 : decode b_Md_word 39 = .ok (.getfield 97, 3) := by decide +kernel
theorem d_Md_word_42 : decode b_Md_word 42 = .ok (.iload_n 3, 1) := by decide +kernel
theorem d_Md_word_43 : decode b_Md_word 43 = .ok (.iload_n 2, 1) := by decide +kernel
theorem d_Md_word_44 : decode b_Md_word 44 = .ok (.isub, 1) := by decide +kernel
theorem d_Md_word_45 : decode b_Md_word 45 = .ok (.iastore, 1) := by decide +kernel
theorem d_Md_word_46 : decode b_Md_word 46 = .ok (.aload_n 0, 1) := by decide +kernel
theorem d_Md_word_47 : decode b_Md_word 47 = .ok (.getfield 27, 3) := by decide +kernel
theorem d_Md_word_50 : decode b_Md_word 50 = .ok (.aload_n 0, 1) := by decide +kernel
theorem d_Md_word_51 : decode b_Md_word 51 = .ok (.getfield 97, 3) := by decide +kernel
theorem d_Md_word_54 : decode b_Md_word 54 = .ok (.iload 4, 2) := by decide +kernel
theorem d_Md_word_56 : decode b_Md_word 56 = .ok (.iastore, 1) := by decide +kernel
theorem d_Md_word_57 : decode b_Md_word 57 = .ok (.aload_n 0, 1) := by decide +kernel
theorem d_Md_word_58 : decode b_Md_word 58 = .ok (.dup, 1) := by decide +kernel
theorem d_Md_word_59 : decode b_Md_word 59 = .ok (.getfield 97, 3) := by decide +kernel
theorem d_Md_word_62 : decode b_Md_word 62 = .ok (.iconst 1, 1) := by decide +kernel
theorem d_Md_word_63 : decode b_Md_word 63 = .ok (.iadd, 1) := by decide +kernel
theorem d_Md_word_64 : decode b_Md_word 64 = .ok (.putfield 97, 3) := by decide +kernel
theorem d_Md_word_67 : decode b_Md_word 67 = .ok (.iload_n 3, 1) := by decide +kernel
theorem d_Md_word_68 : decode b_Md_word 68 = .ok (.ireturn, 1) := by decide +kernel
theorem d_Md_plain_0 : decode b_Md_plain 0 = .ok (.aload_n 0, 1) := by decide +kernel
theorem d_Md_plain_1 : decode b_Md_plain 1 = .ok (.iconst 0, 1) := by decide +kernel
theorem d_Md_plain_2 : decode b_Md_plain 2 = .ok (.putfield 73, 3) := by decide +kernel
theorem d_Md_plain_5 : decode b_Md_plain 5 = .ok (.iload_n 2, 1) := by decide +kernel
theorem d_Md_plain_6 : decode b_Md_plain 6 = .ok (.istore 4, 2) := by decide +kernel
theorem d_Md_plain_8 : decode b_Md_plain 8 = .ok (.iload 4, 2) := by decide +kernel
theorem d_Md_plain_10 : decode b_Md_plain 10 = .ok (.iload_n 3, 1) := by decide +kernel
theorem d_Md_plain_11 : decode b_Md_plain 11 = .ok (.if_icmp .ge 19, 3) := by decide +kernel
theorem d_Md_plain_14 : decode b_Md_plain 14 = .ok (.aload_n 0, 1) := by decide +kernel
theorem d_Md_plain_15 : decode b_Md_plain 15 = .ok (.aload_n 0, 1) := by decide +kernel
theorem d_Md_plain_16 : decode b_Md_plain 16 = .ok (.iload 4, 2) := by decide +kernel
theorem d_Md_plain_18 : decode b_Md_plain 18 = .ok (.invokevirtual 48, 3) := by decide +kernel
theorem d_Md_plain_21 : decode b_Md_plain 21 = .ok (.invokevirtual 84, 3) := by decide +kernel
theorem d_Md_plain_24 : decode b_Md_plain 24 = .ok (.iinc 4 1, 3) := by decide +kernel
theorem d_Md_plain_27 : decode b_Md_plain 27 = .ok (.goto (-19), 3) := by decide +kernel
theorem d_Md_plain_30 : decode b_Md_plain 30 = .ok (.aload_n 0, 1) := by decide +kernel
theorem d_Md_plain_31 : decode b_Md_plain 31 = .ok (.iload_n 1, 1) := by decide +kernel
theorem d_Md_plain_32 : decode b_Md_plain 32 = .ok (.iload_n 2, 1) := by decide +kernel
theorem d_Md_plain_33 : decode b_Md_plain 33 = .ok (.iload_n 3, 1) := by decide +kernel
theorem d_Md_plain_34 : decode b_Md_plain 34 = .ok (.aload_n 0, 1) := by decide +kernel
theorem d_Md_plain_35 : decode b_Md_plain 35 = .ok (.invokevirtual 103, 3) := by decide +kernel
theorem d_Md_plain_38 : decode b_Md_plain 38 = .ok (.invokevirtual 107, 3) := by decide +kernel
theorem d_Md_plain_41 : decode b_Md_plain 41 = .ok (.ireturn, 1) := by decide +kernel
theorem d_Md_isName_0 : decode b_Md_isName 0 = .ok (.iload_n 1, 1) := by decide +kernel
theorem d_Md_isName_1 : decode b_Md_isName 1 = .ok (.iload_n 3, 1) := by decide +kernel
theorem d_Md_isName_2 : decode b_Md_isName 2 = .ok (.iadd, 1) := by decide +kernel
theorem d_Md_isName_3 : decode b_Md_isName 3 = .ok (.bipush 112, 2) := by decide +kernel
theorem d_Md_isName_5 : decode b_Md_isName 5 = .ok (.if_icmp .ge 15, 3) := by decide +kernel
theorem d_Md_isName_8 : decode b_Md_isName 8 = .ok (.getstatic 111, 3) := by decide +kernel
theorem d_Md_isName_11 : decode b_Md_isName 11 = .ok (.iload_n 1, 1) := by decide +kernel
theorem d_Md_isName_12 : decode b_Md_isName 12 = .ok (.iload_n 3, 1) := by decide +kernel
theorem d_Md_isName_13 : decode b_Md_isName 13 = .ok (.iadd, 1) := by decide +kernel
theorem d_Md_isName_14 : decode b_Md_isName 14 = .ok (.baload, 1) := by decide +kernel
theorem d_Md_isName_15 : decode b_Md_isName 15 = .ok (.bipush 32, 2) := by decide +kernel
theorem d_Md_isName_17 : decode b_Md_isName 17 = .ok (.if_icmp .eq 5, 3) := by decide +kernel
theorem d_Md_isName_20 : decode b_Md_isName 20 = .ok (.iconst 0, 1) := by decide +kernel
theorem d_Md_isName_21 : decode b_Md_isName 21 = .ok (.ireturn, 1) := by decide +kernel
theorem d_Md_isName_22 : decode b_Md_isName 22 = .ok (.iconst 1, 1) := by decide +kernel
theorem d_Md_isName_23 : decode b_Md_isName 23 = .ok (.istore 4, 2) := by decide +kernel
theorem d_Md_isName_25 : decode b_Md_isName 25 = .ok (.iconst 0, 1) := by decide +kernel
theorem d_Md_isName_26 : decode b_Md_isName 26 = .ok (.istore 5, 2) := by decide +kernel
theorem d_Md_isName_28 : decode b_Md_isName 28 = .ok (.iload 5, 2) := by decide +kernel
theorem d_Md_isName_30 : decode b_Md_isName 30 = .ok (.iload_n 3, 1) := by decide +kernel
theorem d_Md_isName_31 : decode b_Md_isName 31 = .ok (.if_icmp .ge 40, 3) := by decide +kernel
theorem d_Md_isName_34 : decode b_Md_isName 34 = .ok (.iload 4, 2) := by decide +kernel
theorem d_Md_isName_36 : decode b_Md_isName 36 = .ok (.ifCond .eq 26, 3) := by decide +kernel
theorem d_Md_isName_39 : decode b_Md_isName 39 = .ok (.getstatic 111, 3) := by decide +kernel
theorem d_Md_isName_42 : decode b_Md_isName 42 = .ok (.iload_n 1, 1) := by decide +kernel
theorem d_Md_isName_43 : decode b_Md_isName 43 = .ok (.iload 5, 2) := by decide +kernel
theorem d_Md_isName_45 : decode b_Md_isName 45 = .ok (.iadd, 1) := by decide +kernel
theorem d_Md_isName_46 : decode b_Md_isName 46 = .ok (.baload, 1) := by decide +kernel
theorem d_Md_isName_47 : decode b_Md_isName 47 = .ok (.aload_n 0, 1) := by decide +kernel
theorem d_Md_isName_48 : decode b_Md_isName 48 = .ok (.iload_n 2, 1) := by decide +kernel
theorem d_Md_isName_49 : decode b_Md_isName 49 = .ok (.iload 5, 2) := by decide +kernel
theorem d_Md_isName_51 : decode b_Md_isName 51 = .ok (.iadd, 1) := by decide +kernel
theorem d_Md_isName_52 : decode b_Md_isName 52 = .ok (.invokevirtual 48, 3) := by decide +kernel
theorem d_Md_isName_55 : decode b_Md_isName 55 = .ok (.if_icmp .ne 7, 3) := by decide +kernel
theorem d_Md_isName_58 : decode b_Md_isName 58 = .ok (.iconst 1, 1) := by decide +kernel
theorem d_Md_isName_59 : decode b_Md_isName 59 = .ok (.goto 4, 3) := by decide +kernel
theorem d_Md_isName_62 : decode b_Md_isName 62 = .ok (.iconst 0, 1) := by decide +kernel
theorem d_Md_isName_63 : decode b_Md_isName 63 = .ok (.istore 4, 2) := by decide +kernel
theorem d_Md_isName_65 : decode b_Md_isName 65 = .ok (.iinc 5 1, 3) := by decide +kernel
theorem d_Md_isName_68 : decode b_Md_isName 68 = .ok (.goto (-40), 3) := by decide +kernel
theorem d_Md_isName_71 : decode b_Md_isName 71 = .ok (.iload 4, 2) := by decide +kernel
theorem d_Md_isName_73 : decode b_Md_isName 73 = .ok (.ireturn, 1) := by decide +kernel
theorem d_Md_nameKind_0 : decode b_Md_nameKind 0 = .ok (.iload_n 2, 1) := by decide +kernel
theorem d_Md_nameKind_1 : decode b_Md_nameKind 1 = .ok (.iload_n 1, 1) := by decide +kernel
theorem d_Md_nameKind_2 : decode b_Md_nameKind 2 = .ok (.isub, 1) := by decide +kernel
theorem d_Md_nameKind_3 : decode b_Md_nameKind 3 = .ok (.istore_n 3, 1) := by decide +kernel
theorem d_Md_nameKind_4 : decode b_Md_nameKind 4 = .ok (.iload_n 3, 1) := by decide +kernel
theorem d_Md_nameKind_5 : decode b_Md_nameKind 5 = .ok (.iconst 2, 1) := by decide +kernel
theorem d_Md_nameKind_6 : decode b_Md_nameKind 6 = .ok (.if_icmp .lt 9, 3) := by decide +kernel
theorem d_Md_nameKind_9 : decode b_Md_nameKind 9 = .ok (.iload_n 3, 1) := by decide +kernel
theorem d_Md_nameKind_10 : decode b_Md_nameKind 10 = .ok (.bipush 8, 2) := by decide +kernel
theorem d_Md_nameKind_12 : decode b_Md_nameKind 12 = .ok (.if_icmp .le 5, 3) := by decide +kernel
theorem d_Md_nameKind_15 : decode b_Md_nameKind 15 = .ok (.iconst 1, 1) := by decide +kernel
theorem d_Md_nameKind_16 : decode b_Md_nameKind 16 = .ok (.ireturn, 1) := by decide +kernel
theorem d_Md_nameKind_17 : decode b_Md_nameKind 17 = .ok (.bipush 9, 2) := by decide +kernel
theorem d_Md_nameKind_19 : decode b_Md_nameKind 19 = .ok (.istore 4, 2) := by decide +kernel
theorem d_Md_nameKind_21 : decode b_Md_nameKind 21 = .ok (.iconst 0, 1) := by decide +kernel
theorem d_Md_nameKind_22 : decode b_Md_nameKind 22 = .ok (.istore 5, 2) := by decide +kernel
theorem d_Md_nameKind_24 : decode b_Md_nameKind 24 = .ok (.iload 5, 2) := by decide +kernel
theorem d_Md_nameKind_26 : decode b_Md_nameKind 26 = .ok (.bipush 112, 2) := by decide +kernel
theorem d_Md_nameKind_28 : decode b_Md_nameKind 28 = .ok (.if_icmp .ge 68, 3) := by decide +kernel
theorem d_Md_nameKind_31 : decode b_Md_nameKind 31 = .ok (.iload 5, 2) := by decide +kernel
theorem d_Md_nameKind_33 : decode b_Md_nameKind 33 = .ok (.ifCond .eq 16, 3) := by decide +kernel
theorem d_Md_nameKind_36 : decode b_Md_nameKind 36 = .ok (.getstatic 111, 3) := by decide +kernel
theorem d_Md_nameKind_39 : decode b_Md_nameKind 39 = .ok (.iload 5, 2) := by decide +kernel
theorem d_Md_nameKind_41 : decode b_Md_nameKind 41 = .ok (.iconst 1, 1) := by decide +kernel
theorem d_Md_nameKind_42 : decode b_Md_nameKind 42 = .ok (.isub, 1) := by decide +kernel
theorem d_Md_nameKind_43 : decode b_Md_nameKind 43 = .ok (.baload, 1) := by decide +kernel
theorem d_Md_nameKind_44 : decode b_Md_nameKind 44 = .ok (.bipush 32, 2) := by decide +kernel
theorem d_Md_nameKind_46 : decode b_Md_nameKind 46 = .ok (.if_icmp .ne 7, 3) := by decide +kernel
theorem d_Md_nameKind_49 : decode b_Md_nameKind 49 = .ok (.iconst 1, 1) := by decide +kernel
theorem d_Md_nameKind_50 : decode b_Md_nameKind 50 = .ok (.goto 4, 3) := by decide +kernel
theorem d_Md_nameKind_53 : decode b_Md_nameKind 53 = .ok (.iconst 0, 1) := by decide +kernel
theorem d_Md_nameKind_54 : decode b_Md_nameKind 54 = .ok (.istore 6, 2) := by decide +kernel
theorem d_Md_nameKind_56 : decode b_Md_nameKind 56 = .ok (.iload 4, 2) := by decide +kernel
theorem d_Md_nameKind_58 : decode b_Md_nameKind 58 = .ok (.iload 6, 2) := by decide +kernel
theorem d_Md_nameKind_60 : decode b_Md_nameKind 60 = .ok (.ifCond .eq 7, 3) := by decide +kernel
theorem d_Md_nameKind_63 : decode b_Md_nameKind 63 = .ok (.iconst 1, 1) := by decide +kernel
theorem d_Md_nameKind_64 : decode b_Md_nameKind 64 = .ok (.goto 4, 3) := by decide +kernel
theorem d_Md_nameKind_67 : decode b_Md_nameKind 67 = .ok (.iconst 0, 1) := by decide +kernel
theorem d_Md_nameKind_68 : decode b_Md_nameKind 68 = .ok (.iadd, 1) := by decide +kernel
theorem d_Md_nameKind_69 : decode b_Md_nameKind 69 = .ok (.istore 4, 2) := by decide +kernel
theorem d_Md_nameKind_71 : decode b_Md_nameKind 71 = .ok (.iload 6, 2) := by decide +kernel
theorem d_Md_nameKind_73 : decode b_Md_nameKind 73 = .ok (.ifCond .eq 17, 3) := by decide +kernel
theorem d_Md_nameKind_76 : decode b_Md_nameKind 76 = .ok (.aload_n 0, 1) := by decide +kernel
theorem d_Md_nameKind_77 : decode b_Md_nameKind 77 = .ok (.iload 5, 2) := by decide +kernel
theorem d_Md_nameKind_79 : decode b_Md_nameKind 79 = .ok (.iload_n 1, 1) := by decide +kernel
theorem d_Md_nameKind_80 : decode b_Md_nameKind 80 = .ok (.iload_n 3, 1) := by decide +kernel
theorem d_Md_nameKind_81 : decode b_Md_nameKind 81 = .ok (.invokevirtual 114, 3) := by decide +kernel
theorem d_Md_nameKind_84 : decode b_Md_nameKind 84 = .ok (.ifCond .eq 6, 3) := by decide +kernel
theorem d_Md_nameKind_87 : decode b_Md_nameKind 87 = .ok (.iload 4, 2) := by decide +kernel
theorem d_Md_nameKind_89 : decode b_Md_nameKind 89 = .ok (.ireturn, 1) := by decide +kernel
theorem d_Md_nameKind_90 : decode b_Md_nameKind 90 = .ok (.iinc 5 1, 3) := by decide +kernel
theorem d_Md_nameKind_93 : decode b_Md_nameKind 93 = .ok (.goto (-69), 3) := by decide +kernel
theorem d_Md_nameKind_96 : decode b_Md_nameKind 96 = .ok (.iconst 1, 1) := by decide +kernel
theorem d_Md_nameKind_97 : decode b_Md_nameKind 97 = .ok (.ireturn, 1) := by decide +kernel
theorem d_Md_name_0 : decode b_Md_name 0 = .ok (.iload_n 1, 1) := by decide +kernel
theorem d_Md_name_1 : decode b_Md_name 1 = .ok (.istore_n 2, 1) := by decide +kernel
theorem d_Md_name_2 : decode b_Md_name 2 = .ok (.aload_n 0, 1) := by decide +kernel
theorem d_Md_name_3 : decode b_Md_name 3 = .ok (.iload_n 2, 1) := by decide +kernel
theorem d_Md_name_4 : decode b_Md_name 4 = .ok (.invokevirtual 48, 3) := by decide +kernel
theorem d_Md_name_7 : decode b_Md_name 7 = .ok (.invokestatic 118, 3) := by decide +kernel
theorem d_Md_name_10 : decode b_Md_name 10 = .ok (.ifCond .ne 14, 3) := by decide +kernel
theorem d_Md_name_13 : decode b_Md_name 13 = .ok (.aload_n 0, 1) := by decide +kernel
theorem d_Md_name_14 : decode b_Md_name 14 = .ok (.iload_n 2, 1) := by decide +kernel
theorem d_Md_name_15 : decode b_Md_name 15 = .ok (.invokevirtual 48, 3) := by decide +kernel
theorem d_Md_name_18 : decode b_Md_name 18 = .ok (.invokestatic 44, 3) := by decide +kernel
theorem d_Md_name_21 : decode b_Md_name 21 = .ok (.ifCond .eq 9, 3) := by decide +kernel
theorem d_Md_name_24 : decode b_Md_name 24 = .ok (.iinc 2 1, 3) := by decide +kernel
theorem d_Md_name_27 : decode b_Md_name 27 = .ok (.goto (-25), 3) := by decide +kernel
theorem d_Md_name_30 : decode b_Md_name 30 = .ok (.aload_n 0, 1) := by decide +kernel
theorem d_Md_name_31 : decode b_Md_name 31 = .ok (.iload_n 1, 1) := by decide +kernel
theorem d_Md_name_32 : decode b_Md_name 32 = .ok (.iload_n 2, 1) := by decide +kernel
theorem d_Md_name_33 : decode b_Md_name 33 = .ok (.invokevirtual 121, 3) := by decide +kernel
theorem d_Md_name_36 : decode b_Md_name 36 = .ok (.istore_n 3, 1) := by decide +kernel
theorem d_Md_name_37 : decode b_Md_name 37 = .ok (.iload_n 3, 1) := by decide +kernel
theorem d_Md_name_38 : decode b_Md_name 38 = .ok (.iconst 1, 1) := by decide +kernel
theorem d_Md_name_39 : decode b_Md_name 39 = .ok (.if_icmp .ne 13, 3) := by decide +kernel
theorem d_Md_name_42 : decode b_Md_name 42 = .ok (.aload_n 0, 1) := by decide +kernel
theorem d_Md_name_43 : decode b_Md_name 43 = .ok (.iconst 1, 1) := by decide +kernel
theorem d_Md_name_44 : decode b_Md_name 44 = .ok (.iload_n 1, 1) := by decide +kernel
theorem d_Md_name_45 : decode b_Md_name 45 = .ok (.iload_n 2, 1) := by decide +kernel
theorem d_Md_name_46 : decode b_Md_name 46 = .ok (.invokevirtual 124, 3) := by decide +kernel
theorem d_Md_name_49 : decode b_Md_name 49 = .ok (.goto 11, 3) := by decide +kernel
theorem d_Md_name_52 : decode b_Md_name 52 = .ok (.aload_n 0, 1) := by decide +kernel
theorem d_Md_name_53 : decode b_Md_name 53 = .ok (.iload_n 3, 1) := by decide +kernel
theorem d_Md_name_54 : decode b_Md_name 54 = .ok (.iload_n 1, 1) := by decide +kernel
theorem d_Md_name_55 : decode b_Md_name 55 = .ok (.iload_n 2, 1) := by decide +kernel
theorem d_Md_name_56 : decode b_Md_name 56 = .ok (.iconst (-1), 1) := by decide +kernel
theorem d_Md_name_57 : decode b_Md_name 57 = .ok (.invokevirtual 107, 3) := by decide +kernel
theorem d_Md_name_60 : decode b_Md_name 60 = .ok (.ireturn, 1) := by decide +kernel
theorem d_Md_afterDigits_0 : decode b_Md_afterDigits 0 = .ok (.iload_n 1, 1) := by decide +kernel
theorem d_Md_afterDigits_1 : decode b_Md_afterDigits 1 = .ok (.istore_n 3, 1) := by decide +kernel
theorem d_Md_afterDigits_2 : decode b_Md_afterDigits 2 = .ok (.iload_n 2, 1) := by decide +kernel
theorem d_Md_afterDigits_3 : decode b_Md_afterDigits 3 = .ok (.ifCond .eq 17, 3) := by decide +kernel
theorem d_Md_afterDigits_6 : decode b_Md_afterDigits 6 = .ok (.aload_n 0, 1) := by decide +kernel
theorem d_Md_afterDigits_7 : decode b_Md_afterDigits 7 = .ok (.iload_n 3, 1) := by decide +kernel
theorem d_Md_afterDigits_8 : decode b_Md_afterDigits 8 = .ok (.invokevirtual 48, 3) := by decide +kernel
theorem d_Md_afterDigits_11 : decode b_Md_afterDigits 11 = .ok (.invokestatic 128, 3) := by decide +kernel
theorem d_Md_afterDigits_14 : decode b_Md_afterDigits 14 = .ok (.ifCond .lt 23, 3) := by decide +kernel
theorem d_Md_afterDigits_17 : decode b_Md_afterDigits 17 = .ok (.goto 14, 3) := by decide +kernel
theorem d_Md_afterDigits_20 : decode b_Md_afterDigits 20 = .ok (.aload_n 0, 1) := by decide +kernel
theorem d_Md_afterDigits_21 : decode b_Md_afterDigits 21 = .ok (.iload_n 3, 1) := by decide +kernel
theorem d_Md_afterDigits_22 : decode b_Md_afterDigits 22 = .ok (.invokevirtual 48, 3) := by decide +kernel
theorem d_Md_afterDigits_25 : decode b_Md_afterDigits 25 = .ok (.invokestatic 44, 3) := by decide +kernel
theorem d_Md_afterDigits_28 : decode b_Md_afterDigits 28 = .ok (.ifCond .eq 9, 3) := by decide +kernel
theorem d_Md_afterDigits_31 : decode b_Md_afterDigits 31 = .ok (.iinc 3 1, 3) := by decide +kernel
theorem d_Md_afterDigits_34 : decode b_Md_afterDigits 34 = .ok (.goto (-32), 3) := by decide +kernel
theorem d_Md_afterDigits_37 : decode b_Md_afterDigits 37 = .ok (.iload_n 3, 1) := by decide +kernel
theorem d_Md_afterDigits_38 : decode b_Md_afterDigits 38 = .ok (.ireturn, 1) := by decide +kernel
theorem d_Md_isMark_0 : decode b_Md_isMark 0 = .ok (.iload_n 1, 1) := by decide +kernel
theorem d_Md_isMark_1 : decode b_Md_isMark 1 = .ok (.ifCond .eq 23, 3) := by decide +kernel
theorem d_Md_isMark_4 : decode b_Md_isMark 4 = .ok (.iload_n 0, 1) := by decide +kernel
theorem d_Md_isMark_5 : decode b_Md_isMark 5 = .ok (.bipush 112, 2) := by decide +kernel
theorem d_Md_isMark_7 : decode b_Md_isMark 7 = .ok (.if_icmp .eq 9, 3) := by decide +kernel
theorem d_Md_isMark_10 : decode b_Md_isMark 10 = .ok (.iload_n 0, 1) := by decide +kernel
theorem d_Md_isMark_11 : decode b_Md_isMark 11 = .ok (.bipush 80, 2) := by decide +kernel
theorem d_Md_isMark_13 : decode b_Md_isMark 13 = .ok (.if_icmp .ne 7, 3) := by decide +kernel
theorem d_Md_isMark_16 : decode b_Md_isMark 16 = .ok (.iconst 1, 1) := by decide +kernel
theorem d_Md_isMark_17 : decode b_Md_isMark 17 = .ok (.goto 24, 3) := by decide +kernel
theorem d_Md_isMark_20 : decode b_Md_isMark 20 = .ok (.iconst 0, 1) := by decide +kernel
theorem d_Md_isMark_21 : decode b_Md_isMark 21 = .ok (.goto 20, 3) := by decide +kernel
theorem d_Md_isMark_24 : decode b_Md_isMark 24 = .ok (.iload_n 0, 1) := by decide +kernel
theorem d_Md_isMark_25 : decode b_Md_isMark 25 = .ok (.bipush 101, 2) := by decide +kernel
theorem d_Md_isMark_27 : decode b_Md_isMark 27 = .ok (.if_icmp .eq 9, 3) := by decide +kernel
theorem d_Md_isMark_30 : decode b_Md_isMark 30 = .ok (.iload_n 0, 1) := by decide +kernel
theorem d_Md_isMark_31 : decode b_Md_isMark 31 = .ok (.bipush 69, 2) := by decide +kernel
theorem d_Md_isMark_33 : decode b_Md_isMark 33 = .ok (.if_icmp .ne 7, 3) := by decide +kernel
theorem d_Md_isMark_36 : decode b_Md_isMark 36 = .ok (.iconst 1, 1) := by decide +kernel
theorem d_Md_isMark_37 : decode b_Md_isMark 37 = .ok (.goto 4, 3) := by decide +kernel
theorem d_Md_isMark_40 : decode b_Md_isMark 40 = .ok (.iconst 0, 1) := by decide +kernel
theorem d_Md_isMark_41 : decode b_Md_isMark 41 = .ok (.ireturn, 1) := by decide +kernel
theorem d_Md_isSign_0 : decode b_Md_isSign 0 = .ok (.iload_n 0, 1) := by decide +kernel
theorem d_Md_isSign_1 : decode b_Md_isSign 1 = .ok (.bipush 43, 2) := by decide +kernel
theorem d_Md_isSign_3 : decode b_Md_isSign 3 = .ok (.if_icmp .eq 9, 3) := by decide +kernel
theorem d_Md_isSign_6 : decode b_Md_isSign 6 = .ok (.iload_n 0, 1) := by decide +kernel
theorem d_Md_isSign_7 : decode b_Md_isSign 7 = .ok (.bipush 45, 2) := by decide +kernel
theorem d_Md_isSign_9 : decode b_Md_isSign 9 = .ok (.if_icmp .ne 7, 3) := by decide +kernel
theorem d_Md_isSign_12 : decode b_Md_isSign 12 = .ok (.iconst 1, 1) := by decide +kernel
theorem d_Md_isSign_13 : decode b_Md_isSign 13 = .ok (.goto 4, 3) := by decide +kernel
theorem d_Md_isSign_16 : decode b_Md_isSign 16 = .ok (.iconst 0, 1) := by decide +kernel
theorem d_Md_isSign_17 : decode b_Md_isSign 17 = .ok (.ireturn, 1) := by decide +kernel
theorem d_Md_isRight_0 : decode b_Md_isRight 0 = .ok (.iload_n 3, 1) := by decide +kernel
theorem d_Md_isRight_1 : decode b_Md_isRight 1 = .ok (.ifCond .eq 9, 3) := by decide +kernel
theorem d_Md_isRight_4 : decode b_Md_isRight 4 = .ok (.iload_n 1, 1) := by decide +kernel
theorem d_Md_isRight_5 : decode b_Md_isRight 5 = .ok (.iconst 2, 1) := by decide +kernel
theorem d_Md_isRight_6 : decode b_Md_isRight 6 = .ok (.iadd, 1) := by decide +kernel
theorem d_Md_isRight_7 : decode b_Md_isRight 7 = .ok (.goto 4, 3) := by decide +kernel
theorem d_Md_isRight_10 : decode b_Md_isRight 10 = .ok (.iload_n 1, 1) := by decide +kernel
theorem d_Md_isRight_11 : decode b_Md_isRight 11 = .ok (.istore 4, 2) := by decide +kernel
theorem d_Md_isRight_13 : decode b_Md_isRight 13 = .ok (.aload_n 0, 1) := by decide +kernel
theorem d_Md_isRight_14 : decode b_Md_isRight 14 = .ok (.iload 4, 2) := by decide +kernel
theorem d_Md_isRight_16 : decode b_Md_isRight 16 = .ok (.iload_n 3, 1) := by decide +kernel
theorem d_Md_isRight_17 : decode b_Md_isRight 17 = .ok (.invokevirtual 131, 3) := by decide +kernel
theorem d_Md_isRight_20 : decode b_Md_isRight 20 = .ok (.istore 5, 2) := by decide +kernel
theorem d_Md_isRight_22 : decode b_Md_isRight 22 = .ok (.iload 5, 2) := by decide +kernel
theorem d_Md_isRight_24 : decode b_Md_isRight 24 = .ok (.iload 4, 2) := by decide +kernel
theorem d_Md_isRight_26 : decode b_Md_isRight 26 = .ok (.isub, 1) := by decide +kernel
theorem d_Md_isRight_27 : decode b_Md_isRight 27 = .ok (.istore 6, 2) := by decide +kernel
theorem d_Md_isRight_29 : decode b_Md_isRight 29 = .ok (.aload_n 0, 1) := by decide +kernel
theorem d_Md_isRight_30 : decode b_Md_isRight 30 = .ok (.iload 5, 2) := by decide +kernel
theorem d_Md_isRight_32 : decode b_Md_isRight 32 = .ok (.invokevirtual 48, 3) := by decide +kernel
theorem d_Md_isRight_35 : decode b_Md_isRight 35 = .ok (.bipush 46, 2) := by decide +kernel
theorem d_Md_isRight_37 : decode b_Md_isRight 37 = .ok (.if_icmp .ne 28, 3) := by decide +kernel
theorem d_Md_isRight_40 : decode b_Md_isRight 40 = .ok (.iload 5, 2) := by decide +kernel
theorem d_Md_isRight_42 : decode b_Md_isRight 42 = .ok (.iconst 1, 1) := by decide +kernel
theorem d_Md_isRight_43 : decode b_Md_isRight 43 = .ok (.iadd, 1) := by decide +kernel
theorem d_Md_isRight_44 : decode b_Md_isRight 44 = .ok (.istore 4, 2) := by decide +kernel
theorem d_Md_isRight_46 : decode b_Md_isRight 46 = .ok (.aload_n 0, 1) := by decide +kernel
theorem d_Md_isRight_47 : decode b_Md_isRight 47 = .ok (.iload 4, 2) := by decide +kernel
theorem d_Md_isRight_49 : decode b_Md_isRight 49 = .ok (.iload_n 3, 1) := by decide +kernel
theorem d_Md_isRight_50 : decode b_Md_isRight 50 = .ok (.invokevirtual 131, 3) := by decide +kernel
theorem d_Md_isRight_53 : decode b_Md_isRight 53 = .ok (.istore 5, 2) := by decide +kernel
theorem d_Md_isRight_55 : decode b_Md_isRight 55 = .ok (.iload 6, 2) := by decide +kernel
theorem d_Md_isRight_57 : decode b_Md_isRight 57 = .ok (.iload 5, 2) := by decide +kernel
theorem d_Md_isRight_59 : decode b_Md_isRight 59 = .ok (.iload 4, 2) := by decide +kernel
theorem d_Md_isRight_61 : decode b_Md_isRight 61 = .ok (.isub, 1) := by decide +kernel
theorem d_Md_isRight_62 : decode b_Md_isRight 62 = .ok (.iadd, 1) := by decide +kernel
theorem d_Md_isRight_63 : decode b_Md_isRight 63 = .ok (.istore 6, 2) := by decide +kernel
theorem d_Md_isRight_65 : decode b_Md_isRight 65 = .ok (.iload 6, 2) := by decide +kernel
theorem d_Md_isRight_67 : decode b_Md_isRight 67 = .ok (.ifCond .ne 5, 3) := by decide +kernel
theorem d_Md_isRight_70 : decode b_Md_isRight 70 = .ok (.iconst 0, 1) := by decide +kernel
theorem d_Md_isRight_71 : decode b_Md_isRight 71 = .ok (.ireturn, 1) := by decide +kernel
theorem d_Md_isRight_72 : decode b_Md_isRight 72 = .ok (.iload 5, 2) := by decide +kernel
theorem d_Md_isRight_74 : decode b_Md_isRight 74 = .ok (.iload_n 2, 1) := by decide +kernel
theorem d_Md_isRight_75 : decode b_Md_isRight 75 = .ok (.if_icmp .ne 5, 3) := by decide +kernel
theorem d_Md_isRight_78 : decode b_Md_isRight 78 = .ok (.iconst 1, 1) := by decide +kernel
theorem d_Md_isRight_79 : decode b_Md_isRight 79 = .ok (.ireturn, 1) := by decide +kernel
theorem d_Md_isRight_80 : decode b_Md_isRight 80 = .ok (.aload_n 0, 1) := by decide +kernel
theorem d_Md_isRight_81 : decode b_Md_isRight 81 = .ok (.iload 5, 2) := by decide +kernel
theorem d_Md_isRight_83 : decode b_Md_isRight 83 = .ok (.invokevirtual 48, 3) := by decide +kernel
theorem d_Md_isRight_86 : decode b_Md_isRight 86 = .ok (.iload_n 3, 1) := by decide +kernel
theorem d_Md_isRight_87 : decode b_Md_isRight 87 = .ok (.invokestatic 135, 3) := by decide +kernel
theorem d_Md_isRight_90 : decode b_Md_isRight 90 = .ok (.ifCond .ne 5, 3) := by decide +kernel
theorem d_Md_isRight_93 : decode b_Md_isRight 93 = .ok (.iconst 0, 1) := by decide +kernel
theorem d_Md_isRight_94 : decode b_Md_isRight 94 = .ok (.ireturn, 1) := by decide +kernel
theorem d_Md_isRight_95 : decode b_Md_isRight 95 = .ok (.aload_n 0, 1) := by decide +kernel
theorem d_Md_isRight_96 : decode b_Md_isRight 96 = .ok (.iload 5, 2) := by decide +kernel
theorem d_Md_isRight_98 : decode b_Md_isRight 98 = .ok (.iconst 1, 1) := by decide +kernel
theorem d_Md_isRight_99 : decode b_Md_isRight 99 = .ok (.iadd, 1) := by decide +kernel
theorem d_Md_isRight_100 : decode b_Md_isRight 100 = .ok (.invokevirtual 48, 3) := by decide +kernel
theorem d_Md_isRight_103 : decode b_Md_isRight 103 = .ok (.invokestatic 139, 3) := by decide +kernel
theorem d_Md_isRight_106 : decode b_Md_isRight 106 = .ok (.ifCond .eq 10, 3) := by decide +kernel
theorem d_Md_isRight_109 : decode b_Md_isRight 109 = .ok (.iload 5, 2) := by decide +kernel
theorem d_Md_isRight_111 : decode b_Md_isRight 111 = .ok (.iconst 2, 1) := by decide +kernel
theorem d_Md_isRight_112 : decode b_Md_isRight 112 = .ok (.iadd, 1) := by decide +kernel
theorem d_Md_isRight_113 : decode b_Md_isRight 113 = .ok (.goto 7, 3) := by decide +kernel
theorem d_Md_isRight_116 : decode b_Md_isRight 116 = .ok (.iload 5, 2) := by decide +kernel
theorem d_Md_isRight_118 : decode b_Md_isRight 118 = .ok (.iconst 1, 1) := by decide +kernel
theorem d_Md_isRight_119 : decode b_Md_isRight 119 = .ok (.iadd, 1) := by decide +kernel
theorem d_Md_isRight_120 : decode b_Md_isRight 120 = .ok (.istore 4, 2) := by decide +kernel
theorem d_Md_isRight_122 : decode b_Md_isRight 122 = .ok (.aload_n 0, 1) := by decide +kernel
theorem d_Md_isRight_123 : decode b_Md_isRight 123 = .ok (.iload 4, 2) := by decide +kernel
theorem d_Md_isRight_125 : decode b_Md_isRight 125 = .ok (.iconst 0, 1) := by decide +kernel
theorem d_Md_isRight_126 : decode b_Md_isRight 126 = .ok (.invokevirtual 131, 3) := by decide +kernel
theorem d_Md_isRight_129 : decode b_Md_isRight 129 = .ok (.istore 5, 2) := by decide +kernel
theorem d_Md_isRight_131 : decode b_Md_isRight 131 = .ok (.iload 5, 2) := by decide +kernel
theorem d_Md_isRight_133 : decode b_Md_isRight 133 = .ok (.iload 4, 2) := by decide +kernel
theorem d_Md_isRight_135 : decode b_Md_isRight 135 = .ok (.if_icmp .le 13, 3) := by decide +kernel
theorem d_Md_isRight_138 : decode b_Md_isRight 138 = .ok (.iload 5, 2) := by decide +kernel
theorem d_Md_isRight_140 : decode b_Md_isRight 140 = .ok (.iload_n 2, 1) := by decide +kernel
theorem d_Md_isRight_141 : decode b_Md_isRight 141 = .ok (.if_icmp .ne 7, 3) := by decide +kernel
theorem d_Md_isRight_144 : decode b_Md_isRight 144 = .ok (.iconst 1, 1) := by decide +kernel
theorem d_Md_isRight_145 : decode b_Md_isRight 145 = .ok (.goto 4, 3) := by decide +kernel
theorem d_Md_isRight_148 : decode b_Md_isRight 148 = .ok (.iconst 0, 1) := by decide +kernel
theorem d_Md_isRight_149 : decode b_Md_isRight 149 = .ok (.ireturn, 1) := by decide +kernel
theorem d_Md_numeral_0 : decode b_Md_numeral 0 = .ok (.aload_n 0, 1) := by decide +kernel
theorem d_Md_numeral_1 : decode b_Md_numeral 1 = .ok (.iload_n 1, 1) := by decide +kernel
theorem d_Md_numeral_2 : decode b_Md_numeral 2 = .ok (.invokevirtual 48, 3) := by decide +kernel
theorem d_Md_numeral_5 : decode b_Md_numeral 5 = .ok (.bipush 48, 2) := by decide +kernel
theorem d_Md_numeral_7 : decode b_Md_numeral 7 = .ok (.if_icmp .ne 31, 3) := by decide +kernel
theorem d_Md_numeral_10 : decode b_Md_numeral 10 = .ok (.aload_n 0, 1) := by decide +kernel
theorem d_Md_numeral_11 : decode b_Md_numeral 11 = .ok (.iload_n 1, 1) := by decide +kernel
theorem d_Md_numeral_12 : decode b_Md_numeral 12 = .ok (.iconst 1, 1) := by decide +kernel
theorem d_Md_numeral_13 : decode b_Md_numeral 13 = .ok (.iadd, 1) := by decide +kernel
theorem d_Md_numeral_14 : decode b_Md_numeral 14 = .ok (.invokevirtual 48, 3) := by decide +kernel
theorem d_Md_numeral_17 : decode b_Md_numeral 17 = .ok (.bipush 120, 2) := by decide +kernel
theorem d_Md_numeral_19 : decode b_Md_numeral 19 = .ok (.if_icmp .eq 15, 3) := by decide +kernel
theorem d_Md_numeral_22 : decode b_Md_numeral 22 = .ok (.aload_n 0, 1) := by decide +kernel
theorem d_Md_numeral_23 : decode b_Md_numeral 23 = .ok (.iload_n 1, 1) := by decide +kernel
theorem d_Md_numeral_24 : decode b_Md_numeral 24 = .ok (.iconst 1, 1) := by decide +kernel
theorem d_Md_numeral_25 : decode b_Md_numeral 25 = .ok (.iadd, 1) := by decide +kernel
theorem d_Md_numeral_26 : decode b_Md_numeral 26 = .ok (.invokevirtual 48, 3) := by decide +kernel
theorem d_Md_numeral_29 : decode b_Md_numeral 29 = .ok (.bipush 88, 2) := by decide +kernel
theorem d_Md_numeral_31 : decode b_Md_numeral 31 = .ok (.if_icmp .ne 7, 3) := by decide +kernel
theorem d_Md_numeral_34 : decode b_Md_numeral 34 = .ok (.iconst 1, 1) := by decide +kernel
theorem d_Md_numeral_35 : decode b_Md_numeral 35 = .ok (.goto 4, 3) := by decide +kernel
theorem d_Md_numeral_38 : decode b_Md_numeral 38 = .ok (.iconst 0, 1) := by decide +kernel
theorem d_Md_numeral_39 : decode b_Md_numeral 39 = .ok (.istore_n 2, 1) := by decide +kernel
theorem d_Md_numeral_40 : decode b_Md_numeral 40 = .ok (.iload_n 1, 1) := by decide +kernel
theorem d_Md_numeral_41 : decode b_Md_numeral 41 = .ok (.iconst 1, 1) := by decide +kernel
theorem d_Md_numeral_42 : decode b_Md_numeral 42 = .ok (.iadd, 1) := by decide +kernel
theorem d_Md_numeral_43 : decode b_Md_numeral 43 = .ok (.istore_n 3, 1) := by decide +kernel
theorem d_Md_numeral_44 : decode b_Md_numeral 44 = .ok (.iconst 1, 1) := by decide +kernel
theorem d_Md_numeral_45 : decode b_Md_numeral 45 = .ok (.istore 4, 2) := by decide +kernel
theorem d_Md_numeral_47 : decode b_Md_numeral 47 = .ok (.iload 4, 2) := by decide +kernel
theorem d_Md_numeral_49 : decode b_Md_numeral 49 = .ok (.ifCond .eq 78, 3) := by decide +kernel
theorem d_Md_numeral_52 : decode b_Md_numeral 52 = .ok (.aload_n 0, 1) := by decide +kernel
theorem d_Md_numeral_53 : decode b_Md_numeral 53 = .ok (.iload_n 3, 1) := by decide +kernel
theorem d_Md_numeral_54 : decode b_Md_numeral 54 = .ok (.invokevirtual 48, 3) := by decide +kernel
theorem d_Md_numeral_57 : decode b_Md_numeral 57 = .ok (.istore 5, 2) := by decide +kernel
theorem d_Md_numeral_59 : decode b_Md_numeral 59 = .ok (.iload 5, 2) := by decide +kernel
theorem d_Md_numeral_61 : decode b_Md_numeral 61 = .ok (.invokestatic 118, 3) := by decide +kernel
theorem d_Md_numeral_64 : decode b_Md_numeral 64 = .ok (.ifCond .ne 40, 3) := by decide +kernel
theorem d_Md_numeral_67 : decode b_Md_numeral 67 = .ok (.iload 5, 2) := by decide +kernel
theorem d_Md_numeral_69 : decode b_Md_numeral 69 = .ok (.invokestatic 44, 3) := by decide +kernel
theorem d_Md_numeral_72 : decode b_Md_numeral 72 = .ok (.ifCond .ne 32, 3) := by decide +kernel
theorem d_Md_numeral_75 : decode b_Md_numeral 75 = .ok (.iload 5, 2) := by decide +kernel
theorem d_Md_numeral_77 : decode b_Md_numeral 77 = .ok (.bipush 46, 2) := by decide +kernel
theorem d_Md_numeral_79 : decode b_Md_numeral 79 = .ok (.if_icmp .eq 25, 3) := by decide +kernel
theorem d_Md_numeral_82 : decode b_Md_numeral 82 = .ok (.iload 5, 2) := by decide +kernel
theorem d_Md_numeral_84 : decode b_Md_numeral 84 = .ok (.invokestatic 139, 3) := by decide +kernel
theorem d_Md_numeral_87 : decode b_Md_numeral 87 = .ok (.ifCond .eq 21, 3) := by decide +kernel
theorem d_Md_numeral_90 : decode b_Md_numeral 90 = .ok (.aload_n 0, 1) := by decide +kernel
theorem d_Md_numeral_91 : decode b_Md_numeral 91 = .ok (.iload_n 3, 1) := by decide +kernel
theorem d_Md_numeral_92 : decode b_Md_numeral 92 = .ok (.iconst 1, 1) := by decide +kernel
theorem d_Md_numeral_93 : decode b_Md_numeral 93 = .ok (.isub, 1) := by decide +kernel
theorem d_Md_numeral_94 : decode b_Md_numeral 94 = .ok (.invokevirtual 48, 3) := by decide +kernel
theorem d_Md_numeral_97 : decode b_Md_numeral 97 = .ok (.iload_n 2, 1) := by decide +kernel
theorem d_Md_numeral_98 : decode b_Md_numeral 98 = .ok (.invokestatic 135, 3) := by decide +kernel
theorem d_Md_numeral_101 : decode b_Md_numeral 101 = .ok (.ifCond .eq 7, 3) := by decide +kernel
theorem d_Md_numeral_104 : decode b_Md_numeral 104 = .ok (.iconst 1, 1) := by decide +kernel
theorem d_Md_numeral_105 : decode b_Md_numeral 105 = .ok (.goto 4, 3) := by decide +kernel
theorem d_Md_numeral_108 : decode b_Md_numeral 108 = .ok (.iconst 0, 1) := by decide +kernel
theorem d_Md_numeral_109 : decode b_Md_numeral 109 = .ok (.istore 4, 2) := by decide +kernel
theorem d_Md_numeral_111 : decode b_Md_numeral 111 = .ok (.iload_n 3, 1) := by decide +kernel
theorem d_Md_numeral_112 : decode b_Md_numeral 112 = .ok (.iload 4, 2) := by decide +kernel
theorem d_Md_numeral_114 : decode b_Md_numeral 114 = .ok (.ifCond .eq 7, 3) := by decide +kernel
theorem d_Md_numeral_117 : decode b_Md_numeral 117 = .ok (.iconst 1, 1) := by decide +kernel
theorem d_Md_numeral_118 : decode b_Md_numeral 118 = .ok (.goto 4, 3) := by decide +kernel
theorem d_Md_numeral_121 : decode b_Md_numeral 121 = .ok (.iconst 0, 1) := by decide +kernel
theorem d_Md_numeral_122 : decode b_Md_numeral 122 = .ok (.iadd, 1) := by decide +kernel
theorem d_Md_numeral_123 : decode b_Md_numeral 123 = .ok (.istore_n 3, 1) := by decide +kernel
theorem d_Md_numeral_124 : decode b_Md_numeral 124 = .ok (.goto (-77), 3) := by decide +kernel
theorem d_Md_numeral_127 : decode b_Md_numeral 127 = .ok (.aload_n 0, 1) := by decide +kernel
theorem d_Md_numeral_128 : decode b_Md_numeral 128 = .ok (.iload_n 1, 1) := by decide +kernel
theorem d_Md_numeral_129 : decode b_Md_numeral 129 = .ok (.iload_n 3, 1) := by decide +kernel
theorem d_Md_numeral_130 : decode b_Md_numeral 130 = .ok (.iload_n 2, 1) := by decide +kernel
theorem d_Md_numeral_131 : decode b_Md_numeral 131 = .ok (.invokevirtual 142, 3) := by decide +kernel
theorem d_Md_numeral_134 : decode b_Md_numeral 134 = .ok (.ifCond .eq 13, 3) := by decide +kernel
theorem d_Md_numeral_137 : decode b_Md_numeral 137 = .ok (.aload_n 0, 1) := by decide +kernel
theorem d_Md_numeral_138 : decode b_Md_numeral 138 = .ok (.iconst 2, 1) := by decide +kernel
theorem d_Md_numeral_139 : decode b_Md_numeral 139 = .ok (.iload_n 1, 1) := by decide +kernel
theorem d_Md_numeral_140 : decode b_Md_numeral 140 = .ok (.iload_n 3, 1) := by decide +kernel
theorem d_Md_numeral_141 : decode b_Md_numeral 141 = .ok (.invokevirtual 124, 3) := by decide +kernel
theorem d_Md_numeral_144 : decode b_Md_numeral 144 = .ok (.goto 9, 3) := by decide +kernel
theorem d_Md_numeral_147 : decode b_Md_numeral 147 = .ok (.aload_n 0, 1) := by decide +kernel
theorem d_Md_numeral_148 : decode b_Md_numeral 148 = .ok (.iconst 2, 1) := by decide +kernel
theorem d_Md_numeral_149 : decode b_Md_numeral 149 = .ok (.iload_n 1, 1) := by decide +kernel
theorem d_Md_numeral_150 : decode b_Md_numeral 150 = .ok (.invokevirtual 80, 3) := by decide +kernel
theorem d_Md_numeral_153 : decode b_Md_numeral 153 = .ok (.ireturn, 1) := by decide +kernel
theorem d_Md_spell_0 : decode b_Md_spell 0 = .ok (.iload_n 1, 1) := by decide +kernel
theorem d_Md_spell_1 : decode b_Md_spell 1 = .ok (.sipush 128, 3) := by decide +kernel
theorem d_Md_spell_4 : decode b_Md_spell 4 = .ok (.if_icmp .ge 11, 3) := by decide +kernel
theorem d_Md_spell_7 : decode b_Md_spell 7 = .ok (.aload_n 0, 1) := by decide +kernel
theorem d_Md_spell_8 : decode b_Md_spell 8 = .ok (.iload_n 1, 1) := by decide +kernel
theorem d_Md_spell_9 : decode b_Md_spell 9 = .ok (.invokevirtual 84, 3) := by decide +kernel
theorem d_Md_spell_12 : decode b_Md_spell 12 = .ok (.goto 152, 3) := by decide +kernel
theorem d_Md_spell_15 : decode b_Md_spell 15 = .ok (.iload_n 1, 1) := by decide +kernel
theorem d_Md_spell_16 : decode b_Md_spell 16 = .ok (.sipush 2048, 3) := by decide +kernel
theorem d_Md_spell_19 : decode b_Md_spell 19 = .ok (.if_icmp .ge 30, 3) := by decide +kernel
theorem d_Md_spell_22 : decode b_Md_spell 22 = .ok (.aload_n 0, 1) := by decide +kernel
theorem d_Md_spell_23 : decode b_Md_spell 23 = .ok (.sipush 192, 3) := by decide +kernel
theorem d_Md_spell_26 : decode b_Md_spell 26 = .ok (.iload_n 1, 1) := by decide +kernel
theorem d_Md_spell_27 : decode b_Md_spell 27 = .ok (.bipush 6, 2) := by decide +kernel
theorem d_Md_spell_29 : decode b_Md_spell 29 = .ok (.ishr, 1) := by decide +kernel
theorem d_Md_spell_30 : decode b_Md_spell 30 = .ok (.ior, 1) := by decide +kernel
theorem d_Md_spell_31 : decode b_Md_spell 31 = .ok (.invokevirtual 84, 3) := by decide +kernel
theorem d_Md_spell_34 : decode b_Md_spell 34 = .ok (.aload_n 0, 1) := by decide +kernel
theorem d_Md_spell_35 : decode b_Md_spell 35 = .ok (.sipush 128, 3) := by decide +kernel
theorem d_Md_spell_38 : decode b_Md_spell 38 = .ok (.iload_n 1, 1) := by decide +kernel
theorem d_Md_spell_39 : decode b_Md_spell 39 = .ok (.bipush 63, 2) := by decide +kernel
theorem d_Md_spell_41 : decode b_Md_spell 41 = .ok (.iand, 1) := by decide +kernel
theorem d_Md_spell_42 : decode b_Md_spell 42 = .ok (.ior, 1) := by decide +kernel
theorem d_Md_spell_43 : decode b_Md_spell 43 = .ok (.invokevirtual 84, 3) := by decide +kernel
theorem d_Md_spell_46 : decode b_Md_spell 46 = .ok (.goto 118, 3) := by decide +kernel
theorem d_Md_spell_49 : decode b_Md_spell 49 = .ok (.iload_n 1, 1) := by decide +kernel
theorem d_Md_spell_50 : decode b_Md_spell 50 = .ok (.ldc 7, 2) := by decide +kernel
theorem d_Md_spell_52 : decode b_Md_spell 52 = .ok (.if_icmp .ge 7, 3) := by decide +kernel
theorem d_Md_spell_55 : decode b_Md_spell 55 = .ok (.iconst 2, 1) := by decide +kernel
theorem d_Md_spell_56 : decode b_Md_spell 56 = .ok (.goto 24, 3) := by decide +kernel
theorem d_Md_spell_59 : decode b_Md_spell 59 = .ok (.iload_n 1, 1) := by decide +kernel
theorem d_Md_spell_60 : decode b_Md_spell 60 = .ok (.ldc 146, 2) := by decide +kernel
theorem d_Md_spell_62 : decode b_Md_spell 62 = .ok (.if_icmp .ge 7, 3) := by decide +kernel
theorem d_Md_spell_65 : decode b_Md_spell 65 = .ok (.iconst 3, 1) := by decide +kernel
theorem d_Md_spell_66 : decode b_Md_spell 66 = .ok (.goto 14, 3) := by decide +kernel
theorem d_Md_spell_69 : decode b_Md_spell 69 = .ok (.iload_n 1, 1) := by decide +kernel
theorem d_Md_spell_70 : decode b_Md_spell 70 = .ok (.ldc 147, 2) := by decide +kernel
theorem d_Md_spell_72 : decode b_Md_spell 72 = .ok (.if_icmp .ge 7, 3) := by decide +kernel
theorem d_Md_spell_75 : decode b_Md_spell 75 = .ok (.iconst 4, 1) := by decide +kernel
theorem d_Md_spell_76 : decode b_Md_spell 76 = .ok (.goto 4, 3) := by decide +kernel
theorem d_Md_spell_79 : decode b_Md_spell 79 = .ok (.iconst 5, 1) := by decide +kernel
theorem d_Md_spell_80 : decode b_Md_spell 80 = .ok (.istore_n 2, 1) := by decide +kernel
theorem d_Md_spell_81 : decode b_Md_spell 81 = .ok (.iload_n 2, 1) := by decide +kernel
theorem d_Md_spell_82 : decode b_Md_spell 82 = .ok (.iconst 2, 1) := by decide +kernel
theorem d_Md_spell_83 : decode b_Md_spell 83 = .ok (.if_icmp .ne 9, 3) := by decide +kernel
theorem d_Md_spell_86 : decode b_Md_spell 86 = .ok (.sipush 224, 3) := by decide +kernel
theorem d_Md_spell_89 : decode b_Md_spell 89 = .ok (.goto 28, 3) := by decide +kernel
theorem d_Md_spell_92 : decode b_Md_spell 92 = .ok (.iload_n 2, 1) := by decide +kernel
theorem d_Md_spell_93 : decode b_Md_spell 93 = .ok (.iconst 3, 1) := by decide +kernel
theorem d_Md_spell_94 : decode b_Md_spell 94 = .ok (.if_icmp .ne 9, 3) := by decide +kernel
theorem d_Md_spell_97 : decode b_Md_spell 97 = .ok (.sipush 240, 3) := by decide +kernel
theorem d_Md_spell_100 : decode b_Md_spell 100 = .ok (.goto 17, 3) := by decide +kernel
theorem d_Md_spell_103 : decode b_Md_spell 103 = .ok (.iload_n 2, 1) := by decide +kernel
theorem d_Md_spell_104 : decode b_Md_spell 104 = .ok (.iconst 4, 1) := by decide +kernel
theorem d_Md_spell_105 : decode b_Md_spell 105 = .ok (.if_icmp .ne 9, 3) := by decide +kernel
theorem d_Md_spell_108 : decode b_Md_spell 108 = .ok (.sipush 248, 3) := by decide +kernel
theorem d_Md_spell_111 : decode b_Md_spell 111 = .ok (.goto 6, 3) := by decide +kernel
theorem d_Md_spell_114 : decode b_Md_spell 114 = .ok (.sipush 252, 3) := by decide +kernel
theorem d_Md_spell_117 : decode b_Md_spell 117 = .ok (.istore_n 3, 1) := by decide +kernel
theorem d_Md_spell_118 : decode b_Md_spell 118 = .ok (.aload_n 0, 1) := by decide +kernel
theorem d_Md_spell_119 : decode b_Md_spell 119 = .ok (.iload_n 3, 1) := by decide +kernel
theorem d_Md_spell_120 : decode b_Md_spell 120 = .ok (.iload_n 1, 1) := by decide +kernel
theorem d_Md_spell_121 : decode b_Md_spell 121 = .ok (.bipush 6, 2) := by decide +kernel
theorem d_Md_spell_123 : decode b_Md_spell 123 = .ok (.iload_n 2, 1) := by decide +kernel
theorem d_Md_spell_124 : decode b_Md_spell 124 = .ok (.imul, 1) := by decide +kernel
theorem d_Md_spell_125 : decode b_Md_spell 125 = .ok (.ishr, 1) := by decide +kernel
theorem d_Md_spell_126 : decode b_Md_spell 126 = .ok (.ior, 1) := by decide +kernel
theorem d_Md_spell_127 : decode b_Md_spell 127 = .ok (.invokevirtual 84, 3) := by decide +kernel
theorem d_Md_spell_130 : decode b_Md_spell 130 = .ok (.iload_n 2, 1) := by decide +kernel
theorem d_Md_spell_131 : decode b_Md_spell 131 = .ok (.iconst 1, 1) := by decide +kernel
theorem d_Md_spell_132 : decode b_Md_spell 132 = .ok (.isub, 1) := by decide +kernel
theorem d_Md_spell_133 : decode b_Md_spell 133 = .ok (.istore 4, 2) := by decide +kernel
theorem d_Md_spell_135 : decode b_Md_spell 135 = .ok (.iload 4, 2) := by decide +kernel
theorem d_Md_spell_137 : decode b_Md_spell 137 = .ok (.ifCond .lt 27, 3) := by decide +kernel
theorem d_Md_spell_140 : decode b_Md_spell 140 = .ok (.aload_n 0, 1) := by decide +kernel
theorem d_Md_spell_141 : decode b_Md_spell 141 = .ok (.sipush 128, 3) := by decide +kernel
theorem d_Md_spell_144 : decode b_Md_spell 144 = .ok (.iload_n 1, 1) := by decide +kernel
theorem d_Md_spell_145 : decode b_Md_spell 145 = .ok (.bipush 6, 2) := by decide +kernel
theorem d_Md_spell_147 : decode b_Md_spell 147 = .ok (.iload 4, 2) := by decide +kernel
theorem d_Md_spell_149 : decode b_Md_spell 149 = .ok (.imul, 1) := by decide +kernel
theorem d_Md_spell_150 : decode b_Md_spell 150 = .ok (.ishr, 1) := by decide +kernel
theorem d_Md_spell_151 : decode b_Md_spell 151 = .ok (.bipush 63, 2) := by decide +kernel
theorem d_Md_spell_153 : decode b_Md_spell 153 = .ok (.iand, 1) := by decide +kernel
theorem d_Md_spell_154 : decode b_Md_spell 154 = .ok (.ior, 1) := by decide +kernel
theorem d_Md_spell_155 : decode b_Md_spell 155 = .ok (.invokevirtual 84, 3) := by decide +kernel
theorem d_Md_spell_158 : decode b_Md_spell 158 = .ok (.iinc 4 (-1), 3) := by decide +kernel
theorem d_Md_spell_161 : decode b_Md_spell 161 = .ok (.goto (-26), 3) := by decide +kernel
theorem d_Md_spell_164 : decode b_Md_spell 164 = .ok (.return_, 1) := by decide +kernel
theorem d_Md_plainEscape_0 : decode b_Md_plainEscape 0 = .ok (.iload_n 0, 1) := by decide +kernel
theorem d_Md_plainEscape_1 : decode b_Md_plainEscape 1 = .ok (.lookupswitch 114 #[(34, 112), (39, 112), (92, 112), (97, 91), (98, 94), (102, 97), (110, 100), (114, 103), (116, 106), (118, 109)], 91) := by decide +kernel
theorem d_Md_plainEscape_92 : decode b_Md_plainEscape 92 = .ok (.bipush 7, 2) := by decide +kernel
theorem d_Md_plainEscape_94 : decode b_Md_plainEscape 94 = .ok (.ireturn, 1) := by decide +kernel
theorem d_Md_plainEscape_95 : decode b_Md_plainEscape 95 = .ok (.bipush 8, 2) := by decide +kernel
theorem d_Md_plainEscape_97 : decode b_Md_plainEscape 97 = .ok (.ireturn, 1) := by decide +kernel
theorem d_Md_plainEscape_98 : decode b_Md_plainEscape 98 = .ok (.bipush 12, 2) := by decide +kernel
theorem d_Md_plainEscape_100 : decode b_Md_plainEscape 100 = .ok (.ireturn, 1) := by decide +kernel
theorem d_Md_plainEscape_101 : decode b_Md_plainEscape 101 = .ok (.bipush 10, 2) := by decide +kernel
theorem d_Md_plainEscape_103 : decode b_Md_plainEscape 103 = .ok (.ireturn, 1) := by decide +kernel
theorem d_Md_plainEscape_104 : decode b_Md_plainEscape 104 = .ok (.bipush 13, 2) := by decide +kernel
theorem d_Md_plainEscape_106 : decode b_Md_plainEscape 106 = .ok (.ireturn, 1) := by decide +kernel
theorem d_Md_plainEscape_107 : decode b_Md_plainEscape 107 = .ok (.bipush 9, 2) := by decide +kernel
theorem d_Md_plainEscape_109 : decode b_Md_plainEscape 109 = .ok (.ireturn, 1) := by decide +kernel
theorem d_Md_plainEscape_110 : decode b_Md_plainEscape 110 = .ok (.bipush 11, 2) := by decide +kernel
theorem d_Md_plainEscape_112 : decode b_Md_plainEscape 112 = .ok (.ireturn, 1) := by decide +kernel
theorem d_Md_plainEscape_113 : decode b_Md_plainEscape 113 = .ok (.iload_n 0, 1) := by decide +kernel
theorem d_Md_plainEscape_114 : decode b_Md_plainEscape 114 = .ok (.ireturn, 1) := by decide +kernel
theorem d_Md_plainEscape_115 : decode b_Md_plainEscape 115 = .ok (.iconst (-1), 1) := by decide +kernel
theorem d_Md_plainEscape_116 : decode b_Md_plainEscape 116 = .ok (.ireturn, 1) := by decide +kernel
theorem d_Md_failEscape_0 : decode b_Md_failEscape 0 = .ok (.aload_n 0, 1) := by decide +kernel
theorem d_Md_failEscape_1 : decode b_Md_failEscape 1 = .ok (.iload_n 1, 1) := by decide +kernel
theorem d_Md_failEscape_2 : decode b_Md_failEscape 2 = .ok (.invokevirtual 48, 3) := by decide +kernel
theorem d_Md_failEscape_5 : decode b_Md_failEscape 5 = .ok (.iconst (-1), 1) := by decide +kernel
theorem d_Md_failEscape_6 : decode b_Md_failEscape 6 = .ok (.if_icmp .ne 12, 3) := by decide +kernel
theorem d_Md_failEscape_9 : decode b_Md_failEscape 9 = .ok (.aload_n 0, 1) := by decide +kernel
theorem d_Md_failEscape_10 : decode b_Md_failEscape 10 = .ok (.iconst 4, 1) := by decide +kernel
theorem d_Md_failEscape_11 : decode b_Md_failEscape 11 = .ok (.iload_n 1, 1) := by decide +kernel
theorem d_Md_failEscape_12 : decode b_Md_failEscape 12 = .ok (.invokevirtual 80, 3) := by decide +kernel
theorem d_Md_failEscape_15 : decode b_Md_failEscape 15 = .ok (.goto 9, 3) := by decide +kernel
theorem d_Md_failEscape_18 : decode b_Md_failEscape 18 = .ok (.aload_n 0, 1) := by decide +kernel
theorem d_Md_failEscape_19 : decode b_Md_failEscape 19 = .ok (.iconst 3, 1) := by decide +kernel
theorem d_Md_failEscape_20 : decode b_Md_failEscape 20 = .ok (.iload_n 1, 1) := by decide +kernel
theorem d_Md_failEscape_21 : decode b_Md_failEscape 21 = .ok (.invokevirtual 80, 3) := by decide +kernel
theorem d_Md_failEscape_24 : decode b_Md_failEscape 24 = .ok (.ireturn, 1) := by decide +kernel
theorem d_Md_escapeDigits_0 : decode b_Md_escapeDigits 0 = .ok (.iconst 0, 1) := by decide +kernel
theorem d_Md_escapeDigits_1 : decode b_Md_escapeDigits 1 = .ok (.istore_n 2, 1) := by decide +kernel
theorem d_Md_escapeDigits_2 : decode b_Md_escapeDigits 2 = .ok (.iload_n 1, 1) := by decide +kernel
theorem d_Md_escapeDigits_3 : decode b_Md_escapeDigits 3 = .ok (.istore_n 3, 1) := by decide +kernel
theorem d_Md_escapeDigits_4 : decode b_Md_escapeDigits 4 = .ok (.iload_n 3, 1) := by decide +kernel
theorem d_Md_escapeDigits_5 : decode b_Md_escapeDigits 5 = .ok (.iload_n 1, 1) := by decide +kernel
theorem d_Md_escapeDigits_6 : decode b_Md_escapeDigits 6 = .ok (.iconst 3, 1) := by decide +kernel
theorem d_Md_escapeDigits_7 : decode b_Md_escapeDigits 7 = .ok (.iadd, 1) := by decide +kernel
theorem d_Md_escapeDigits_8 : decode b_Md_escapeDigits 8 = .ok (.if_icmp .ge 34, 3) := by decide +kernel
theorem d_Md_escapeDigits_11 : decode b_Md_escapeDigits 11 = .ok (.aload_n 0, 1) := by decide +kernel
theorem d_Md_escapeDigits_12 : decode b_Md_escapeDigits 12 = .ok (.iload_n 3, 1) := by decide +kernel
theorem d_Md_escapeDigits_13 : decode b_Md_escapeDigits 13 = .ok (.invokevirtual 48, 3) := by decide +kernel
theorem d_Md_escapeDigits_16 : decode b_Md_escapeDigits 16 = .ok (.invokestatic 44, 3) := by decide +kernel
theorem d_Md_escapeDigits_19 : decode b_Md_escapeDigits 19 = .ok (.ifCond .eq 23, 3) := by decide +kernel
theorem d_Md_escapeDigits_22 : decode b_Md_escapeDigits 22 = .ok (.bipush 10, 2) := by decide +kernel
theorem d_Md_escapeDigits_24 : decode b_Md_escapeDigits 24 = .ok (.iload_n 2, 1) := by decide +kernel
theorem d_Md_escapeDigits_25 : decode b_Md_escapeDigits 25 = .ok (.imul, 1) := by decide +kernel
theorem d_Md_escapeDigits_26 : decode b_Md_escapeDigits 26 = .ok (.aload_n 0, 1) := by decide +kernel
theorem d_Md_escapeDigits_27 : decode b_Md_escapeDigits 27 = .ok (.iload_n 3, 1) := by decide +kernel
theorem d_Md_escapeDigits_28 : decode b_Md_escapeDigits 28 = .ok (.invokevirtual 48, 3) := by decide +kernel
theorem d_Md_escapeDigits_31 : decode b_Md_escapeDigits 31 = .ok (.iadd, 1) := by decide +kernel
theorem d_Md_escapeDigits_32 : decode b_Md_escapeDigits 32 = .ok (.bipush 48, 2) := by decide +kernel
theorem d_Md_escapeDigits_34 : decode b_Md_escapeDigits 34 = .ok (.isub, 1) := by decide +kernel
theorem d_Md_escapeDigits_35 : decode b_Md_escapeDigits 35 = .ok (.istore_n 2, 1) := by decide +kernel
theorem d_Md_escapeDigits_36 : decode b_Md_escapeDigits 36 = .ok (.iinc 3 1, 3) := by decide +kernel
theorem d_Md_escapeDigits_39 : decode b_Md_escapeDigits 39 = .ok (.goto (-35), 3) := by decide +kernel
theorem d_Md_escapeDigits_42 : decode b_Md_escapeDigits 42 = .ok (.iload_n 3, 1) := by decide +kernel
theorem d_Md_escapeDigits_43 : decode b_Md_escapeDigits 43 = .ok (.iload_n 1, 1) := by decide +kernel
theorem d_Md_escapeDigits_44 : decode b_Md_escapeDigits 44 = .ok (.if_icmp .eq 10, 3) := by decide +kernel
theorem d_Md_escapeDigits_47 : decode b_Md_escapeDigits 47 = .ok (.iload_n 2, 1) := by decide +kernel
theorem d_Md_escapeDigits_48 : decode b_Md_escapeDigits 48 = .ok (.sipush 255, 3) := by decide +kernel
theorem d_Md_escapeDigits_51 : decode b_Md_escapeDigits 51 = .ok (.if_icmp .le 9, 3) := by decide +kernel
theorem d_Md_escapeDigits_54 : decode b_Md_escapeDigits 54 = .ok (.aload_n 0, 1) := by decide +kernel
theorem d_Md_escapeDigits_55 : decode b_Md_escapeDigits 55 = .ok (.iload_n 1, 1) := by decide +kernel
theorem d_Md_escapeDigits_56 : decode b_Md_escapeDigits 56 = .ok (.invokevirtual 148, 3) := by decide +kernel
theorem d_Md_escapeDigits_59 : decode b_Md_escapeDigits 59 = .ok (.ireturn, 1) := by decide +kernel
theorem d_Md_escapeDigits_60 : decode b_Md_escapeDigits 60 = .ok (.aload_n 0, 1) := by decide +kernel
theorem d_Md_escapeDigits_61 : decode b_Md_escapeDigits 61 = .ok (.iload_n 2, 1) := by decide +kernel
theorem d_Md_escapeDigits_62 : decode b_Md_escapeDigits 62 = .ok (.invokevirtual 84, 3) := by decide +kernel
theorem d_Md_escapeDigits_65 : decode b_Md_escapeDigits 65 = .ok (.iload_n 3, 1) := by decide +kernel
theorem d_Md_escapeDigits_66 : decode b_Md_escapeDigits 66 = .ok (.ireturn, 1) := by decide +kernel
theorem d_Md_escapeSixteen_0 : decode b_Md_escapeSixteen 0 = .ok (.aload_n 0, 1) := by decide +kernel
theorem d_Md_escapeSixteen_1 : decode b_Md_escapeSixteen 1 = .ok (.iload_n 1, 1) := by decide +kernel
theorem d_Md_escapeSixteen_2 : decode b_Md_escapeSixteen 2 = .ok (.invokevirtual 48, 3) := by decide +kernel
theorem d_Md_escapeSixteen_5 : decode b_Md_escapeSixteen 5 = .ok (.invokestatic 128, 3) := by decide +kernel
theorem d_Md_escapeSixteen_8 : decode b_Md_escapeSixteen 8 = .ok (.istore_n 2, 1) := by decide +kernel
theorem d_Md_escapeSixteen_9 : decode b_Md_escapeSixteen 9 = .ok (.iload_n 2, 1) := by decide +kernel
theorem d_Md_escapeSixteen_10 : decode b_Md_escapeSixteen 10 = .ok (.ifCond .ge 9, 3) := by decide +kernel
theorem d_Md_escapeSixteen_13 : decode b_Md_escapeSixteen 13 = .ok (.aload_n 0, 1) := by decide +kernel
theorem d_Md_escapeSixteen_14 : decode b_Md_escapeSixteen 14 = .ok (.iload_n 1, 1) := by decide +kernel
theorem d_Md_escapeSixteen_15 : decode b_Md_escapeSixteen 15 = .ok (.invokevirtual 148, 3) := by decide +kernel
theorem d_Md_escapeSixteen_18 : decode b_Md_escapeSixteen 18 = .ok (.ireturn, 1) := by decide +kernel
theorem d_Md_escapeSixteen_19 : decode b_Md_escapeSixteen 19 = .ok (.aload_n 0, 1) := by decide +kernel
theorem d_Md_escapeSixteen_20 : decode b_Md_escapeSixteen 20 = .ok (.iload_n 1, 1) := by decide +kernel
theorem d_Md_escapeSixteen_21 : decode b_Md_escapeSixteen 21 = .ok (.iconst 1, 1) := by decide +kernel
theorem d_Md_escapeSixteen_22 : decode b_Md_escapeSixteen 22 = .ok (.iadd, 1) := by decide +kernel
theorem d_Md_escapeSixteen_23 : decode b_Md_escapeSixteen 23 = .ok (.invokevirtual 48, 3) := by decide +kernel
theorem d_Md_escapeSixteen_26 : decode b_Md_escapeSixteen 26 = .ok (.invokestatic 128, 3) := by decide +kernel
theorem d_Md_escapeSixteen_29 : decode b_Md_escapeSixteen 29 = .ok (.istore_n 3, 1) := by decide +kernel
theorem d_Md_escapeSixteen_30 : decode b_Md_escapeSixteen 30 = .ok (.iload_n 3, 1) := by decide +kernel
theorem d_Md_escapeSixteen_31 : decode b_Md_escapeSixteen 31 = .ok (.ifCond .ge 11, 3) := by decide +kernel
theorem d_Md_escapeSixteen_34 : decode b_Md_escapeSixteen 34 = .ok (.aload_n 0, 1) := by decide +kernel
theorem d_Md_escapeSixteen_35 : decode b_Md_escapeSixteen 35 = .ok (.iload_n 1, 1) := by decide +kernel
theorem d_Md_escapeSixteen_36 : decode b_Md_escapeSixteen 36 = .ok (.iconst 1, 1) := by decide +kernel
theorem d_Md_escapeSixteen_37 : decode b_Md_escapeSixteen 37 = .ok (.iadd, 1) := by decide +kernel
theorem d_Md_escapeSixteen_38 : decode b_Md_escapeSixteen 38 = .ok (.invokevirtual 148, 3) := by decide +kernel
theorem d_Md_escapeSixteen_41 : decode b_Md_escapeSixteen 41 = .ok (.ireturn, 1) := by decide +kernel
theorem d_Md_escapeSixteen_42 : decode b_Md_escapeSixteen 42 = .ok (.aload_n 0, 1) := by decide +kernel
theorem d_Md_escapeSixteen_43 : decode b_Md_escapeSixteen 43 = .ok (.bipush 16, 2) := by decide +kernel
theorem d_Md_escapeSixteen_45 : decode b_Md_escapeSixteen 45 = .ok (.iload_n 2, 1) := by decide +kernel
theorem d_Md_escapeSixteen_46 : decode b_Md_escapeSixteen 46 = .ok (.imul, 1) := by decide +kernel
theorem d_Md_escapeSixteen_47 : decode b_Md_escapeSixteen 47 = .ok (.iload_n 3, 1) := by decide +kernel
theorem d_Md_escapeSixteen_48 : decode b_Md_escapeSixteen 48 = .ok (.iadd, 1) := by decide +kernel
theorem d_Md_escapeSixteen_49 : decode b_Md_escapeSixteen 49 = .ok (.invokevirtual 84, 3) := by decide +kernel
theorem d_Md_escapeSixteen_52 : decode b_Md_escapeSixteen 52 = .ok (.iload_n 1, 1) := by decide +kernel
theorem d_Md_escapeSixteen_53 : decode b_Md_escapeSixteen 53 = .ok (.iconst 2, 1) := by decide +kernel
theorem d_Md_escapeSixteen_54 : decode b_Md_escapeSixteen 54 = .ok (.iadd, 1) := by decide +kernel
theorem d_Md_escapeSixteen_55 : decode b_Md_escapeSixteen 55 = .ok (.ireturn, 1) := by decide +kernel
theorem d_Md_escapeLong_0 : decode b_Md_escapeLong 0 = .ok (.aload_n 0, 1) := by decide +kernel
theorem d_Md_escapeLong_1 : decode b_Md_escapeLong 1 = .ok (.iload_n 1, 1) := by decide +kernel
theorem d_Md_escapeLong_2 : decode b_Md_escapeLong 2 = .ok (.invokevirtual 48, 3) := by decide +kernel
theorem d_Md_escapeLong_5 : decode b_Md_escapeLong 5 = .ok (.bipush 123, 2) := by decide +kernel
theorem d_Md_escapeLong_7 : decode b_Md_escapeLong 7 = .ok (.if_icmp .eq 9, 3) := by decide +kernel
theorem d_Md_escapeLong_10 : decode b_Md_escapeLong 10 = .ok (.aload_n 0, 1) := by decide +kernel
theorem d_Md_escapeLong_11 : decode b_Md_escapeLong 11 = .ok (.iload_n 1, 1) := by decide +kernel
theorem d_Md_escapeLong_12 : decode b_Md_escapeLong 12 = .ok (.invokevirtual 148, 3) := by decide +kernel
theorem d_Md_escapeLong_15 : decode b_Md_escapeLong 15 = .ok (.ireturn, 1) := by decide +kernel
theorem d_Md_escapeLong_16 : decode b_Md_escapeLong 16 = .ok (.iload_n 1, 1) := by decide +kernel
theorem d_Md_escapeLong_17 : decode b_Md_escapeLong 17 = .ok (.iconst 1, 1) := by decide +kernel
theorem d_Md_escapeLong_18 : decode b_Md_escapeLong 18 = .ok (.iadd, 1) := by decide +kernel
theorem d_Md_escapeLong_19 : decode b_Md_escapeLong 19 = .ok (.istore_n 2, 1) := by decide +kernel
theorem d_Md_escapeLong_20 : decode b_Md_escapeLong 20 = .ok (.lconst 0, 1) := by decide +kernel
theorem d_Md_escapeLong_21 : decode b_Md_escapeLong 21 = .ok (.lstore_n 3, 1) := by decide +kernel
theorem d_Md_escapeLong_22 : decode b_Md_escapeLong 22 = .ok (.aload_n 0, 1) := by decide +kernel
theorem d_Md_escapeLong_23 : decode b_Md_escapeLong 23 = .ok (.iload_n 2, 1) := by decide +kernel
theorem d_Md_escapeLong_24 : decode b_Md_escapeLong 24 = .ok (.invokevirtual 48, 3) := by decide +kernel
theorem d_Md_escapeLong_27 : decode b_Md_escapeLong 27 = .ok (.invokestatic 128, 3) := by decide +kernel
theorem d_Md_escapeLong_30 : decode b_Md_escapeLong 30 = .ok (.ifCond .lt 40, 3) := by decide +kernel
theorem d_Md_escapeLong_33 : decode b_Md_escapeLong 33 = .ok (.ldc2_w 151, 3) := by decide +kernel
theorem d_Md_escapeLong_36 : decode b_Md_escapeLong 36 = .ok (.lload_n 3, 1) := by decide +kernel
theorem d_Md_escapeLong_37 : decode b_Md_escapeLong 37 = .ok (.lmul, 1) := by decide +kernel
theorem d_Md_escapeLong_38 : decode b_Md_escapeLong 38 = .ok (.aload_n 0, 1) := by decide +kernel
theorem d_Md_escapeLong_39 : decode b_Md_escapeLong 39 = .ok (.iload_n 2, 1) := by decide +kernel
theorem d_Md_escapeLong_40 : decode b_Md_escapeLong 40 = .ok (.invokevirtual 48, 3) := by decide +kernel
theorem d_Md_escapeLong_43 : decode b_Md_escapeLong 43 = .ok (.invokestatic 128, 3) := by decide +kernel
theorem d_Md_escapeLong_46 : decode b_Md_escapeLong 46 = .ok (.i2l, 1) := by decide +kernel
theorem d_Md_escapeLong_47 : decode b_Md_escapeLong 47 = .ok (.ladd, 1) := by decide +kernel
theorem d_Md_escapeLong_48 : decode b_Md_escapeLong 48 = .ok (.lstore_n 3, 1) := by decide +kernel
theorem d_Md_escapeLong_49 : decode b_Md_escapeLong 49 = .ok (.lload_n 3, 1) := by decide +kernel
theorem d_Md_escapeLong_50 : decode b_Md_escapeLong 50 = .ok (.ldc2_w 153, 3) := by decide +kernel
theorem d_Md_escapeLong_53 : decode b_Md_escapeLong 53 = .ok (.lcmp, 1) := by decide +kernel
theorem d_Md_escapeLong_54 : decode b_Md_escapeLong 54 = .ok (.ifCond .le 10, 3) := by decide +kernel
theorem d_Md_escapeLong_57 : decode b_Md_escapeLong 57 = .ok (.aload_n 0, 1) := by decide +kernel
theorem d_Md_escapeLong_58 : decode b_Md_escapeLong 58 = .ok (.iconst 3, 1) := by decide +kernel
theorem d_Md_escapeLong_59 : decode b_Md_escapeLong 59 = .ok (.iload_n 2, 1) := by decide +kernel
theorem d_Md_escapeLong_60 : decode b_Md_escapeLong 60 = .ok (.invokevirtual 80, 3) := by decide +kernel
theorem d_Md_escapeLong_63 : decode b_Md_escapeLong 63 = .ok (.ireturn, 1) := by decide +kernel
theorem d_Md_escapeLong_64 : decode b_Md_escapeLong 64 = .ok (.iinc 2 1, 3) := by decide +kernel
theorem d_Md_escapeLong_67 : decode b_Md_escapeLong 67 = .ok (.goto (-45), 3) := by decide +kernel
theorem d_Md_escapeLong_70 : decode b_Md_escapeLong 70 = .ok (.iload_n 2, 1) := by decide +kernel
theorem d_Md_escapeLong_71 : decode b_Md_escapeLong 71 = .ok (.iload_n 1, 1) := by decide +kernel
theorem d_Md_escapeLong_72 : decode b_Md_escapeLong 72 = .ok (.iconst 1, 1) := by decide +kernel
theorem d_Md_escapeLong_73 : decode b_Md_escapeLong 73 = .ok (.iadd, 1) := by decide +kernel
theorem d_Md_escapeLong_74 : decode b_Md_escapeLong 74 = .ok (.if_icmp .eq 13, 3) := by decide +kernel
theorem d_Md_escapeLong_77 : decode b_Md_escapeLong 77 = .ok (.aload_n 0, 1) := by decide +kernel
theorem d_Md_escapeLong_78 : decode b_Md_escapeLong 78 = .ok (.iload_n 2, 1) := by decide +kernel
theorem d_Md_escapeLong_79 : decode b_Md_escapeLong 79 = .ok (.invokevirtual 48, 3) := by decide +kernel
theorem d_Md_escapeLong_82 : decode b_Md_escapeLong 82 = .ok (.bipush 125, 2) := by decide +kernel
theorem d_Md_escapeLong_84 : decode b_Md_escapeLong 84 = .ok (.if_icmp .eq 9, 3) := by decide +kernel
theorem d_Md_escapeLong_87 : decode b_Md_escapeLong 87 = .ok (.aload_n 0, 1) := by decide +kernel
theorem d_Md_escapeLong_88 : decode b_Md_escapeLong 88 = .ok (.iload_n 2, 1) := by decide +kernel
theorem d_Md_escapeLong_89 : decode b_Md_escapeLong 89 = .ok (.invokevirtual 148, 3) := by decide +kernel
theorem d_Md_escapeLong_92 : decode b_Md_escapeLong 92 = .ok (.ireturn, 1) := by decide +kernel
theorem d_Md_escapeLong_93 : decode b_Md_escapeLong 93 = .ok (.aload_n 0, 1) := by decide +kernel
theorem d_Md_escapeLong_94 : decode b_Md_escapeLong 94 = .ok (.lload_n 3, 1) := by decide +kernel
theorem d_Md_escapeLong_95 : decode b_Md_escapeLong 95 = .ok (.l2i, 1) := by decide +kernel
theorem d_Md_escapeLong_96 : decode b_Md_escapeLong 96 = .ok (.invokevirtual 155, 3) := by decide +kernel
theorem d_Md_escapeLong_99 : decode b_Md_escapeLong 99 = .ok (.iload_n 2, 1) := by decide +kernel
theorem d_Md_escapeLong_100 : decode b_Md_escapeLong 100 = .ok (.iconst 1, 1) := by decide +kernel
theorem d_Md_escapeLong_101 : decode b_Md_escapeLong 101 = .ok (.iadd, 1) := by decide +kernel
theorem d_Md_escapeLong_102 : decode b_Md_escapeLong 102 = .ok (.ireturn, 1) := by decide +kernel
theorem d_Md_escape_0 : decode b_Md_escape 0 = .ok (.aload_n 0, 1) := by decide +kernel
theorem d_Md_escape_1 : decode b_Md_escape 1 = .ok (.iload_n 1, 1) := by decide +kernel
theorem d_Md_escape_2 : decode b_Md_escape 2 = .ok (.iconst 1, 1) := by decide +kernel
theorem d_Md_escape_3 : decode b_Md_escape 3 = .ok (.iadd, 1) := by decide +kernel
theorem d_Md_escape_4 : decode b_Md_escape 4 = .ok (.invokevirtual 48, 3) := by decide +kernel
theorem d_Md_escape_7 : decode b_Md_escape 7 = .ok (.istore_n 2, 1) := by decide +kernel
theorem d_Md_escape_8 : decode b_Md_escape 8 = .ok (.iload_n 2, 1) := by decide +kernel
theorem d_Md_escape_9 : decode b_Md_escape 9 = .ok (.invokestatic 158, 3) := by decide +kernel
theorem d_Md_escape_12 : decode b_Md_escape 12 = .ok (.istore_n 3, 1) := by decide +kernel
theorem d_Md_escape_13 : decode b_Md_escape 13 = .ok (.iload_n 3, 1) := by decide +kernel
theorem d_Md_escape_14 : decode b_Md_escape 14 = .ok (.ifCond .lt 12, 3) := by decide +kernel
theorem d_Md_escape_17 : decode b_Md_escape 17 = .ok (.aload_n 0, 1) := by decide +kernel
theorem d_Md_escape_18 : decode b_Md_escape 18 = .ok (.iload_n 3, 1) := by decide +kernel
theorem d_Md_escape_19 : decode b_Md_escape 19 = .ok (.invokevirtual 84, 3) := by decide +kernel
theorem d_Md_escape_22 : decode b_Md_escape 22 = .ok (.iload_n 1, 1) := by decide +kernel
theorem d_Md_escape_23 : decode b_Md_escape 23 = .ok (.iconst 2, 1) := by decide +kernel
theorem d_Md_escape_24 : decode b_Md_escape 24 = .ok (.iadd, 1) := by decide +kernel
theorem d_Md_escape_25 : decode b_Md_escape 25 = .ok (.ireturn, 1) := by decide +kernel
theorem d_Md_escape_26 : decode b_Md_escape 26 = .ok (.iload_n 2, 1) := by decide +kernel
theorem d_Md_escape_27 : decode b_Md_escape 27 = .ok (.invokestatic 52, 3) := by decide +kernel
theorem d_Md_escape_30 : decode b_Md_escape 30 = .ok (.ifCond .eq 21, 3) := by decide +kernel
theorem d_Md_escape_33 : decode b_Md_escape 33 = .ok (.aload_n 0, 1) := by decide +kernel
theorem d_Md_escape_34 : decode b_Md_escape 34 = .ok (.bipush 10, 2) := by decide +kernel
theorem d_Md_escape_36 : decode b_Md_escape 36 = .ok (.invokevirtual 84, 3) := by decide +kernel
theorem d_Md_escape_39 : decode b_Md_escape 39 = .ok (.iload_n 1, 1) := by decide +kernel
theorem d_Md_escape_40 : decode b_Md_escape 40 = .ok (.iconst 1, 1) := by decide +kernel
theorem d_Md_escape_41 : decode b_Md_escape 41 = .ok (.iadd, 1) := by decide +kernel
theorem d_Md_escape_42 : decode b_Md_escape 42 = .ok (.aload_n 0, 1) := by decide +kernel
theorem d_Md_escape_43 : decode b_Md_escape 43 = .ok (.iload_n 1, 1) := by decide +kernel
theorem d_Md_escape_44 : decode b_Md_escape 44 = .ok (.iconst 1, 1) := by decide +kernel
theorem d_Md_escape_45 : decode b_Md_escape 45 = .ok (.iadd, 1) := by decide +kernel
theorem d_Md_escape_46 : decode b_Md_escape 46 = .ok (.invokevirtual 58, 3) := by decide +kernel
theorem d_Md_escape_49 : decode b_Md_escape 49 = .ok (.iadd, 1) := by decide +kernel
theorem d_Md_escape_50 : decode b_Md_escape 50 = .ok (.ireturn, 1) := by decide +kernel
theorem d_Md_escape_51 : decode b_Md_escape 51 = .ok (.iload_n 2, 1) := by decide +kernel
theorem d_Md_escape_52 : decode b_Md_escape 52 = .ok (.bipush 122, 2) := by decide +kernel
theorem d_Md_escape_54 : decode b_Md_escape 54 = .ok (.if_icmp .ne 29, 3) := by decide +kernel
theorem d_Md_escape_57 : decode b_Md_escape 57 = .ok (.iload_n 1, 1) := by decide +kernel
theorem d_Md_escape_58 : decode b_Md_escape 58 = .ok (.iconst 2, 1) := by decide +kernel
theorem d_Md_escape_59 : decode b_Md_escape 59 = .ok (.iadd, 1) := by decide +kernel
theorem d_Md_escape_60 : decode b_Md_escape 60 = .ok (.istore 4, 2) := by decide +kernel
theorem d_Md_escape_62 : decode b_Md_escape 62 = .ok (.aload_n 0, 1) := by decide +kernel
theorem d_Md_escape_63 : decode b_Md_escape 63 = .ok (.iload 4, 2) := by decide +kernel
theorem d_Md_escape_65 : decode b_Md_escape 65 = .ok (.invokevirtual 48, 3) := by decide +kernel
theorem d_Md_escape_68 : decode b_Md_escape 68 = .ok (.invokestatic 161, 3) := by decide +kernel
theorem d_Md_escape_71 : decode b_Md_escape 71 = .ok (.ifCond .eq 9, 3) := by decide +kernel
theorem d_Md_escape_74 : decode b_Md_escape 74 = .ok (.iinc 4 1, 3) := by decide +kernel
theorem d_Md_escape_77 : decode b_Md_escape 77 = .ok (.goto (-15), 3) := by decide +kernel
theorem d_Md_escape_80 : decode b_Md_escape 80 = .ok (.iload 4, 2) := by decide +kernel
theorem d_Md_escape_82 : decode b_Md_escape 82 = .ok (.ireturn, 1) := by decide +kernel
theorem d_Md_escape_83 : decode b_Md_escape 83 = .ok (.iload_n 2, 1) := by decide +kernel
theorem d_Md_escape_84 : decode b_Md_escape 84 = .ok (.bipush 120, 2) := by decide +kernel
theorem d_Md_escape_86 : decode b_Md_escape 86 = .ok (.if_icmp .ne 11, 3) := by decide +kernel
theorem d_Md_escape_89 : decode b_Md_escape 89 = .ok (.aload_n 0, 1) := by decide +kernel
theorem d_Md_escape_90 : decode b_Md_escape 90 = .ok (.iload_n 1, 1) := by decide +kernel
theorem d_Md_escape_91 : decode b_Md_escape 91 = .ok (.iconst 2, 1) := by decide +kernel
theorem d_Md_escape_92 : decode b_Md_escape 92 = .ok (.iadd, 1) := by decide +kernel
theorem d_Md_escape_93 : decode b_Md_escape 93 = .ok (.invokevirtual 164, 3) := by decide +kernel
theorem d_Md_escape_96 : decode b_Md_escape 96 = .ok (.ireturn, 1) := by decide +kernel
theorem d_Md_escape_97 : decode b_Md_escape 97 = .ok (.iload_n 2, 1) := by decide +kernel
theorem d_Md_escape_98 : decode b_Md_escape 98 = .ok (.bipush 117, 2) := by decide +kernel
theorem d_Md_escape_100 : decode b_Md_escape 100 = .ok (.if_icmp .ne 13, 3) := by decide +kernel
theorem d_Md_escape_103 : decode b_Md_escape 103 = .ok (.aload_n 0, 1) := by decide +kernel
theorem d_Md_escape_104 : decode b_Md_escape 104 = .ok (.iload_n 1, 1) := by decide +kernel
theorem d_Md_escape_105 : decode b_Md_escape 105 = .ok (.iconst 2, 1) := by decide +kernel
theorem d_Md_escape_106 : decode b_Md_escape 106 = .ok (.iadd, 1) := by decide +kernel
theorem d_Md_escape_107 : decode b_Md_escape 107 = .ok (.invokevirtual 167, 3) := by decide +kernel
theorem d_Md_escape_110 : decode b_Md_escape 110 = .ok (.goto 10, 3) := by decide +kernel
theorem d_Md_escape_113 : decode b_Md_escape 113 = .ok (.aload_n 0, 1) := by decide +kernel
theorem d_Md_escape_114 : decode b_Md_escape 114 = .ok (.iload_n 1, 1) := by decide +kernel
theorem d_Md_escape_115 : decode b_Md_escape 115 = .ok (.iconst 1, 1) := by decide +kernel
theorem d_Md_escape_116 : decode b_Md_escape 116 = .ok (.iadd, 1) := by decide +kernel
theorem d_Md_escape_117 : decode b_Md_escape 117 = .ok (.invokevirtual 170, 3) := by decide +kernel
theorem d_Md_escape_120 : decode b_Md_escape 120 = .ok (.ireturn, 1) := by decide +kernel
theorem d_Md_quoted_0 : decode b_Md_quoted 0 = .ok (.aload_n 0, 1) := by decide +kernel
theorem d_Md_quoted_1 : decode b_Md_quoted 1 = .ok (.iconst 0, 1) := by decide +kernel
theorem d_Md_quoted_2 : decode b_Md_quoted 2 = .ok (.putfield 73, 3) := by decide +kernel
theorem d_Md_quoted_5 : decode b_Md_quoted 5 = .ok (.iload_n 1, 1) := by decide +kernel
theorem d_Md_quoted_6 : decode b_Md_quoted 6 = .ok (.iconst 1, 1) := by decide +kernel
theorem d_Md_quoted_7 : decode b_Md_quoted 7 = .ok (.iadd, 1) := by decide +kernel
theorem d_Md_quoted_8 : decode b_Md_quoted 8 = .ok (.istore_n 2, 1) := by decide +kernel
theorem d_Md_quoted_9 : decode b_Md_quoted 9 = .ok (.aload_n 0, 1) := by decide +kernel
theorem d_Md_quoted_10 : decode b_Md_quoted 10 = .ok (.iload_n 2, 1) := by decide +kernel
theorem d_Md_quoted_11 : decode b_Md_quoted 11 = .ok (.invokevirtual 48, 3) := by decide +kernel
theorem d_Md_quoted_14 : decode b_Md_quoted 14 = .ok (.aload_n 0, 1) := by decide +kernel
theorem d_Md_quoted_15 : decode b_Md_quoted 15 = .ok (.iload_n 1, 1) := by decide +kernel
theorem d_Md_quoted_16 : decode b_Md_quoted 16 = .ok (.invokevirtual 48, 3) := by decide +kernel
theorem d_Md_quoted_19 : decode b_Md_quoted 19 = .ok (.if_icmp .eq 66, 3) := by decide +kernel
theorem d_Md_quoted_22 : decode b_Md_quoted 22 = .ok (.aload_n 0, 1) := by decide +kernel
theorem d_Md_quoted_23 : decode b_Md_quoted 23 = .ok (.iload_n 2, 1) := by decide +kernel
theorem d_Md_quoted_24 : decode b_Md_quoted 24 = .ok (.invokevirtual 48, 3) := by decide +kernel
theorem d_Md_quoted_27 : decode b_Md_quoted 27 = .ok (.istore_n 3, 1) := by decide +kernel
theorem d_Md_quoted_28 : decode b_Md_quoted 28 = .ok (.iload_n 3, 1) := by decide +kernel
theorem d_Md_quoted_29 : decode b_Md_quoted 29 = .ok (.iconst (-1), 1) := by decide +kernel
theorem d_Md_quoted_30 : decode b_Md_quoted 30 = .ok (.if_icmp .eq 10, 3) := by decide +kernel
theorem d_Md_quoted_33 : decode b_Md_quoted 33 = .ok (.iload_n 3, 1) := by decide +kernel
theorem d_Md_quoted_34 : decode b_Md_quoted 34 = .ok (.invokestatic 52, 3) := by decide +kernel
theorem d_Md_quoted_37 : decode b_Md_quoted 37 = .ok (.ifCond .eq 10, 3) := by decide +kernel
theorem d_Md_quoted_40 : decode b_Md_quoted 40 = .ok (.aload_n 0, 1) := by decide +kernel
theorem d_Md_quoted_41 : decode b_Md_quoted 41 = .ok (.iconst 4, 1) := by decide +kernel
theorem d_Md_quoted_42 : decode b_Md_quoted 42 = .ok (.iload_n 2, 1) := by decide +kernel
theorem d_Md_quoted_43 : decode b_Md_quoted 43 = .ok (.invokevirtual 80, 3) := by decide +kernel
theorem d_Md_quoted_46 : decode b_Md_quoted 46 = .ok (.ireturn, 1) := by decide +kernel
theorem d_Md_quoted_47 : decode b_Md_quoted 47 = .ok (.iload_n 3, 1) := by decide +kernel
theorem d_Md_quoted_48 : decode b_Md_quoted 48 = .ok (.bipush 92, 2) := by decide +kernel
theorem d_Md_quoted_50 : decode b_Md_quoted 50 = .ok (.if_icmp .eq 8, 3) := by decide +kernel
theorem d_Md_quoted_53 : decode b_Md_quoted 53 = .ok (.aload_n 0, 1) := by decide +kernel
theorem d_Md_quoted_54 : decode b_Md_quoted 54 = .ok (.iload_n 3, 1) := by decide +kernel
theorem d_Md_quoted_55 : decode b_Md_quoted 55 = .ok (.invokevirtual 84, 3) := by decide +kernel
theorem d_Md_quoted_58 : decode b_Md_quoted 58 = .ok (.iload_n 3, 1) := by decide +kernel
theorem d_Md_quoted_59 : decode b_Md_quoted 59 = .ok (.bipush 92, 2) := by decide +kernel
theorem d_Md_quoted_61 : decode b_Md_quoted 61 = .ok (.if_icmp .ne 11, 3) := by decide +kernel
theorem d_Md_quoted_64 : decode b_Md_quoted 64 = .ok (.aload_n 0, 1) := by decide +kernel
theorem d_Md_quoted_65 : decode b_Md_quoted 65 = .ok (.iload_n 2, 1) := by decide +kernel
theorem d_Md_quoted_66 : decode b_Md_quoted 66 = .ok (.invokevirtual 173, 3) := by decide +kernel
theorem d_Md_quoted_69 : decode b_Md_quoted 69 = .ok (.goto 6, 3) := by decide +kernel
theorem d_Md_quoted_72 : decode b_Md_quoted 72 = .ok (.iload_n 2, 1) := by decide +kernel
theorem d_Md_quoted_73 : decode b_Md_quoted 73 = .ok (.iconst 1, 1) := by decide +kernel
theorem d_Md_quoted_74 : decode b_Md_quoted 74 = .ok (.iadd, 1) := by decide +kernel
theorem d_Md_quoted_75 : decode b_Md_quoted 75 = .ok (.istore_n 2, 1) := by decide +kernel
theorem d_Md_quoted_76 : decode b_Md_quoted 76 = .ok (.iload_n 2, 1) := by decide +kernel
theorem d_Md_quoted_77 : decode b_Md_quoted 77 = .ok (.ifCond .ge 5, 3) := by decide +kernel
theorem d_Md_quoted_80 : decode b_Md_quoted 80 = .ok (.iconst (-1), 1) := by decide +kernel
theorem d_Md_quoted_81 : decode b_Md_quoted 81 = .ok (.ireturn, 1) := by decide +kernel
theorem d_Md_quoted_82 : decode b_Md_quoted 82 = .ok (.goto (-73), 3) := by decide +kernel
theorem d_Md_quoted_85 : decode b_Md_quoted 85 = .ok (.iload_n 2, 1) := by decide +kernel
theorem d_Md_quoted_86 : decode b_Md_quoted 86 = .ok (.iconst 1, 1) := by decide +kernel
theorem d_Md_quoted_87 : decode b_Md_quoted 87 = .ok (.iadd, 1) := by decide +kernel
theorem d_Md_quoted_88 : decode b_Md_quoted 88 = .ok (.ireturn, 1) := by decide +kernel
theorem d_Md_isNext_0 : decode b_Md_isNext 0 = .ok (.aload_n 0, 1) := by decide +kernel
theorem d_Md_isNext_1 : decode b_Md_isNext 1 = .ok (.iload_n 1, 1) := by decide +kernel
theorem d_Md_isNext_2 : decode b_Md_isNext 2 = .ok (.invokevirtual 48, 3) := by decide +kernel
theorem d_Md_isNext_5 : decode b_Md_isNext 5 = .ok (.iload_n 2, 1) := by decide +kernel
theorem d_Md_isNext_6 : decode b_Md_isNext 6 = .ok (.if_icmp .ne 18, 3) := by decide +kernel
theorem d_Md_isNext_9 : decode b_Md_isNext 9 = .ok (.aload_n 0, 1) := by decide +kernel
theorem d_Md_isNext_10 : decode b_Md_isNext 10 = .ok (.iload_n 1, 1) := by decide +kernel
theorem d_Md_isNext_11 : decode b_Md_isNext 11 = .ok (.iconst 1, 1) := by decide +kernel
theorem d_Md_isNext_12 : decode b_Md_isNext 12 = .ok (.iadd, 1) := by decide +kernel
theorem d_Md_isNext_13 : decode b_Md_isNext 13 = .ok (.invokevirtual 48, 3) := by decide +kernel
theorem d_Md_isNext_16 : decode b_Md_isNext 16 = .ok (.iload_n 3, 1) := by decide +kernel
theorem d_Md_isNext_17 : decode b_Md_isNext 17 = .ok (.if_icmp .ne 7, 3) := by decide +kernel
theorem d_Md_isNext_20 : decode b_Md_isNext 20 = .ok (.iconst 1, 1) := by decide +kernel
theorem d_Md_isNext_21 : decode b_Md_isNext 21 = .ok (.goto 4, 3) := by decide +kernel
theorem d_Md_isNext_24 : decode b_Md_isNext 24 = .ok (.iconst 0, 1) := by decide +kernel
theorem d_Md_isNext_25 : decode b_Md_isNext 25 = .ok (.ireturn, 1) := by decide +kernel
theorem d_Md_operator_0 : decode b_Md_operator 0 = .ok (.aload_n 0, 1) := by decide +kernel
theorem d_Md_operator_1 : decode b_Md_operator 1 = .ok (.iload_n 1, 1) := by decide +kernel
theorem d_Md_operator_2 : decode b_Md_operator 2 = .ok (.invokevirtual 48, 3) := by decide +kernel
theorem d_Md_operator_5 : decode b_Md_operator 5 = .ok (.istore_n 2, 1) := by decide +kernel
theorem d_Md_operator_6 : decode b_Md_operator 6 = .ok (.iload_n 2, 1) := by decide +kernel
theorem d_Md_operator_7 : decode b_Md_operator 7 = .ok (.bipush 46, 2) := by decide +kernel
theorem d_Md_operator_9 : decode b_Md_operator 9 = .ok (.if_icmp .ne 45, 3) := by decide +kernel
theorem d_Md_operator_12 : decode b_Md_operator 12 = .ok (.aload_n 0, 1) := by decide +kernel
theorem d_Md_operator_13 : decode b_Md_operator 13 = .ok (.iload_n 1, 1) := by decide +kernel
theorem d_Md_operator_14 : decode b_Md_operator 14 = .ok (.iconst 1, 1) := by decide +kernel
theorem d_Md_operator_15 : decode b_Md_operator 15 = .ok (.iadd, 1) := by decide +kernel
theorem d_Md_operator_16 : decode b_Md_operator 16 = .ok (.bipush 46, 2) := by decide +kernel
theorem d_Md_operator_18 : decode b_Md_operator 18 = .ok (.bipush 46, 2) := by decide +kernel
theorem d_Md_operator_20 : decode b_Md_operator 20 = .ok (.invokevirtual 176, 3) := by decide +kernel
theorem d_Md_operator_23 : decode b_Md_operator 23 = .ok (.ifCond .eq 9, 3) := by decide +kernel
theorem d_Md_operator_26 : decode b_Md_operator 26 = .ok (.sipush 291, 3) := by decide +kernel
theorem d_Md_operator_29 : decode b_Md_operator 29 = .ok (.goto 24, 3) := by decide +kernel
theorem d_Md_operator_32 : decode b_Md_operator 32 = .ok (.aload_n 0, 1) := by decide +kernel
theorem d_Md_operator_33 : decode b_Md_operator 33 = .ok (.iload_n 1, 1) := by decide +kernel
theorem d_Md_operator_34 : decode b_Md_operator 34 = .ok (.iconst 1, 1) := by decide +kernel
theorem d_Md_operator_35 : decode b_Md_operator 35 = .ok (.iadd, 1) := by decide +kernel
theorem d_Md_operator_36 : decode b_Md_operator 36 = .ok (.invokevirtual 48, 3) := by decide +kernel
theorem d_Md_operator_39 : decode b_Md_operator 39 = .ok (.bipush 46, 2) := by decide +kernel
theorem d_Md_operator_41 : decode b_Md_operator 41 = .ok (.if_icmp .ne 9, 3) := by decide +kernel
theorem d_Md_operator_44 : decode b_Md_operator 44 = .ok (.sipush 286, 3) := by decide +kernel
theorem d_Md_operator_47 : decode b_Md_operator 47 = .ok (.goto 6, 3) := by decide +kernel
theorem d_Md_operator_50 : decode b_Md_operator 50 = .ok (.sipush 281, 3) := by decide +kernel
theorem d_Md_operator_53 : decode b_Md_operator 53 = .ok (.ireturn, 1) := by decide +kernel
theorem d_Md_operator_54 : decode b_Md_operator 54 = .ok (.aload_n 0, 1) := by decide +kernel
theorem d_Md_operator_55 : decode b_Md_operator 55 = .ok (.iload_n 1, 1) := by decide +kernel
theorem d_Md_operator_56 : decode b_Md_operator 56 = .ok (.bipush 60, 2) := by decide +kernel
theorem d_Md_operator_58 : decode b_Md_operator 58 = .ok (.bipush 60, 2) := by decide +kernel
theorem d_Md_operator_60 : decode b_Md_operator 60 = .ok (.invokevirtual 176, 3) := by decide +kernel
theorem d_Md_operator_63 : decode b_Md_operator 63 = .ok (.ifCond .eq 7, 3) := by decide +kernel
theorem d_Md_operator_66 : decode b_Md_operator 66 = .ok (.sipush 202, 3) := by decide +kernel
theorem d_Md_operator_69 : decode b_Md_operator 69 = .ok (.ireturn, 1) := by decide +kernel
theorem d_Md_operator_70 : decode b_Md_operator 70 = .ok (.aload_n 0, 1) := by decide +kernel
theorem d_Md_operator_71 : decode b_Md_operator 71 = .ok (.iload_n 1, 1) := by decide +kernel
theorem d_Md_operator_72 : decode b_Md_operator 72 = .ok (.bipush 62, 2) := by decide +kernel
theorem d_Md_operator_74 : decode b_Md_operator 74 = .ok (.bipush 62, 2) := by decide +kernel
theorem d_Md_operator_76 : decode b_Md_operator 76 = .ok (.invokevirtual 176, 3) := by decide +kernel
theorem d_Md_operator_79 : decode b_Md_operator 79 = .ok (.ifCond .eq 7, 3) := by decide +kernel
theorem d_Md_operator_82 : decode b_Md_operator 82 = .ok (.sipush 206, 3) := by decide +kernel
theorem d_Md_operator_85 : decode b_Md_operator 85 = .ok (.ireturn, 1) := by decide +kernel
theorem d_Md_operator_86 : decode b_Md_operator 86 = .ok (.aload_n 0, 1) := by decide +kernel
theorem d_Md_operator_87 : decode b_Md_operator 87 = .ok (.iload_n 1, 1) := by decide +kernel
theorem d_Md_operator_88 : decode b_Md_operator 88 = .ok (.bipush 47, 2) := by decide +kernel
theorem d_Md_operator_90 : decode b_Md_operator 90 = .ok (.bipush 47, 2) := by decide +kernel
theorem d_Md_operator_92 : decode b_Md_operator 92 = .ok (.invokevirtual 176, 3) := by decide +kernel
theorem d_Md_operator_95 : decode b_Md_operator 95 = .ok (.ifCond .eq 7, 3) := by decide +kernel
theorem d_Md_operator_98 : decode b_Md_operator 98 = .ok (.sipush 210, 3) := by decide +kernel
theorem d_Md_operator_101 : decode b_Md_operator 101 = .ok (.ireturn, 1) := by decide +kernel
theorem d_Md_operator_102 : decode b_Md_operator 102 = .ok (.aload_n 0, 1) := by decide +kernel
theorem d_Md_operator_103 : decode b_Md_operator 103 = .ok (.iload_n 1, 1) := by decide +kernel
theorem d_Md_operator_104 : decode b_Md_operator 104 = .ok (.bipush 61, 2) := by decide +kernel
theorem d_Md_operator_106 : decode b_Md_operator 106 = .ok (.bipush 61, 2) := by decide +kernel
theorem d_Md_operator_108 : decode b_Md_operator 108 = .ok (.invokevirtual 176, 3) := by decide +kernel
theorem d_Md_operator_111 : decode b_Md_operator 111 = .ok (.ifCond .eq 7, 3) := by decide +kernel
theorem d_Md_operator_114 : decode b_Md_operator 114 = .ok (.sipush 214, 3) := by decide +kernel
theorem d_Md_operator_117 : decode b_Md_operator 117 = .ok (.ireturn, 1) := by decide +kernel
theorem d_Md_operator_118 : decode b_Md_operator 118 = .ok (.aload_n 0, 1) := by decide +kernel
theorem d_Md_operator_119 : decode b_Md_operator 119 = .ok (.iload_n 1, 1) := by decide +kernel
theorem d_Md_operator_120 : decode b_Md_operator 120 = .ok (.bipush 126, 2) := by decide +kernel
theorem d_Md_operator_122 : decode b_Md_operator 122 = .ok (.bipush 61, 2) := by decide +kernel
theorem d_Md_operator_124 : decode b_Md_operator 124 = .ok (.invokevirtual 176, 3) := by decide +kernel
theorem d_Md_operator_127 : decode b_Md_operator 127 = .ok (.ifCond .eq 7, 3) := by decide +kernel
theorem d_Md_operator_130 : decode b_Md_operator 130 = .ok (.sipush 218, 3) := by decide +kernel
theorem d_Md_operator_133 : decode b_Md_operator 133 = .ok (.ireturn, 1) := by decide +kernel
theorem d_Md_operator_134 : decode b_Md_operator 134 = .ok (.aload_n 0, 1) := by decide +kernel
theorem d_Md_operator_135 : decode b_Md_operator 135 = .ok (.iload_n 1, 1) := by decide +kernel
theorem d_Md_operator_136 : decode b_Md_operator 136 = .ok (.bipush 60, 2) := by decide +kernel
theorem d_Md_operator_138 : decode b_Md_operator 138 = .ok (.bipush 61, 2) := by decide +kernel
theorem d_Md_operator_140 : decode b_Md_operator 140 = .ok (.invokevirtual 176, 3) := by decide +kernel
theorem d_Md_operator_143 : decode b_Md_operator 143 = .ok (.ifCond .eq 7, 3) := by decide +kernel
theorem d_Md_operator_146 : decode b_Md_operator 146 = .ok (.sipush 222, 3) := by decide +kernel
theorem d_Md_operator_149 : decode b_Md_operator 149 = .ok (.ireturn, 1) := by decide +kernel
theorem d_Md_operator_150 : decode b_Md_operator 150 = .ok (.aload_n 0, 1) := by decide +kernel
theorem d_Md_operator_151 : decode b_Md_operator 151 = .ok (.iload_n 1, 1) := by decide +kernel
theorem d_Md_operator_152 : decode b_Md_operator 152 = .ok (.bipush 62, 2) := by decide +kernel
theorem d_Md_operator_154 : decode b_Md_operator 154 = .ok (.bipush 61, 2) := by decide +kernel
theorem d_Md_operator_156 : decode b_Md_operator 156 = .ok (.invokevirtual 176, 3) := by decide +kernel
theorem d_Md_operator_159 : decode b_Md_operator 159 = .ok (.ifCond .eq 7, 3) := by decide +kernel
theorem d_Md_operator_162 : decode b_Md_operator 162 = .ok (.sipush 226, 3) := by decide +kernel
theorem d_Md_operator_165 : decode b_Md_operator 165 = .ok (.ireturn, 1) := by decide +kernel
theorem d_Md_operator_166 : decode b_Md_operator 166 = .ok (.aload_n 0, 1) := by decide +kernel
theorem d_Md_operator_167 : decode b_Md_operator 167 = .ok (.iload_n 1, 1) := by decide +kernel
theorem d_Md_operator_168 : decode b_Md_operator 168 = .ok (.bipush 58, 2) := by decide +kernel
theorem d_Md_operator_170 : decode b_Md_operator 170 = .ok (.bipush 58, 2) := by decide +kernel
theorem d_Md_operator_172 : decode b_Md_operator 172 = .ok (.invokevirtual 176, 3) := by decide +kernel
theorem d_Md_operator_175 : decode b_Md_operator 175 = .ok (.ifCond .eq 7, 3) := by decide +kernel
theorem d_Md_operator_178 : decode b_Md_operator 178 = .ok (.sipush 266, 3) := by decide +kernel
theorem d_Md_operator_181 : decode b_Md_operator 181 = .ok (.ireturn, 1) := by decide +kernel
theorem d_Md_operator_182 : decode b_Md_operator 182 = .ok (.iconst 0, 1) := by decide +kernel
theorem d_Md_operator_183 : decode b_Md_operator 183 = .ok (.istore_n 3, 1) := by decide +kernel
theorem d_Md_operator_184 : decode b_Md_operator 184 = .ok (.iload_n 3, 1) := by decide +kernel
theorem d_Md_operator_185 : decode b_Md_operator 185 = .ok (.bipush 22, 2) := by decide +kernel
theorem d_Md_operator_187 : decode b_Md_operator 187 = .ok (.if_icmp .ge 34, 3) := by decide +kernel
theorem d_Md_operator_190 : decode b_Md_operator 190 = .ok (.iload_n 2, 1) := by decide +kernel
theorem d_Md_operator_191 : decode b_Md_operator 191 = .ok (.getstatic 179, 3) := by decide +kernel
theorem d_Md_operator_194 : decode b_Md_operator 194 = .ok (.iconst 2, 1) := by decide +kernel
theorem d_Md_operator_195 : decode b_Md_operator 195 = .ok (.iload_n 3, 1) := by decide +kernel
theorem d_Md_operator_196 : decode b_Md_operator 196 = .ok (.imul, 1) := by decide +kernel
theorem d_Md_operator_197 : decode b_Md_operator 197 = .ok (.baload, 1) := by decide +kernel
theorem d_Md_operator_198 : decode b_Md_operator 198 = .ok (.if_icmp .ne 17, 3) := by decide +kernel
theorem d_Md_operator_201 : decode b_Md_operator 201 = .ok (.iconst 4, 1) := by decide +kernel
theorem d_Md_operator_202 : decode b_Md_operator 202 = .ok (.getstatic 179, 3) := by decide +kernel
theorem d_Md_operator_205 : decode b_Md_operator 205 = .ok (.iconst 2, 1) := by decide +kernel
theorem d_Md_operator_206 : decode b_Md_operator 206 = .ok (.iload_n 3, 1) := by decide +kernel
theorem d_Md_operator_207 : decode b_Md_operator 207 = .ok (.imul, 1) := by decide +kernel
theorem d_Md_operator_208 : decode b_Md_operator 208 = .ok (.iconst 1, 1) := by decide +kernel
theorem d_Md_operator_209 : decode b_Md_operator 209 = .ok (.iadd, 1) := by decide +kernel
theorem d_Md_operator_210 : decode b_Md_operator 210 = .ok (.baload, 1) := by decide +kernel
theorem d_Md_operator_211 : decode b_Md_operator 211 = .ok (.imul, 1) := by decide +kernel
theorem d_Md_operator_212 : decode b_Md_operator 212 = .ok (.iconst 1, 1) := by decide +kernel
theorem d_Md_operator_213 : decode b_Md_operator 213 = .ok (.iadd, 1) := by decide +kernel
theorem d_Md_operator_214 : decode b_Md_operator 214 = .ok (.ireturn, 1) := by decide +kernel
theorem d_Md_operator_215 : decode b_Md_operator 215 = .ok (.iinc 3 1, 3) := by decide +kernel
theorem d_Md_operator_218 : decode b_Md_operator 218 = .ok (.goto (-34), 3) := by decide +kernel
theorem d_Md_operator_221 : decode b_Md_operator 221 = .ok (.iconst 0, 1) := by decide +kernel
theorem d_Md_operator_222 : decode b_Md_operator 222 = .ok (.ireturn, 1) := by decide +kernel
theorem d_Md_sign_0 : decode b_Md_sign 0 = .ok (.iconst 1, 1) := by decide +kernel
theorem d_Md_sign_1 : decode b_Md_sign 1 = .ok (.istore_n 2, 1) := by decide +kernel
theorem d_Md_sign_2 : decode b_Md_sign 2 = .ok (.aload_n 0, 1) := by decide +kernel
theorem d_Md_sign_3 : decode b_Md_sign 3 = .ok (.iload_n 1, 1) := by decide +kernel
theorem d_Md_sign_4 : decode b_Md_sign 4 = .ok (.invokevirtual 48, 3) := by decide +kernel
theorem d_Md_sign_7 : decode b_Md_sign 7 = .ok (.bipush 91, 2) := by decide +kernel
theorem d_Md_sign_9 : decode b_Md_sign 9 = .ok (.if_icmp .ne 21, 3) := by decide +kernel
theorem d_Md_sign_12 : decode b_Md_sign 12 = .ok (.aload_n 0, 1) := by decide +kernel
theorem d_Md_sign_13 : decode b_Md_sign 13 = .ok (.iload_n 1, 1) := by decide +kernel
theorem d_Md_sign_14 : decode b_Md_sign 14 = .ok (.iload_n 2, 1) := by decide +kernel
theorem d_Md_sign_15 : decode b_Md_sign 15 = .ok (.iadd, 1) := by decide +kernel
theorem d_Md_sign_16 : decode b_Md_sign 16 = .ok (.invokevirtual 48, 3) := by decide +kernel
theorem d_Md_sign_19 : decode b_Md_sign 19 = .ok (.bipush 61, 2) := by decide +kernel
theorem d_Md_sign_21 : decode b_Md_sign 21 = .ok (.if_icmp .ne 9, 3) := by decide +kernel
theorem d_Md_sign_24 : decode b_Md_sign 24 = .ok (.iinc 2 1, 3) := by decide +kernel
theorem d_Md_sign_27 : decode b_Md_sign 27 = .ok (.goto (-25), 3) := by decide +kernel
theorem d_Md_sign_30 : decode b_Md_sign 30 = .ok (.iload_n 2, 1) := by decide +kernel
theorem d_Md_sign_31 : decode b_Md_sign 31 = .ok (.iconst 1, 1) := by decide +kernel
theorem d_Md_sign_32 : decode b_Md_sign 32 = .ok (.if_icmp .le 12, 3) := by decide +kernel
theorem d_Md_sign_35 : decode b_Md_sign 35 = .ok (.aload_n 0, 1) := by decide +kernel
theorem d_Md_sign_36 : decode b_Md_sign 36 = .ok (.iconst 5, 1) := by decide +kernel
theorem d_Md_sign_37 : decode b_Md_sign 37 = .ok (.iload_n 1, 1) := by decide +kernel
theorem d_Md_sign_38 : decode b_Md_sign 38 = .ok (.iload_n 2, 1) := by decide +kernel
theorem d_Md_sign_39 : decode b_Md_sign 39 = .ok (.iadd, 1) := by decide +kernel
theorem d_Md_sign_40 : decode b_Md_sign 40 = .ok (.invokevirtual 80, 3) := by decide +kernel
theorem d_Md_sign_43 : decode b_Md_sign 43 = .ok (.ireturn, 1) := by decide +kernel
theorem d_Md_sign_44 : decode b_Md_sign 44 = .ok (.aload_n 0, 1) := by decide +kernel
theorem d_Md_sign_45 : decode b_Md_sign 45 = .ok (.iload_n 1, 1) := by decide +kernel
theorem d_Md_sign_46 : decode b_Md_sign 46 = .ok (.invokevirtual 182, 3) := by decide +kernel
theorem d_Md_sign_49 : decode b_Md_sign 49 = .ok (.istore_n 3, 1) := by decide +kernel
theorem d_Md_sign_50 : decode b_Md_sign 50 = .ok (.iload_n 3, 1) := by decide +kernel
theorem d_Md_sign_51 : decode b_Md_sign 51 = .ok (.ifCond .ne 12, 3) := by decide +kernel
theorem d_Md_sign_54 : decode b_Md_sign 54 = .ok (.aload_n 0, 1) := by decide +kernel
theorem d_Md_sign_55 : decode b_Md_sign 55 = .ok (.iconst 1, 1) := by decide +kernel
theorem d_Md_sign_56 : decode b_Md_sign 56 = .ok (.iload_n 1, 1) := by decide +kernel
theorem d_Md_sign_57 : decode b_Md_sign 57 = .ok (.invokevirtual 80, 3) := by decide +kernel
theorem d_Md_sign_60 : decode b_Md_sign 60 = .ok (.goto 17, 3) := by decide +kernel
theorem d_Md_sign_63 : decode b_Md_sign 63 = .ok (.aload_n 0, 1) := by decide +kernel
theorem d_Md_sign_64 : decode b_Md_sign 64 = .ok (.iload_n 3, 1) := by decide +kernel
theorem d_Md_sign_65 : decode b_Md_sign 65 = .ok (.iconst 4, 1) := by decide +kernel
theorem d_Md_sign_66 : decode b_Md_sign 66 = .ok (.idiv, 1) := by decide +kernel
theorem d_Md_sign_67 : decode b_Md_sign 67 = .ok (.iload_n 1, 1) := by decide +kernel
theorem d_Md_sign_68 : decode b_Md_sign 68 = .ok (.iload_n 1, 1) := by decide +kernel
theorem d_Md_sign_69 : decode b_Md_sign 69 = .ok (.iload_n 3, 1) := by decide +kernel
theorem d_Md_sign_70 : decode b_Md_sign 70 = .ok (.iconst 4, 1) := by decide +kernel
theorem d_Md_sign_71 : decode b_Md_sign 71 = .ok (.irem, 1) := by decide +kernel
theorem d_Md_sign_72 : decode b_Md_sign 72 = .ok (.iadd, 1) := by decide +kernel
theorem d_Md_sign_73 : decode b_Md_sign 73 = .ok (.iconst (-1), 1) := by decide +kernel
theorem d_Md_sign_74 : decode b_Md_sign 74 = .ok (.invokevirtual 107, 3) := by decide +kernel
theorem d_Md_sign_77 : decode b_Md_sign 77 = .ok (.ireturn, 1) := by decide +kernel
theorem d_Md_wordAt_0 : decode b_Md_wordAt 0 = .ok (.aload_n 0, 1) := by decide +kernel
theorem d_Md_wordAt_1 : decode b_Md_wordAt 1 = .ok (.getfield 97, 3) := by decide +kernel
theorem d_Md_wordAt_4 : decode b_Md_wordAt 4 = .ok (.sipush 16384, 3) := by decide +kernel
theorem d_Md_wordAt_7 : decode b_Md_wordAt 7 = .ok (.if_icmp .ne 11, 3) := by decide +kernel
theorem d_Md_wordAt_10 : decode b_Md_wordAt 10 = .ok (.aload_n 0, 1) := by decide +kernel
theorem d_Md_wordAt_11 : decode b_Md_wordAt 11 = .ok (.bipush 6, 2) := by decide +kernel
theorem d_Md_wordAt_13 : decode b_Md_wordAt 13 = .ok (.iload_n 1, 1) := by decide +kernel
theorem d_Md_wordAt_14 : decode b_Md_wordAt 14 = .ok (.invokevirtual 80, 3) := by decide +kernel
theorem d_Md_wordAt_17 : decode b_Md_wordAt 17 = .ok (.ireturn, 1) := by decide +kernel
theorem d_Md_wordAt_18 : decode b_Md_wordAt 18 = .ok (.aload_n 0, 1) := by decide +kernel
theorem d_Md_wordAt_19 : decode b_Md_wordAt 19 = .ok (.iload_n 1, 1) := by decide +kernel
theorem d_Md_wordAt_20 : decode b_Md_wordAt 20 = .ok (.invokevirtual 48, 3) := by decide +kernel
theorem d_Md_wordAt_23 : decode b_Md_wordAt 23 = .ok (.istore_n 2, 1) := by decide +kernel
theorem d_Md_wordAt_24 : decode b_Md_wordAt 24 = .ok (.iload_n 2, 1) := by decide +kernel
theorem d_Md_wordAt_25 : decode b_Md_wordAt 25 = .ok (.invokestatic 118, 3) := by decide +kernel
theorem d_Md_wordAt_28 : decode b_Md_wordAt 28 = .ok (.ifCond .eq 9, 3) := by decide +kernel
theorem d_Md_wordAt_31 : decode b_Md_wordAt 31 = .ok (.aload_n 0, 1) := by decide +kernel
theorem d_Md_wordAt_32 : decode b_Md_wordAt 32 = .ok (.iload_n 1, 1) := by decide +kernel
theorem d_Md_wordAt_33 : decode b_Md_wordAt 33 = .ok (.invokevirtual 185, 3) := by decide +kernel
theorem d_Md_wordAt_36 : decode b_Md_wordAt 36 = .ok (.ireturn, 1) := by decide +kernel
theorem d_Md_wordAt_37 : decode b_Md_wordAt 37 = .ok (.iload_n 2, 1) := by decide +kernel
theorem d_Md_wordAt_38 : decode b_Md_wordAt 38 = .ok (.invokestatic 44, 3) := by decide +kernel
theorem d_Md_wordAt_41 : decode b_Md_wordAt 41 = .ok (.ifCond .ne 22, 3) := by decide +kernel
theorem d_Md_wordAt_44 : decode b_Md_wordAt 44 = .ok (.iload_n 2, 1) := by decide +kernel
theorem d_Md_wordAt_45 : decode b_Md_wordAt 45 = .ok (.bipush 46, 2) := by decide +kernel
theorem d_Md_wordAt_47 : decode b_Md_wordAt 47 = .ok (.if_icmp .ne 22, 3) := by decide +kernel
theorem d_Md_wordAt_50 : decode b_Md_wordAt 50 = .ok (.aload_n 0, 1) := by decide +kernel
theorem d_Md_wordAt_51 : decode b_Md_wordAt 51 = .ok (.iload_n 1, 1) := by decide +kernel
theorem d_Md_wordAt_52 : decode b_Md_wordAt 52 = .ok (.iconst 1, 1) := by decide +kernel
theorem d_Md_wordAt_53 : decode b_Md_wordAt 53 = .ok (.iadd, 1) := by decide +kernel
theorem d_Md_wordAt_54 : decode b_Md_wordAt 54 = .ok (.invokevirtual 48, 3) := by decide +kernel
theorem d_Md_wordAt_57 : decode b_Md_wordAt 57 = .ok (.invokestatic 44, 3) := by decide +kernel
theorem d_Md_wordAt_60 : decode b_Md_wordAt 60 = .ok (.ifCond .eq 9, 3) := by decide +kernel
theorem d_Md_wordAt_63 : decode b_Md_wordAt 63 = .ok (.aload_n 0, 1) := by decide +kernel
theorem d_Md_wordAt_64 : decode b_Md_wordAt 64 = .ok (.iload_n 1, 1) := by decide +kernel
theorem d_Md_wordAt_65 : decode b_Md_wordAt 65 = .ok (.invokevirtual 188, 3) := by decide +kernel
theorem d_Md_wordAt_68 : decode b_Md_wordAt 68 = .ok (.ireturn, 1) := by decide +kernel
theorem d_Md_wordAt_69 : decode b_Md_wordAt 69 = .ok (.aload_n 0, 1) := by decide +kernel
theorem d_Md_wordAt_70 : decode b_Md_wordAt 70 = .ok (.iload_n 1, 1) := by decide +kernel
theorem d_Md_wordAt_71 : decode b_Md_wordAt 71 = .ok (.invokevirtual 88, 3) := by decide +kernel
theorem d_Md_wordAt_74 : decode b_Md_wordAt 74 = .ok (.istore_n 3, 1) := by decide +kernel
theorem d_Md_wordAt_75 : decode b_Md_wordAt 75 = .ok (.iload_n 2, 1) := by decide +kernel
theorem d_Md_wordAt_76 : decode b_Md_wordAt 76 = .ok (.bipush 34, 2) := by decide +kernel
theorem d_Md_wordAt_78 : decode b_Md_wordAt 78 = .ok (.if_icmp .eq 19, 3) := by decide +kernel
theorem d_Md_wordAt_81 : decode b_Md_wordAt 81 = .ok (.iload_n 2, 1) := by decide +kernel
theorem d_Md_wordAt_82 : decode b_Md_wordAt 82 = .ok (.bipush 39, 2) := by decide +kernel
theorem d_Md_wordAt_84 : decode b_Md_wordAt 84 = .ok (.if_icmp .eq 13, 3) := by decide +kernel
theorem d_Md_wordAt_87 : decode b_Md_wordAt 87 = .ok (.iload_n 3, 1) := by decide +kernel
theorem d_Md_wordAt_88 : decode b_Md_wordAt 88 = .ok (.ifCond .ge 9, 3) := by decide +kernel
theorem d_Md_wordAt_91 : decode b_Md_wordAt 91 = .ok (.aload_n 0, 1) := by decide +kernel
theorem d_Md_wordAt_92 : decode b_Md_wordAt 92 = .ok (.iload_n 1, 1) := by decide +kernel
theorem d_Md_wordAt_93 : decode b_Md_wordAt 93 = .ok (.invokevirtual 191, 3) := by decide +kernel
theorem d_Md_wordAt_96 : decode b_Md_wordAt 96 = .ok (.ireturn, 1) := by decide +kernel
theorem d_Md_wordAt_97 : decode b_Md_wordAt 97 = .ok (.iload_n 3, 1) := by decide +kernel
theorem d_Md_wordAt_98 : decode b_Md_wordAt 98 = .ok (.ifCond .lt 12, 3) := by decide +kernel
theorem d_Md_wordAt_101 : decode b_Md_wordAt 101 = .ok (.aload_n 0, 1) := by decide +kernel
theorem d_Md_wordAt_102 : decode b_Md_wordAt 102 = .ok (.iload_n 1, 1) := by decide +kernel
theorem d_Md_wordAt_103 : decode b_Md_wordAt 103 = .ok (.iload_n 3, 1) := by decide +kernel
theorem d_Md_wordAt_104 : decode b_Md_wordAt 104 = .ok (.invokevirtual 91, 3) := by decide +kernel
theorem d_Md_wordAt_107 : decode b_Md_wordAt 107 = .ok (.goto 8, 3) := by decide +kernel
theorem d_Md_wordAt_110 : decode b_Md_wordAt 110 = .ok (.aload_n 0, 1) := by decide +kernel
theorem d_Md_wordAt_111 : decode b_Md_wordAt 111 = .ok (.iload_n 1, 1) := by decide +kernel
theorem d_Md_wordAt_112 : decode b_Md_wordAt 112 = .ok (.invokevirtual 194, 3) := by decide +kernel
theorem d_Md_wordAt_115 : decode b_Md_wordAt 115 = .ok (.istore 4, 2) := by decide +kernel
theorem d_Md_wordAt_117 : decode b_Md_wordAt 117 = .ok (.iload 4, 2) := by decide +kernel
theorem d_Md_wordAt_119 : decode b_Md_wordAt 119 = .ok (.ifCond .ge 7, 3) := by decide +kernel
theorem d_Md_wordAt_122 : decode b_Md_wordAt 122 = .ok (.iconst (-1), 1) := by decide +kernel
theorem d_Md_wordAt_123 : decode b_Md_wordAt 123 = .ok (.goto 15, 3) := by decide +kernel
theorem d_Md_wordAt_126 : decode b_Md_wordAt 126 = .ok (.aload_n 0, 1) := by decide +kernel
theorem d_Md_wordAt_127 : decode b_Md_wordAt 127 = .ok (.iconst 3, 1) := by decide +kernel
theorem d_Md_wordAt_128 : decode b_Md_wordAt 128 = .ok (.iload_n 1, 1) := by decide +kernel
theorem d_Md_wordAt_129 : decode b_Md_wordAt 129 = .ok (.iload 4, 2) := by decide +kernel
theorem d_Md_wordAt_131 : decode b_Md_wordAt 131 = .ok (.aload_n 0, 1) := by decide +kernel
theorem d_Md_wordAt_132 : decode b_Md_wordAt 132 = .ok (.invokevirtual 103, 3) := by decide +kernel
theorem d_Md_wordAt_135 : decode b_Md_wordAt 135 = .ok (.invokevirtual 107, 3) := by decide +kernel
theorem d_Md_wordAt_138 : decode b_Md_wordAt 138 = .ok (.ireturn, 1) := by decide +kernel
theorem d_Md_cut_0 : decode b_Md_cut 0 = .ok (.aload_n 0, 1) := by decide +kernel
theorem d_Md_cut_1 : decode b_Md_cut 1 = .ok (.iconst 0, 1) := by decide +kernel
theorem d_Md_cut_2 : decode b_Md_cut 2 = .ok (.putfield 97, 3) := by decide +kernel
theorem d_Md_cut_5 : decode b_Md_cut 5 = .ok (.aload_n 0, 1) := by decide +kernel
theorem d_Md_cut_6 : decode b_Md_cut 6 = .ok (.iconst 0, 1) := by decide +kernel
theorem d_Md_cut_7 : decode b_Md_cut 7 = .ok (.putfield 94, 3) := by decide +kernel
theorem d_Md_cut_10 : decode b_Md_cut 10 = .ok (.aload_n 0, 1) := by decide +kernel
theorem d_Md_cut_11 : decode b_Md_cut 11 = .ok (.iconst 0, 1) := by decide +kernel
theorem d_Md_cut_12 : decode b_Md_cut 12 = .ok (.putfield 70, 3) := by decide +kernel
theorem d_Md_cut_15 : decode b_Md_cut 15 = .ok (.aload_n 0, 1) := by decide +kernel
theorem d_Md_cut_16 : decode b_Md_cut 16 = .ok (.iconst 0, 1) := by decide +kernel
theorem d_Md_cut_17 : decode b_Md_cut 17 = .ok (.putfield 55, 3) := by decide +kernel
theorem d_Md_cut_20 : decode b_Md_cut 20 = .ok (.aload_n 0, 1) := by decide +kernel
theorem d_Md_cut_21 : decode b_Md_cut 21 = .ok (.iconst 1, 1) := by decide +kernel
theorem d_Md_cut_22 : decode b_Md_cut 22 = .ok (.putfield 61, 3) := by decide +kernel
theorem d_Md_cut_25 : decode b_Md_cut 25 = .ok (.aload_n 0, 1) := by decide +kernel
theorem d_Md_cut_26 : decode b_Md_cut 26 = .ok (.iconst 0, 1) := by decide +kernel
theorem d_Md_cut_27 : decode b_Md_cut 27 = .ok (.putfield 64, 3) := by decide +kernel
theorem d_Md_cut_30 : decode b_Md_cut 30 = .ok (.iconst 0, 1) := by decide +kernel
theorem d_Md_cut_31 : decode b_Md_cut 31 = .ok (.istore_n 1, 1) := by decide +kernel
theorem d_Md_cut_32 : decode b_Md_cut 32 = .ok (.iload_n 1, 1) := by decide +kernel
theorem d_Md_cut_33 : decode b_Md_cut 33 = .ok (.ifCond .lt 66, 3) := by decide +kernel
theorem d_Md_cut_36 : decode b_Md_cut 36 = .ok (.iload_n 1, 1) := by decide +kernel
theorem d_Md_cut_37 : decode b_Md_cut 37 = .ok (.aload_n 0, 1) := by decide +kernel
theorem d_Md_cut_38 : decode b_Md_cut 38 = .ok (.getfield 41, 3) := by decide +kernel
theorem d_Md_cut_41 : decode b_Md_cut 41 = .ok (.if_icmp .ge 58, 3) := by decide +kernel
theorem d_Md_cut_44 : decode b_Md_cut 44 = .ok (.aload_n 0, 1) := by decide +kernel
theorem d_Md_cut_45 : decode b_Md_cut 45 = .ok (.iload_n 1, 1) := by decide +kernel
theorem d_Md_cut_46 : decode b_Md_cut 46 = .ok (.invokevirtual 48, 3) := by decide +kernel
theorem d_Md_cut_49 : decode b_Md_cut 49 = .ok (.istore_n 2, 1) := by decide +kernel
theorem d_Md_cut_50 : decode b_Md_cut 50 = .ok (.iload_n 2, 1) := by decide +kernel
theorem d_Md_cut_51 : decode b_Md_cut 51 = .ok (.invokestatic 161, 3) := by decide +kernel
theorem d_Md_cut_54 : decode b_Md_cut 54 = .ok (.ifCond .eq 9, 3) := by decide +kernel
theorem d_Md_cut_57 : decode b_Md_cut 57 = .ok (.iinc 1 1, 3) := by decide +kernel
theorem d_Md_cut_60 : decode b_Md_cut 60 = .ok (.goto 36, 3) := by decide +kernel
theorem d_Md_cut_63 : decode b_Md_cut 63 = .ok (.iload_n 2, 1) := by decide +kernel
theorem d_Md_cut_64 : decode b_Md_cut 64 = .ok (.bipush 45, 2) := by decide +kernel
theorem d_Md_cut_66 : decode b_Md_cut 66 = .ok (.if_icmp .ne 24, 3) := by decide +kernel
theorem d_Md_cut_69 : decode b_Md_cut 69 = .ok (.aload_n 0, 1) := by decide +kernel
theorem d_Md_cut_70 : decode b_Md_cut 70 = .ok (.iload_n 1, 1) := by decide +kernel
theorem d_Md_cut_71 : decode b_Md_cut 71 = .ok (.iconst 1, 1) := by decide +kernel
theorem d_Md_cut_72 : decode b_Md_cut 72 = .ok (.iadd, 1) := by decide +kernel
theorem d_Md_cut_73 : decode b_Md_cut 73 = .ok (.invokevirtual 48, 3) := by decide +kernel
theorem d_Md_cut_76 : decode b_Md_cut 76 = .ok (.bipush 45, 2) := by decide +kernel
theorem d_Md_cut_78 : decode b_Md_cut 78 = .ok (.if_icmp .ne 12, 3) := by decide +kernel
theorem d_Md_cut_81 : decode b_Md_cut 81 = .ok (.aload_n 0, 1) := by decide +kernel
theorem d_Md_cut_82 : decode b_Md_cut 82 = .ok (.iload_n 1, 1) := by decide +kernel
theorem d_Md_cut_83 : decode b_Md_cut 83 = .ok (.invokevirtual 197, 3) := by decide +kernel
theorem d_Md_cut_86 : decode b_Md_cut 86 = .ok (.istore_n 1, 1) := by decide +kernel
theorem d_Md_cut_87 : decode b_Md_cut 87 = .ok (.goto 9, 3) := by decide +kernel
theorem d_Md_cut_90 : decode b_Md_cut 90 = .ok (.aload_n 0, 1) := by decide +kernel
theorem d_Md_cut_91 : decode b_Md_cut 91 = .ok (.iload_n 1, 1) := by decide +kernel
theorem d_Md_cut_92 : decode b_Md_cut 92 = .ok (.invokevirtual 200, 3) := by decide +kernel
theorem d_Md_cut_95 : decode b_Md_cut 95 = .ok (.istore_n 1, 1) := by decide +kernel
theorem d_Md_cut_96 : decode b_Md_cut 96 = .ok (.goto (-64), 3) := by decide +kernel
theorem d_Md_cut_99 : decode b_Md_cut 99 = .ok (.aload_n 0, 1) := by decide +kernel
theorem d_Md_cut_100 : decode b_Md_cut 100 = .ok (.aload_n 0, 1) := by decide +kernel
theorem d_Md_cut_101 : decode b_Md_cut 101 = .ok (.getfield 64, 3) := by decide +kernel
theorem d_Md_cut_104 : decode b_Md_cut 104 = .ok (.ifCond .ne 10, 3) := by decide +kernel
theorem d_Md_cut_107 : decode b_Md_cut 107 = .ok (.aload_n 0, 1) := by decide +kernel
theorem d_Md_cut_108 : decode b_Md_cut 108 = .ok (.getfield 41, 3) := by decide +kernel
theorem d_Md_cut_111 : decode b_Md_cut 111 = .ok (.goto 7, 3) := by decide +kernel
theorem d_Md_cut_114 : decode b_Md_cut 114 = .ok (.aload_n 0, 1) := by decide +kernel
theorem d_Md_cut_115 : decode b_Md_cut 115 = .ok (.getfield 67, 3) := by decide +kernel
theorem d_Md_cut_118 : decode b_Md_cut 118 = .ok (.putfield 203, 3) := by decide +kernel
theorem d_Md_cut_121 : decode b_Md_cut 121 = .ok (.aload_n 0, 1) := by decide +kernel
theorem d_Md_cut_122 : decode b_Md_cut 122 = .ok (.aload_n 0, 1) := by decide +kernel
theorem d_Md_cut_123 : decode b_Md_cut 123 = .ok (.aload_n 0, 1) := by decide +kernel
theorem d_Md_cut_124 : decode b_Md_cut 124 = .ok (.getfield 203, 3) := by decide +kernel
theorem d_Md_cut_127 : decode b_Md_cut 127 = .ok (.invokevirtual 100, 3) := by decide +kernel
theorem d_Md_cut_130 : decode b_Md_cut 130 = .ok (.putfield 37, 3) := by decide +kernel
theorem d_Md_cut_133 : decode b_Md_cut 133 = .ok (.aload_n 0, 1) := by decide +kernel
theorem d_Md_cut_134 : decode b_Md_cut 134 = .ok (.iconst 0, 1) := by decide +kernel
theorem d_Md_cut_135 : decode b_Md_cut 135 = .ok (.putfield 41, 3) := by decide +kernel
theorem d_Md_cut_138 : decode b_Md_cut 138 = .ok (.aload_n 0, 1) := by decide +kernel
theorem d_Md_cut_139 : decode b_Md_cut 139 = .ok (.getfield 64, 3) := by decide +kernel
theorem d_Md_cut_142 : decode b_Md_cut 142 = .ok (.ifCond .ne 10, 3) := by decide +kernel
theorem d_Md_cut_145 : decode b_Md_cut 145 = .ok (.aload_n 0, 1) := by decide +kernel
theorem d_Md_cut_146 : decode b_Md_cut 146 = .ok (.getfield 97, 3) := by decide +kernel
theorem d_Md_cut_149 : decode b_Md_cut 149 = .ok (.goto 8, 3) := by decide +kernel
theorem d_Md_cut_152 : decode b_Md_cut 152 = .ok (.aload_n 0, 1) := by decide +kernel
theorem d_Md_cut_153 : decode b_Md_cut 153 = .ok (.getfield 64, 3) := by decide +kernel
theorem d_Md_cut_156 : decode b_Md_cut 156 = .ok (.ineg, 1) := by decide +kernel
theorem d_Md_cut_157 : decode b_Md_cut 157 = .ok (.ireturn, 1) := by decide +kernel
theorem d_Md_place_0 : decode b_Md_place 0 = .ok (.aload_n 0, 1) := by decide +kernel
theorem d_Md_place_1 : decode b_Md_place 1 = .ok (.getfield 203, 3) := by decide +kernel
theorem d_Md_place_4 : decode b_Md_place 4 = .ok (.ireturn, 1) := by decide +kernel
theorem d_Md_wrongLine_0 : decode b_Md_wrongLine 0 = .ok (.aload_n 0, 1) := by decide +kernel
theorem d_Md_wrongLine_1 : decode b_Md_wrongLine 1 = .ok (.getfield 37, 3) := by decide +kernel
theorem d_Md_wrongLine_4 : decode b_Md_wrongLine 4 = .ok (.ireturn, 1) := by decide +kernel
theorem d_Md_words_0 : decode b_Md_words 0 = .ok (.aload_n 0, 1) := by decide +kernel
theorem d_Md_words_1 : decode b_Md_words 1 = .ok (.getfield 97, 3) := by decide +kernel
theorem d_Md_words_4 : decode b_Md_words 4 = .ok (.ireturn, 1) := by decide +kernel
theorem d_Md_isWord_0 : decode b_Md_isWord 0 = .ok (.iload_n 1, 1) := by decide +kernel
theorem d_Md_isWord_1 : decode b_Md_isWord 1 = .ok (.ifCond .lt 15, 3) := by decide +kernel
theorem d_Md_isWord_4 : decode b_Md_isWord 4 = .ok (.iload_n 1, 1) := by decide +kernel
theorem d_Md_isWord_5 : decode b_Md_isWord 5 = .ok (.aload_n 0, 1) := by decide +kernel
theorem d_Md_isWord_6 : decode b_Md_isWord 6 = .ok (.getfield 97, 3) := by decide +kernel
theorem d_Md_isWord_9 : decode b_Md_isWord 9 = .ok (.if_icmp .ge 7, 3) := by decide +kernel
theorem d_Md_isWord_12 : decode b_Md_isWord 12 = .ok (.iconst 1, 1) := by decide +kernel
theorem d_Md_isWord_13 : decode b_Md_isWord 13 = .ok (.goto 4, 3) := by decide +kernel
theorem d_Md_isWord_16 : decode b_Md_isWord 16 = .ok (.iconst 0, 1) := by decide +kernel
theorem d_Md_isWord_17 : decode b_Md_isWord 17 = .ok (.ireturn, 1) := by decide +kernel
theorem d_Md_kind_0 : decode b_Md_kind 0 = .ok (.aload_n 0, 1) := by decide +kernel
theorem d_Md_kind_1 : decode b_Md_kind 1 = .ok (.iload_n 1, 1) := by decide +kernel
theorem d_Md_kind_2 : decode b_Md_kind 2 = .ok (.invokevirtual 206, 3) := by decide +kernel
theorem d_Md_kind_5 : decode b_Md_kind 5 = .ok (.ifCond .eq 12, 3) := by decide +kernel
theorem d_Md_kind_8 : decode b_Md_kind 8 = .ok (.aload_n 0, 1) := by decide +kernel
theorem d_Md_kind_9 : decode b_Md_kind 9 = .ok (.getfield 14, 3) := by decide +kernel
theorem d_Md_kind_12 : decode b_Md_kind 12 = .ok (.iload_n 1, 1) := by decide +kernel
theorem d_Md_kind_13 : decode b_Md_kind 13 = .ok (.iaload, 1) := by decide +kernel
theorem d_Md_kind_14 : decode b_Md_kind 14 = .ok (.goto 4, 3) := by decide +kernel
theorem d_Md_kind_17 : decode b_Md_kind 17 = .ok (.iconst (-1), 1) := by decide +kernel
theorem d_Md_kind_18 : decode b_Md_kind 18 = .ok (.ireturn, 1) := by decide +kernel
theorem d_Md_line_0 : decode b_Md_line 0 = .ok (.aload_n 0, 1) := by decide +kernel
theorem d_Md_line_1 : decode b_Md_line 1 = .ok (.iload_n 1, 1) := by decide +kernel
theorem d_Md_line_2 : decode b_Md_line 2 = .ok (.invokevirtual 206, 3) := by decide +kernel
theorem d_Md_line_5 : decode b_Md_line 5 = .ok (.ifCond .eq 12, 3) := by decide +kernel
theorem d_Md_line_8 : decode b_Md_line 8 = .ok (.aload_n 0, 1) := by decide +kernel
theorem d_Md_line_9 : decode b_Md_line 9 = .ok (.getfield 18, 3) := by decide +kernel
theorem d_Md_line_12 : decode b_Md_line 12 = .ok (.iload_n 1, 1) := by decide +kernel
theorem d_Md_line_13 : decode b_Md_line 13 = .ok (.iaload, 1) := by decide +kernel
theorem d_Md_line_14 : decode b_Md_line 14 = .ok (.goto 4, 3) := by decide +kernel
theorem d_Md_line_17 : decode b_Md_line 17 = .ok (.iconst (-1), 1) := by decide +kernel
theorem d_Md_line_18 : decode b_Md_line 18 = .ok (.ireturn, 1) := by decide +kernel
theorem d_Md_begin_0 : decode b_Md_begin 0 = .ok (.aload_n 0, 1) := by decide +kernel
theorem d_Md_begin_1 : decode b_Md_begin 1 = .ok (.iload_n 1, 1) := by decide +kernel
theorem d_Md_begin_2 : decode b_Md_begin 2 = .ok (.invokevirtual 206, 3) := by decide +kernel
theorem d_Md_begin_5 : decode b_Md_begin 5 = .ok (.ifCond .eq 12, 3) := by decide +kernel
theorem d_Md_begin_8 : decode b_Md_begin 8 = .ok (.aload_n 0, 1) := by decide +kernel
theorem d_Md_begin_9 : decode b_Md_begin 9 = .ok (.getfield 21, 3) := by decide +kernel
theorem d_Md_begin_12 : decode b_Md_begin 12 = .ok (.iload_n 1, 1) := by decide +kernel
theorem d_Md_begin_13 : decode b_Md_begin 13 = .ok (.iaload, 1) := by decide +kernel
theorem d_Md_begin_14 : decode b_Md_begin 14 = .ok (.goto 4, 3) := by decide +kernel
theorem d_Md_begin_17 : decode b_Md_begin 17 = .ok (.iconst (-1), 1) := by decide +kernel
theorem d_Md_begin_18 : decode b_Md_begin 18 = .ok (.ireturn, 1) := by decide +kernel
theorem d_Md_length_0 : decode b_Md_length 0 = .ok (.aload_n 0, 1) := by decide +kernel
theorem d_Md_length_1 : decode b_Md_length 1 = .ok (.iload_n 1, 1) := by decide +kernel
theorem d_Md_length_2 : decode b_Md_length 2 = .ok (.invokevirtual 206, 3) := by decide +kernel
theorem d_Md_length_5 : decode b_Md_length 5 = .ok (.ifCond .eq 12, 3) := by decide +kernel
theorem d_Md_length_8 : decode b_Md_length 8 = .ok (.aload_n 0, 1) := by decide +kernel
theorem d_Md_length_9 : decode b_Md_length 9 = .ok (.getfield 24, 3) := by decide +kernel
theorem d_Md_length_12 : decode b_Md_length 12 = .ok (.iload_n 1, 1) := by decide +kernel
theorem d_Md_length_13 : decode b_Md_length 13 = .ok (.iaload, 1) := by decide +kernel
theorem d_Md_length_14 : decode b_Md_length 14 = .ok (.goto 4, 3) := by decide +kernel
theorem d_Md_length_17 : decode b_Md_length 17 = .ok (.iconst (-1), 1) := by decide +kernel
theorem d_Md_length_18 : decode b_Md_length 18 = .ok (.ireturn, 1) := by decide +kernel
theorem d_Md_text_0 : decode b_Md_text 0 = .ok (.aload_n 0, 1) := by decide +kernel
theorem d_Md_text_1 : decode b_Md_text 1 = .ok (.iload_n 1, 1) := by decide +kernel
theorem d_Md_text_2 : decode b_Md_text 2 = .ok (.invokevirtual 206, 3) := by decide +kernel
theorem d_Md_text_5 : decode b_Md_text 5 = .ok (.ifCond .eq 12, 3) := by decide +kernel
theorem d_Md_text_8 : decode b_Md_text 8 = .ok (.aload_n 0, 1) := by decide +kernel
theorem d_Md_text_9 : decode b_Md_text 9 = .ok (.getfield 27, 3) := by decide +kernel
theorem d_Md_text_12 : decode b_Md_text 12 = .ok (.iload_n 1, 1) := by decide +kernel
theorem d_Md_text_13 : decode b_Md_text 13 = .ok (.iaload, 1) := by decide +kernel
theorem d_Md_text_14 : decode b_Md_text 14 = .ok (.goto 4, 3) := by decide +kernel
theorem d_Md_text_17 : decode b_Md_text 17 = .ok (.iconst (-1), 1) := by decide +kernel
theorem d_Md_text_18 : decode b_Md_text 18 = .ok (.ireturn, 1) := by decide +kernel
theorem d_Md_texts_0 : decode b_Md_texts 0 = .ok (.aload_n 0, 1) := by decide +kernel
theorem d_Md_texts_1 : decode b_Md_texts 1 = .ok (.getfield 94, 3) := by decide +kernel
theorem d_Md_texts_4 : decode b_Md_texts 4 = .ok (.ireturn, 1) := by decide +kernel
theorem d_Md_isText_0 : decode b_Md_isText 0 = .ok (.iload_n 1, 1) := by decide +kernel
theorem d_Md_isText_1 : decode b_Md_isText 1 = .ok (.ifCond .lt 15, 3) := by decide +kernel
theorem d_Md_isText_4 : decode b_Md_isText 4 = .ok (.iload_n 1, 1) := by decide +kernel
theorem d_Md_isText_5 : decode b_Md_isText 5 = .ok (.aload_n 0, 1) := by decide +kernel
theorem d_Md_isText_6 : decode b_Md_isText 6 = .ok (.getfield 94, 3) := by decide +kernel
theorem d_Md_isText_9 : decode b_Md_isText 9 = .ok (.if_icmp .ge 7, 3) := by decide +kernel
theorem d_Md_isText_12 : decode b_Md_isText 12 = .ok (.iconst 1, 1) := by decide +kernel
theorem d_Md_isText_13 : decode b_Md_isText 13 = .ok (.goto 4, 3) := by decide +kernel
theorem d_Md_isText_16 : decode b_Md_isText 16 = .ok (.iconst 0, 1) := by decide +kernel
theorem d_Md_isText_17 : decode b_Md_isText 17 = .ok (.ireturn, 1) := by decide +kernel
theorem d_Md_size_0 : decode b_Md_size 0 = .ok (.aload_n 0, 1) := by decide +kernel
theorem d_Md_size_1 : decode b_Md_size 1 = .ok (.iload_n 1, 1) := by decide +kernel
theorem d_Md_size_2 : decode b_Md_size 2 = .ok (.invokevirtual 209, 3) := by decide +kernel
theorem d_Md_size_5 : decode b_Md_size 5 = .ok (.ifCond .eq 21, 3) := by decide +kernel
theorem d_Md_size_8 : decode b_Md_size 8 = .ok (.aload_n 0, 1) := by decide +kernel
theorem d_Md_size_9 : decode b_Md_size 9 = .ok (.getfield 34, 3) := by decide +kernel
theorem d_Md_size_12 : decode b_Md_size 12 = .ok (.iload_n 1, 1) := by decide +kernel
theorem d_Md_size_13 : decode b_Md_size 13 = .ok (.iconst 1, 1) := by decide +kernel
theorem d_Md_size_14 : decode b_Md_size 14 = .ok (.iadd, 1) := by decide +kernel
theorem d_Md_size_15 : decode b_Md_size 15 = .ok (.iaload, 1) := by decide +kernel
theorem d_Md_size_16 : decode b_Md_size 16 = .ok (.aload_n 0, 1) := by decide +kernel
theorem d_Md_size_17 : decode b_Md_size 17 = .ok (.getfield 34, 3) := by decide +kernel
theorem d_Md_size_20 : decode b_Md_size 20 = .ok (.iload_n 1, 1) := by decide +kernel
theorem d_Md_size_21 : decode b_Md_size 21 = .ok (.iaload, 1) := by decide +kernel
theorem d_Md_size_22 : decode b_Md_size 22 = .ok (.isub, 1) := by decide +kernel
theorem d_Md_size_23 : decode b_Md_size 23 = .ok (.goto 4, 3) := by decide +kernel
theorem d_Md_size_26 : decode b_Md_size 26 = .ok (.iconst (-1), 1) := by decide +kernel
theorem d_Md_size_27 : decode b_Md_size 27 = .ok (.ireturn, 1) := by decide +kernel
theorem d_Md_at_0 : decode b_Md_at 0 = .ok (.aload_n 0, 1) := by decide +kernel
theorem d_Md_at_1 : decode b_Md_at 1 = .ok (.iload_n 1, 1) := by decide +kernel
theorem d_Md_at_2 : decode b_Md_at 2 = .ok (.invokevirtual 209, 3) := by decide +kernel
theorem d_Md_at_5 : decode b_Md_at 5 = .ok (.ifCond .eq 46, 3) := by decide +kernel
theorem d_Md_at_8 : decode b_Md_at 8 = .ok (.iload_n 2, 1) := by decide +kernel
theorem d_Md_at_9 : decode b_Md_at 9 = .ok (.ifCond .lt 42, 3) := by decide +kernel
theorem d_Md_at_12 : decode b_Md_at 12 = .ok (.iload_n 2, 1) := by decide +kernel
theorem d_Md_at_13 : decode b_Md_at 13 = .ok (.aload_n 0, 1) := by decide +kernel
theorem d_Md_at_14 : decode b_Md_at 14 = .ok (.getfield 34, 3) := by decide +kernel
theorem d_Md_at_17 : decode b_Md_at 17 = .ok (.iload_n 1, 1) := by decide +kernel
theorem d_Md_at_18 : decode b_Md_at 18 = .ok (.iconst 1, 1) := by decide +kernel
theorem d_Md_at_19 : decode b_Md_at 19 = .ok (.iadd, 1) := by decide +kernel
theorem d_Md_at_20 : decode b_Md_at 20 = .ok (.iaload, 1) := by decide +kernel
theorem d_Md_at_21 : decode b_Md_at 21 = .ok (.aload_n 0, 1) := by decide +kernel
theorem d_Md_at_22 : decode b_Md_at 22 = .ok (.getfield 34, 3) := by decide +kernel
theorem d_Md_at_25 : decode b_Md_at 25 = .ok (.iload_n 1, 1) := by decide +kernel
theorem d_Md_at_26 : decode b_Md_at 26 = .ok (.iaload, 1) := by decide +kernel
theorem d_Md_at_27 : decode b_Md_at 27 = .ok (.isub, 1) := by decide +kernel
theorem d_Md_at_28 : decode b_Md_at 28 = .ok (.if_icmp .ge 23, 3) := by decide +kernel
theorem d_Md_at_31 : decode b_Md_at 31 = .ok (.aload_n 0, 1) := by decide +kernel
theorem d_Md_at_32 : decode b_Md_at 32 = .ok (.getfield 31, 3) := by decide +kernel
theorem d_Md_at_35 : decode b_Md_at 35 = .ok (.aload_n 0, 1) := by decide +kernel
theorem d_Md_at_36 : decode b_Md_at 36 = .ok (.getfield 34, 3) := by decide +kernel
theorem d_Md_at_39 : decode b_Md_at 39 = .ok (.iload_n 1, 1) := by decide +kernel
theorem d_Md_at_40 : decode b_Md_at 40 = .ok (.iaload, 1) := by decide +kernel
theorem d_Md_at_41 : decode b_Md_at 41 = .ok (.iload_n 2, 1) := by decide +kernel
theorem d_Md_at_42 : decode b_Md_at 42 = .ok (.iadd, 1) := by decide +kernel
theorem d_Md_at_43 : decode b_Md_at 43 = .ok (.baload, 1) := by decide +kernel
theorem d_Md_at_44 : decode b_Md_at 44 = .ok (.sipush 255, 3) := by decide +kernel
theorem d_Md_at_47 : decode b_Md_at 47 = .ok (.iand, 1) := by decide +kernel
theorem d_Md_at_48 : decode b_Md_at 48 = .ok (.goto 4, 3) := by decide +kernel
theorem d_Md_at_51 : decode b_Md_at 51 = .ok (.iconst (-1), 1) := by decide +kernel
theorem d_Md_at_52 : decode b_Md_at 52 = .ok (.ireturn, 1) := by decide +kernel
theorem d_Md_find_0 : decode b_Md_find 0 = .ok (.iconst (-1), 1) := by decide +kernel
theorem d_Md_find_1 : decode b_Md_find 1 = .ok (.istore_n 1, 1) := by decide +kernel
theorem d_Md_find_2 : decode b_Md_find 2 = .ok (.iconst 0, 1) := by decide +kernel
theorem d_Md_find_3 : decode b_Md_find 3 = .ok (.istore_n 2, 1) := by decide +kernel
theorem d_Md_find_4 : decode b_Md_find 4 = .ok (.iload_n 2, 1) := by decide +kernel
theorem d_Md_find_5 : decode b_Md_find 5 = .ok (.aload_n 0, 1) := by decide +kernel
theorem d_Md_find_6 : decode b_Md_find 6 = .ok (.getfield 94, 3) := by decide +kernel
theorem d_Md_find_9 : decode b_Md_find 9 = .ok (.if_icmp .ge 103, 3) := by decide +kernel
theorem d_Md_find_12 : decode b_Md_find 12 = .ok (.iload_n 1, 1) := by decide +kernel
theorem d_Md_find_13 : decode b_Md_find 13 = .ok (.ifCond .ge 99, 3) := by decide +kernel
theorem d_Md_find_16 : decode b_Md_find 16 = .ok (.aload_n 0, 1) := by decide +kernel
theorem d_Md_find_17 : decode b_Md_find 17 = .ok (.getfield 34, 3) := by decide +kernel
theorem d_Md_find_20 : decode b_Md_find 20 = .ok (.iload_n 2, 1) := by decide +kernel
theorem d_Md_find_21 : decode b_Md_find 21 = .ok (.iconst 1, 1) := by decide +kernel
theorem d_Md_find_22 : decode b_Md_find 22 = .ok (.iadd, 1) := by decide +kernel
theorem d_Md_find_23 : decode b_Md_find 23 = .ok (.iaload, 1) := by decide +kernel
theorem d_Md_find_24 : decode b_Md_find 24 = .ok (.aload_n 0, 1) := by decide +kernel
theorem d_Md_find_25 : decode b_Md_find 25 = .ok (.getfield 34, 3) := by decide +kernel
theorem d_Md_find_28 : decode b_Md_find 28 = .ok (.iload_n 2, 1) := by decide +kernel
theorem d_Md_find_29 : decode b_Md_find 29 = .ok (.iaload, 1) := by decide +kernel
theorem d_Md_find_30 : decode b_Md_find 30 = .ok (.isub, 1) := by decide +kernel
theorem d_Md_find_31 : decode b_Md_find 31 = .ok (.aload_n 0, 1) := by decide +kernel
theorem d_Md_find_32 : decode b_Md_find 32 = .ok (.getfield 41, 3) := by decide +kernel
theorem d_Md_find_35 : decode b_Md_find 35 = .ok (.if_icmp .ne 7, 3) := by decide +kernel
theorem d_Md_find_38 : decode b_Md_find 38 = .ok (.iconst 1, 1) := by decide +kernel
theorem d_Md_find_39 : decode b_Md_find 39 = .ok (.goto 4, 3) := by decide +kernel
theorem d_Md_find_42 : decode b_Md_find 42 = .ok (.iconst 0, 1) := by decide +kernel
theorem d_Md_find_43 : decode b_Md_find 43 = .ok (.istore_n 3, 1) := by decide +kernel
theorem d_Md_find_44 : decode b_Md_find 44 = .ok (.iconst 0, 1) := by decide +kernel
theorem d_Md_find_45 : decode b_Md_find 45 = .ok (.istore 4, 2) := by decide +kernel
theorem d_Md_find_47 : decode b_Md_find 47 = .ok (.iload 4, 2) := by decide +kernel
theorem d_Md_find_49 : decode b_Md_find 49 = .ok (.aload_n 0, 1) := by decide +kernel
theorem d_Md_find_50 : decode b_Md_find 50 = .ok (.getfield 41, 3) := by decide +kernel
theorem d_Md_find_53 : decode b_Md_find 53 = .ok (.if_icmp .ge 43, 3) := by decide +kernel
theorem d_Md_find_56 : decode b_Md_find 56 = .ok (.iload_n 3, 1) := by decide +kernel
theorem d_Md_find_57 : decode b_Md_find 57 = .ok (.ifCond .eq 39, 3) := by decide +kernel
theorem d_Md_find_60 : decode b_Md_find 60 = .ok (.aload_n 0, 1) := by decide +kernel
theorem d_Md_find_61 : decode b_Md_find 61 = .ok (.getfield 31, 3) := by decide +kernel
theorem d_Md_find_64 : decode b_Md_find 64 = .ok (.aload_n 0, 1) := by decide +kernel
theorem d_Md_find_65 : decode b_Md_find 65 = .ok (.getfield 34, 3) := by decide +kernel
theorem d_Md_find_68 : decode b_Md_find 68 = .ok (.iload_n 2, 1) := by decide +kernel
theorem d_Md_find_69 : decode b_Md_find 69 = .ok (.iaload, 1) := by decide +kernel
theorem d_Md_find_70 : decode b_Md_find 70 = .ok (.iload 4, 2) := by decide +kernel
theorem d_Md_find_72 : decode b_Md_find 72 = .ok (.iadd, 1) := by decide +kernel
theorem d_Md_find_73 : decode b_Md_find 73 = .ok (.baload, 1) := by decide +kernel
theorem d_Md_find_74 : decode b_Md_find 74 = .ok (.aload_n 0, 1) := by decide +kernel
theorem d_Md_find_75 : decode b_Md_find 75 = .ok (.getfield 8, 3) := by decide +kernel
theorem d_Md_find_78 : decode b_Md_find 78 = .ok (.iload 4, 2) := by decide +kernel
theorem d_Md_find_80 : decode b_Md_find 80 = .ok (.baload, 1) := by decide +kernel
theorem d_Md_find_81 : decode b_Md_find 81 = .ok (.if_icmp .ne 7, 3) := by decide +kernel
theorem d_Md_find_84 : decode b_Md_find 84 = .ok (.iconst 1, 1) := by decide +kernel
theorem d_Md_find_85 : decode b_Md_find 85 = .ok (.goto 4, 3) := by decide +kernel
theorem d_Md_find_88 : decode b_Md_find 88 = .ok (.iconst 0, 1) := by decide +kernel
theorem d_Md_find_89 : decode b_Md_find 89 = .ok (.istore_n 3, 1) := by decide +kernel
theorem d_Md_find_90 : decode b_Md_find 90 = .ok (.iinc 4 1, 3) := by decide +kernel
theorem d_Md_find_93 : decode b_Md_find 93 = .ok (.goto (-46), 3) := by decide +kernel
theorem d_Md_find_96 : decode b_Md_find 96 = .ok (.iload_n 3, 1) := by decide +kernel
theorem d_Md_find_97 : decode b_Md_find 97 = .ok (.ifCond .eq 7, 3) := by decide +kernel
theorem d_Md_find_100 : decode b_Md_find 100 = .ok (.iload_n 2, 1) := by decide +kernel
theorem d_Md_find_101 : decode b_Md_find 101 = .ok (.goto 4, 3) := by decide +kernel
theorem d_Md_find_104 : decode b_Md_find 104 = .ok (.iconst (-1), 1) := by decide +kernel
theorem d_Md_find_105 : decode b_Md_find 105 = .ok (.istore_n 1, 1) := by decide +kernel
theorem d_Md_find_106 : decode b_Md_find 106 = .ok (.iinc 2 1, 3) := by decide +kernel
theorem d_Md_find_109 : decode b_Md_find 109 = .ok (.goto (-105), 3) := by decide +kernel
theorem d_Md_find_112 : decode b_Md_find 112 = .ok (.iload_n 1, 1) := by decide +kernel
theorem d_Md_find_113 : decode b_Md_find 113 = .ok (.ireturn, 1) := by decide +kernel
