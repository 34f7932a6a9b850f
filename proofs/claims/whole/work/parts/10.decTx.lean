theorem d_Tx_init_0 : decode b_Tx_init 0 = .ok (.aload_n 0, 1) := by decide +kernel
theorem d_Tx_init_1 : decode b_Tx_init 1 = .ok (.invokespecial 5, 3) := by decide +kernel
theorem d_Tx_init_4 : decode b_Tx_init 4 = .ok (.aload_n 0, 1) := by decide +kernel
theorem d_Tx_init_5 : decode b_Tx_init 5 = .ok (.bipush 64, 2) := by decide +kernel
theorem d_Tx_init_7 : decode b_Tx_init 7 = .ok (.newarray .byte, 2) := by decide +kernel
theorem d_Tx_init_9 : decode b_Tx_init 9 = .ok (.putfield 11, 3) := by decide +kernel
theorem d_Tx_init_12 : decode b_Tx_init 12 = .ok (.aload_n 0, 1) := by decide +kernel
theorem d_Tx_init_13 : decode b_Tx_init 13 = .ok (.bipush 16, 2) := by decide +kernel
theorem d_Tx_init_15 : decode b_Tx_init 15 = .ok (.newarray .int, 2) := by decide +kernel
theorem d_Tx_init_17 : decode b_Tx_init 17 = .ok (.putfield 17, 3) := by decide +kernel
theorem d_Tx_init_20 : decode b_Tx_init 20 = .ok (.aload_n 0, 1) := by decide +kernel
theorem d_Tx_init_21 : decode b_Tx_init 21 = .ok (.bipush 16, 2) := by decide +kernel
theorem d_Tx_init_23 : decode b_Tx_init 23 = .ok (.newarray .int, 2) := by decide +kernel
theorem d_Tx_init_25 : decode b_Tx_init 25 = .ok (.putfield 21, 3) := by decide +kernel
theorem d_Tx_init_28 : decode b_Tx_init 28 = .ok (.aload_n 0, 1) := by decide +kernel
theorem d_Tx_init_29 : decode b_Tx_init 29 = .ok (.bipush 16, 2) := by decide +kernel
theorem d_Tx_init_31 : decode b_Tx_init 31 = .ok (.newarray .int, 2) := by decide +kernel
theorem d_Tx_init_33 : decode b_Tx_init 33 = .ok (.putfield 24, 3) := by decide +kernel
theorem d_Tx_init_36 : decode b_Tx_init 36 = .ok (.aload_n 0, 1) := by decide +kernel
theorem d_Tx_init_37 : decode b_Tx_init 37 = .ok (.bipush 16, 2) := by decide +kernel
theorem d_Tx_init_39 : decode b_Tx_init 39 = .ok (.newarray .int, 2) := by decide +kernel
theorem d_Tx_init_41 : decode b_Tx_init 41 = .ok (.putfield 27, 3) := by decide +kernel
theorem d_Tx_init_44 : decode b_Tx_init 44 = .ok (.aload_n 0, 1) := by decide +kernel
theorem d_Tx_init_45 : decode b_Tx_init 45 = .ok (.iconst 0, 1) := by decide +kernel
theorem d_Tx_init_46 : decode b_Tx_init 46 = .ok (.putfield 30, 3) := by decide +kernel
theorem d_Tx_init_49 : decode b_Tx_init 49 = .ok (.aload_n 0, 1) := by decide +kernel
theorem d_Tx_init_50 : decode b_Tx_init 50 = .ok (.iconst 0, 1) := by decide +kernel
theorem d_Tx_init_51 : decode b_Tx_init 51 = .ok (.putfield 34, 3) := by decide +kernel
theorem d_Tx_init_54 : decode b_Tx_init 54 = .ok (.aload_n 0, 1) := by decide +kernel
theorem d_Tx_init_55 : decode b_Tx_init 55 = .ok (.iconst 0, 1) := by decide +kernel
theorem d_Tx_init_56 : decode b_Tx_init 56 = .ok (.putfield 37, 3) := by decide +kernel
theorem d_Tx_init_59 : decode b_Tx_init 59 = .ok (.aload_n 0, 1) := by decide +kernel
theorem d_Tx_init_60 : decode b_Tx_init 60 = .ok (.sipush 256, 3) := by decide +kernel
theorem d_Tx_init_63 : decode b_Tx_init 63 = .ok (.newarray .int, 2) := by decide +kernel
theorem d_Tx_init_65 : decode b_Tx_init 65 = .ok (.putfield 40, 3) := by decide +kernel
theorem d_Tx_init_68 : decode b_Tx_init 68 = .ok (.return_, 1) := by decide +kernel
theorem d_Tx_clearFor_0 : decode b_Tx_clearFor 0 = .ok (.aload_n 0, 1) := by decide +kernel
theorem d_Tx_clearFor_1 : decode b_Tx_clearFor 1 = .ok (.aload_n 0, 1) := by decide +kernel
theorem d_Tx_clearFor_2 : decode b_Tx_clearFor 2 = .ok (.getfield 11, 3) := by decide +kernel
theorem d_Tx_clearFor_5 : decode b_Tx_clearFor 5 = .ok (.iload_n 1, 1) := by decide +kernel
theorem d_Tx_clearFor_6 : decode b_Tx_clearFor 6 = .ok (.ldc 45, 2) := by decide +kernel
theorem d_Tx_clearFor_8 : decode b_Tx_clearFor 8 = .ok (.invokestatic 46, 3) := by decide +kernel
theorem d_Tx_clearFor_11 : decode b_Tx_clearFor 11 = .ok (.putfield 11, 3) := by decide +kernel
theorem d_Tx_clearFor_14 : decode b_Tx_clearFor 14 = .ok (.aload_n 0, 1) := by decide +kernel
theorem d_Tx_clearFor_15 : decode b_Tx_clearFor 15 = .ok (.getfield 40, 3) := by decide +kernel
theorem d_Tx_clearFor_18 : decode b_Tx_clearFor 18 = .ok (.iconst (-1), 1) := by decide +kernel
theorem d_Tx_clearFor_19 : decode b_Tx_clearFor 19 = .ok (.invokestatic 52, 3) := by decide +kernel
theorem d_Tx_clearFor_22 : decode b_Tx_clearFor 22 = .ok (.aload_n 0, 1) := by decide +kernel
theorem d_Tx_clearFor_23 : decode b_Tx_clearFor 23 = .ok (.iconst 0, 1) := by decide +kernel
theorem d_Tx_clearFor_24 : decode b_Tx_clearFor 24 = .ok (.putfield 30, 3) := by decide +kernel
theorem d_Tx_clearFor_27 : decode b_Tx_clearFor 27 = .ok (.aload_n 0, 1) := by decide +kernel
theorem d_Tx_clearFor_28 : decode b_Tx_clearFor 28 = .ok (.iconst 0, 1) := by decide +kernel
theorem d_Tx_clearFor_29 : decode b_Tx_clearFor 29 = .ok (.putfield 34, 3) := by decide +kernel
theorem d_Tx_clearFor_32 : decode b_Tx_clearFor 32 = .ok (.aload_n 0, 1) := by decide +kernel
theorem d_Tx_clearFor_33 : decode b_Tx_clearFor 33 = .ok (.iconst 0, 1) := by decide +kernel
theorem d_Tx_clearFor_34 : decode b_Tx_clearFor 34 = .ok (.putfield 37, 3) := by decide +kernel
theorem d_Tx_clearFor_37 : decode b_Tx_clearFor 37 = .ok (.return_, 1) := by decide +kernel
theorem d_Tx_makeRoom_0 : decode b_Tx_makeRoom 0 = .ok (.aload_n 0, 1) := by decide +kernel
theorem d_Tx_makeRoom_1 : decode b_Tx_makeRoom 1 = .ok (.getfield 30, 3) := by decide +kernel
theorem d_Tx_makeRoom_4 : decode b_Tx_makeRoom 4 = .ok (.aload_n 0, 1) := by decide +kernel
theorem d_Tx_makeRoom_5 : decode b_Tx_makeRoom 5 = .ok (.getfield 17, 3) := by decide +kernel
theorem d_Tx_makeRoom_8 : decode b_Tx_makeRoom 8 = .ok (.arraylength, 1) := by decide +kernel
theorem d_Tx_makeRoom_9 : decode b_Tx_makeRoom 9 = .ok (.if_icmp .lt 13, 3) := by decide +kernel
theorem d_Tx_makeRoom_12 : decode b_Tx_makeRoom 12 = .ok (.aload_n 0, 1) := by decide +kernel
theorem d_Tx_makeRoom_13 : decode b_Tx_makeRoom 13 = .ok (.getfield 30, 3) := by decide +kernel
theorem d_Tx_makeRoom_16 : decode b_Tx_makeRoom 16 = .ok (.sipush 16384, 3) := by decide +kernel
theorem d_Tx_makeRoom_19 : decode b_Tx_makeRoom 19 = .ok (.if_icmp .lt 4, 3) := by decide +kernel
theorem d_Tx_makeRoom_22 : decode b_Tx_makeRoom 22 = .ok (.return_, 1) := by decide +kernel
theorem d_Tx_makeRoom_23 : decode b_Tx_makeRoom 23 = .ok (.aload_n 0, 1) := by decide +kernel
theorem d_Tx_makeRoom_24 : decode b_Tx_makeRoom 24 = .ok (.aload_n 0, 1) := by decide +kernel
theorem d_Tx_makeRoom_25 : decode b_Tx_makeRoom 25 = .ok (.getfield 17, 3) := by decide +kernel
theorem d_Tx_makeRoom_28 : decode b_Tx_makeRoom 28 = .ok (.aload_n 0, 1) := by decide +kernel
theorem d_Tx_makeRoom_29 : decode b_Tx_makeRoom 29 = .ok (.getfield 30, 3) := by decide +kernel
theorem d_Tx_makeRoom_32 : decode b_Tx_makeRoom 32 = .ok (.iconst 1, 1) := by decide +kernel
theorem d_Tx_makeRoom_33 : decode b_Tx_makeRoom 33 = .ok (.iadd, 1) := by decide +kernel
theorem d_Tx_makeRoom_34 : decode b_Tx_makeRoom 34 = .ok (.sipush 16384, 3) := by decide +kernel
theorem d_Tx_makeRoom_37 : decode b_Tx_makeRoom 37 = .ok (.invokestatic 83, 3) := by decide +kernel
theorem d_Tx_makeRoom_40 : decode b_Tx_makeRoom 40 = .ok (.putfield 17, 3) := by decide +kernel
theorem d_Tx_makeRoom_43 : decode b_Tx_makeRoom 43 = .ok (.aload_n 0, 1) := by decide +kernel
theorem d_Tx_makeRoom_44 : decode b_Tx_makeRoom 44 = .ok (.aload_n 0, 1) := by decide +kernel
theorem d_Tx_makeRoom_45 : decode b_Tx_makeRoom 45 = .ok (.getfield 21, 3) := by decide +kernel
theorem d_Tx_makeRoom_48 : decode b_Tx_makeRoom 48 = .ok (.aload_n 0, 1) := by decide +kernel
theorem d_Tx_makeRoom_49 : decode b_Tx_makeRoom 49 = .ok (.getfield 30, 3) := by decide +kernel
theorem d_Tx_makeRoom_52 : decode b_Tx_makeRoom 52 = .ok (.iconst 1, 1) := by decide +kernel
theorem d_Tx_makeRoom_53 : decode b_Tx_makeRoom 53 = .ok (.iadd, 1) := by decide +kernel
theorem d_Tx_makeRoom_54 : decode b_Tx_makeRoom 54 = .ok (.sipush 16384, 3) := by decide +kernel
theorem d_Tx_makeRoom_57 : decode b_Tx_makeRoom 57 = .ok (.invokestatic 83, 3) := by decide +kernel
theorem d_Tx_makeRoom_60 : decode b_Tx_makeRoom 60 = .ok (.putfield 21, 3) := by decide +kernel
theorem d_Tx_makeRoom_63 : decode b_Tx_makeRoom 63 = .ok (.aload_n 0, 1) := by decide +kernel
theorem d_Tx_makeRoom_64 : decode b_Tx_makeRoom 64 = .ok (.aload_n 0, 1) := by decide +kernel
theorem d_Tx_makeRoom_65 : decode b_Tx_makeRoom 65 = .ok (.getfield 24, 3) := by decide +kernel
theorem d_Tx_makeRoom_68 : decode b_Tx_makeRoom 68 = .ok (.aload_n 0, 1) := by decide +kernel
theorem d_Tx_makeRoom_69 : decode b_Tx_makeRoom 69 = .ok (.getfield 30, 3) := by decide +kernel
theorem d_Tx_makeRoom_72 : decode b_Tx_makeRoom 72 = .ok (.iconst 1, 1) := by decide +kernel
theorem d_Tx_makeRoom_73 : decode b_Tx_makeRoom 73 = .ok (.iadd, 1) := by decide +kernel
theorem d_Tx_makeRoom_74 : decode b_Tx_makeRoom 74 = .ok (.sipush 16384, 3) := by decide +kernel
theorem d_Tx_makeRoom_77 : decode b_Tx_makeRoom 77 = .ok (.invokestatic 83, 3) := by decide +kernel
theorem d_Tx_makeRoom_80 : decode b_Tx_makeRoom 80 = .ok (.putfield 24, 3) := by decide +kernel
theorem d_Tx_makeRoom_83 : decode b_Tx_makeRoom 83 = .ok (.aload_n 0, 1) := by decide +kernel
theorem d_Tx_makeRoom_84 : decode b_Tx_makeRoom 84 = .ok (.aload_n 0, 1) := by decide +kernel
theorem d_Tx_makeRoom_85 : decode b_Tx_makeRoom 85 = .ok (.getfield 27, 3) := by decide +kernel
theorem d_Tx_makeRoom_88 : decode b_Tx_makeRoom 88 = .ok (.aload_n 0, 1) := by decide +kernel
theorem d_Tx_makeRoom_89 : decode b_Tx_makeRoom 89 = .ok (.getfield 30, 3) := by decide +kernel
theorem d_Tx_makeRoom_92 : decode b_Tx_makeRoom 92 = .ok (.iconst 1, 1) := by decide +kernel
theorem d_Tx_makeRoom_93 : decode b_Tx_makeRoom 93 = .ok (.iadd, 1) := by decide +kernel
theorem d_Tx_makeRoom_94 : decode b_Tx_makeRoom 94 = .ok (.sipush 16384, 3) := by decide +kernel
theorem d_Tx_makeRoom_97 : decode b_Tx_makeRoom 97 = .ok (.invokestatic 83, 3) := by decide +kernel
theorem d_Tx_makeRoom_100 : decode b_Tx_makeRoom 100 = .ok (.putfield 27, 3) := by decide +kernel
theorem d_Tx_makeRoom_103 : decode b_Tx_makeRoom 103 = .ok (.return_, 1) := by decide +kernel
theorem d_Tx_startNew_0 : decode b_Tx_startNew 0 = .ok (.aload_n 0, 1) := by decide +kernel
theorem d_Tx_startNew_1 : decode b_Tx_startNew 1 = .ok (.iconst 0, 1) := by decide +kernel
theorem d_Tx_startNew_2 : decode b_Tx_startNew 2 = .ok (.putfield 37, 3) := by decide +kernel
theorem d_Tx_startNew_5 : decode b_Tx_startNew 5 = .ok (.return_, 1) := by decide +kernel
theorem d_Tx_put_0 : decode b_Tx_put 0 = .ok (.aload_n 0, 1) := by decide +kernel
theorem d_Tx_put_1 : decode b_Tx_put 1 = .ok (.getfield 34, 3) := by decide +kernel
theorem d_Tx_put_4 : decode b_Tx_put 4 = .ok (.aload_n 0, 1) := by decide +kernel
theorem d_Tx_put_5 : decode b_Tx_put 5 = .ok (.getfield 37, 3) := by decide +kernel
theorem d_Tx_put_8 : decode b_Tx_put 8 = .ok (.iadd, 1) := by decide +kernel
theorem d_Tx_put_9 : decode b_Tx_put 9 = .ok (.istore_n 2, 1) := by decide +kernel
theorem d_Tx_put_10 : decode b_Tx_put 10 = .ok (.iload_n 2, 1) := by decide +kernel
theorem d_Tx_put_11 : decode b_Tx_put 11 = .ok (.aload_n 0, 1) := by decide +kernel
theorem d_Tx_put_12 : decode b_Tx_put 12 = .ok (.getfield 11, 3) := by decide +kernel
theorem d_Tx_put_15 : decode b_Tx_put 15 = .ok (.arraylength, 1) := by decide +kernel
theorem d_Tx_put_16 : decode b_Tx_put 16 = .ok (.if_icmp .ge 21, 3) := by decide +kernel
theorem d_Tx_put_19 : decode b_Tx_put 19 = .ok (.aload_n 0, 1) := by decide +kernel
theorem d_Tx_put_20 : decode b_Tx_put 20 = .ok (.getfield 11, 3) := by decide +kernel
theorem d_Tx_put_23 : decode b_Tx_put 23 = .ok (.iload_n 2, 1) := by decide +kernel
theorem d_Tx_put_24 : decode b_Tx_put 24 = .ok (.iload_n 1, 1) := by decide +kernel
theorem d_Tx_put_25 : decode b_Tx_put 25 = .ok (.i2b, 1) := by decide +kernel
theorem d_Tx_put_26 : decode b_Tx_put 26 = .ok (.bastore, 1) := by decide +kernel
theorem d_Tx_put_27 : decode b_Tx_put 27 = .ok (.aload_n 0, 1) := by decide +kernel
theorem d_Tx_put_28 : decode b_Tx_put 28 = .ok (.dup, 1) := by decide +kernel
theorem d_Tx_put_29 : decode b_Tx_put 29 = .ok (.getfield 37, 3) := by decide +kernel
theorem d_Tx_put_32 : decode b_Tx_put 32 = .ok (.iconst 1, 1) := by decide +kernel
theorem d_Tx_put_33 : decode b_Tx_put 33 = .ok (.iadd, 1) := by decide +kernel
theorem d_Tx_put_34 : decode b_Tx_put 34 = .ok (.putfield 37, 3) := by decide +kernel
theorem d_Tx_put_37 : decode b_Tx_put 37 = .ok (.return_, 1) := by decide +kernel
theorem d_Tx_hashOf_0 : decode b_Tx_hashOf 0 = .ok (.iload_n 2, 1) := by decide +kernel
theorem d_Tx_hashOf_1 : decode b_Tx_hashOf 1 = .ok (.istore_n 3, 1) := by decide +kernel
theorem d_Tx_hashOf_2 : decode b_Tx_hashOf 2 = .ok (.iload_n 1, 1) := by decide +kernel
theorem d_Tx_hashOf_3 : decode b_Tx_hashOf 3 = .ok (.istore 4, 2) := by decide +kernel
theorem d_Tx_hashOf_5 : decode b_Tx_hashOf 5 = .ok (.iload 4, 2) := by decide +kernel
theorem d_Tx_hashOf_7 : decode b_Tx_hashOf 7 = .ok (.iload_n 1, 1) := by decide +kernel
theorem d_Tx_hashOf_8 : decode b_Tx_hashOf 8 = .ok (.iload_n 2, 1) := by decide +kernel
theorem d_Tx_hashOf_9 : decode b_Tx_hashOf 9 = .ok (.iadd, 1) := by decide +kernel
theorem d_Tx_hashOf_10 : decode b_Tx_hashOf 10 = .ok (.if_icmp .ge 26, 3) := by decide +kernel
theorem d_Tx_hashOf_13 : decode b_Tx_hashOf 13 = .ok (.iload 4, 2) := by decide +kernel
theorem d_Tx_hashOf_15 : decode b_Tx_hashOf 15 = .ok (.aload_n 0, 1) := by decide +kernel
theorem d_Tx_hashOf_16 : decode b_Tx_hashOf 16 = .ok (.arraylength, 1) := by decide +kernel
theorem d_Tx_hashOf_17 : decode b_Tx_hashOf 17 = .ok (.if_icmp .ge 19, 3) := by decide +kernel
theorem d_Tx_hashOf_20 : decode b_Tx_hashOf 20 = .ok (.iload_n 3, 1) := by decide +kernel
theorem d_Tx_hashOf_21 : decode b_Tx_hashOf 21 = .ok (.bipush 31, 2) := by decide +kernel
theorem d_Tx_hashOf_23 : decode b_Tx_hashOf 23 = .ok (.imul, 1) := by decide +kernel
theorem d_Tx_hashOf_24 : decode b_Tx_hashOf 24 = .ok (.aload_n 0, 1) := by decide +kernel
theorem d_Tx_hashOf_25 : decode b_Tx_hashOf 25 = .ok (.iload 4, 2) := by decide +kernel
theorem d_Tx_hashOf_27 : decode b_Tx_hashOf 27 = .ok (.baload, 1) := by decide +kernel
theorem d_Tx_hashOf_28 : decode b_Tx_hashOf 28 = .ok (.iadd, 1) := by decide +kernel
theorem d_Tx_hashOf_29 : decode b_Tx_hashOf 29 = .ok (.istore_n 3, 1) := by decide +kernel
theorem d_Tx_hashOf_30 : decode b_Tx_hashOf 30 = .ok (.iinc 4 1, 3) := by decide +kernel
theorem d_Tx_hashOf_33 : decode b_Tx_hashOf 33 = .ok (.goto (-28), 3) := by decide +kernel
theorem d_Tx_hashOf_36 : decode b_Tx_hashOf 36 = .ok (.iload_n 3, 1) := by decide +kernel
theorem d_Tx_hashOf_37 : decode b_Tx_hashOf 37 = .ok (.ireturn, 1) := by decide +kernel
theorem d_Tx_slotOf_0 : decode b_Tx_slotOf 0 = .ok (.iload_n 0, 1) := by decide +kernel
theorem d_Tx_slotOf_1 : decode b_Tx_slotOf 1 = .ok (.iload_n 0, 1) := by decide +kernel
theorem d_Tx_slotOf_2 : decode b_Tx_slotOf 2 = .ok (.bipush 8, 2) := by decide +kernel
theorem d_Tx_slotOf_4 : decode b_Tx_slotOf 4 = .ok (.iushr, 1) := by decide +kernel
theorem d_Tx_slotOf_5 : decode b_Tx_slotOf 5 = .ok (.ixor, 1) := by decide +kernel
theorem d_Tx_slotOf_6 : decode b_Tx_slotOf 6 = .ok (.iload_n 0, 1) := by decide +kernel
theorem d_Tx_slotOf_7 : decode b_Tx_slotOf 7 = .ok (.bipush 16, 2) := by decide +kernel
theorem d_Tx_slotOf_9 : decode b_Tx_slotOf 9 = .ok (.iushr, 1) := by decide +kernel
theorem d_Tx_slotOf_10 : decode b_Tx_slotOf 10 = .ok (.ixor, 1) := by decide +kernel
theorem d_Tx_slotOf_11 : decode b_Tx_slotOf 11 = .ok (.sipush 255, 3) := by decide +kernel
theorem d_Tx_slotOf_14 : decode b_Tx_slotOf 14 = .ok (.iand, 1) := by decide +kernel
theorem d_Tx_slotOf_15 : decode b_Tx_slotOf 15 = .ok (.ireturn, 1) := by decide +kernel
theorem d_Tx_has_0 : decode b_Tx_has 0 = .ok (.iload_n 1, 1) := by decide +kernel
theorem d_Tx_has_1 : decode b_Tx_has 1 = .ok (.ifCond .lt 15, 3) := by decide +kernel
theorem d_Tx_has_4 : decode b_Tx_has 4 = .ok (.iload_n 1, 1) := by decide +kernel
theorem d_Tx_has_5 : decode b_Tx_has 5 = .ok (.aload_n 0, 1) := by decide +kernel
theorem d_Tx_has_6 : decode b_Tx_has 6 = .ok (.getfield 30, 3) := by decide +kernel
theorem d_Tx_has_9 : decode b_Tx_has 9 = .ok (.if_icmp .ge 7, 3) := by decide +kernel
theorem d_Tx_has_12 : decode b_Tx_has 12 = .ok (.iconst 1, 1) := by decide +kernel
theorem d_Tx_has_13 : decode b_Tx_has 13 = .ok (.goto 4, 3) := by decide +kernel
theorem d_Tx_has_16 : decode b_Tx_has 16 = .ok (.iconst 0, 1) := by decide +kernel
theorem d_Tx_has_17 : decode b_Tx_has 17 = .ok (.ireturn, 1) := by decide +kernel
theorem d_Tx_isSame_0 : decode b_Tx_isSame 0 = .ok (.aload_n 0, 1) := by decide +kernel
theorem d_Tx_isSame_1 : decode b_Tx_isSame 1 = .ok (.getfield 17, 3) := by decide +kernel
theorem d_Tx_isSame_4 : decode b_Tx_isSame 4 = .ok (.iload_n 1, 1) := by decide +kernel
theorem d_Tx_isSame_5 : decode b_Tx_isSame 5 = .ok (.iaload, 1) := by decide +kernel
theorem d_Tx_isSame_6 : decode b_Tx_isSame 6 = .ok (.istore 5, 2) := by decide +kernel
theorem d_Tx_isSame_8 : decode b_Tx_isSame 8 = .ok (.aload_n 0, 1) := by decide +kernel
theorem d_Tx_isSame_9 : decode b_Tx_isSame 9 = .ok (.getfield 21, 3) := by decide +kernel
theorem d_Tx_isSame_12 : decode b_Tx_isSame 12 = .ok (.iload_n 1, 1) := by decide +kernel
theorem d_Tx_isSame_13 : decode b_Tx_isSame 13 = .ok (.iaload, 1) := by decide +kernel
theorem d_Tx_isSame_14 : decode b_Tx_isSame 14 = .ok (.iload 4, 2) := by decide +kernel
theorem d_Tx_isSame_16 : decode b_Tx_isSame 16 = .ok (.if_icmp .ne 25, 3) := by decide +kernel
theorem d_Tx_isSame_19 : decode b_Tx_isSame 19 = .ok (.iload 5, 2) := by decide +kernel
theorem d_Tx_isSame_21 : decode b_Tx_isSame 21 = .ok (.iload 4, 2) := by decide +kernel
theorem d_Tx_isSame_23 : decode b_Tx_isSame 23 = .ok (.iadd, 1) := by decide +kernel
theorem d_Tx_isSame_24 : decode b_Tx_isSame 24 = .ok (.aload_n 0, 1) := by decide +kernel
theorem d_Tx_isSame_25 : decode b_Tx_isSame 25 = .ok (.getfield 11, 3) := by decide +kernel
theorem d_Tx_isSame_28 : decode b_Tx_isSame 28 = .ok (.arraylength, 1) := by decide +kernel
theorem d_Tx_isSame_29 : decode b_Tx_isSame 29 = .ok (.if_icmp .gt 12, 3) := by decide +kernel
theorem d_Tx_isSame_32 : decode b_Tx_isSame 32 = .ok (.iload_n 3, 1) := by decide +kernel
theorem d_Tx_isSame_33 : decode b_Tx_isSame 33 = .ok (.iload 4, 2) := by decide +kernel
theorem d_Tx_isSame_35 : decode b_Tx_isSame 35 = .ok (.iadd, 1) := by decide +kernel
theorem d_Tx_isSame_36 : decode b_Tx_isSame 36 = .ok (.aload_n 2, 1) := by decide +kernel
theorem d_Tx_isSame_37 : decode b_Tx_isSame 37 = .ok (.arraylength, 1) := by decide +kernel
theorem d_Tx_isSame_38 : decode b_Tx_isSame 38 = .ok (.if_icmp .le 5, 3) := by decide +kernel
theorem d_Tx_isSame_41 : decode b_Tx_isSame 41 = .ok (.iconst 0, 1) := by decide +kernel
theorem d_Tx_isSame_42 : decode b_Tx_isSame 42 = .ok (.ireturn, 1) := by decide +kernel
theorem d_Tx_isSame_43 : decode b_Tx_isSame 43 = .ok (.iconst 0, 1) := by decide +kernel
theorem d_Tx_isSame_44 : decode b_Tx_isSame 44 = .ok (.istore 6, 2) := by decide +kernel
theorem d_Tx_isSame_46 : decode b_Tx_isSame 46 = .ok (.iload 6, 2) := by decide +kernel
theorem d_Tx_isSame_48 : decode b_Tx_isSame 48 = .ok (.iload 4, 2) := by decide +kernel
theorem d_Tx_isSame_50 : decode b_Tx_isSame 50 = .ok (.if_icmp .ge 30, 3) := by decide +kernel
theorem d_Tx_isSame_53 : decode b_Tx_isSame 53 = .ok (.aload_n 0, 1) := by decide +kernel
theorem d_Tx_isSame_54 : decode b_Tx_isSame 54 = .ok (.getfield 11, 3) := by decide +kernel
theorem d_Tx_isSame_57 : decode b_Tx_isSame 57 = .ok (.iload 5, 2) := by decide +kernel
theorem d_Tx_isSame_59 : decode b_Tx_isSame 59 = .ok (.iload 6, 2) := by decide +kernel
theorem d_Tx_isSame_61 : decode b_Tx_isSame 61 = .ok (.iadd, 1) := by decide +kernel
theorem d_Tx_isSame_62 : decode b_Tx_isSame 62 = .ok (.baload, 1) := by decide +kernel
theorem d_Tx_isSame_63 : decode b_Tx_isSame 63 = .ok (.aload_n 2, 1) := by decide +kernel
theorem d_Tx_isSame_64 : decode b_Tx_isSame 64 = .ok (.iload_n 3, 1) := by decide +kernel
theorem d_Tx_isSame_65 : decode b_Tx_isSame 65 = .ok (.iload 6, 2) := by decide +kernel
theorem d_Tx_isSame_67 : decode b_Tx_isSame 67 = .ok (.iadd, 1) := by decide +kernel
theorem d_Tx_isSame_68 : decode b_Tx_isSame 68 = .ok (.baload, 1) := by decide +kernel
theorem d_Tx_isSame_69 : decode b_Tx_isSame 69 = .ok (.if_icmp .eq 5, 3) := by decide +kernel
theorem d_Tx_isSame_72 : decode b_Tx_isSame 72 = .ok (.iconst 0, 1) := by decide +kernel
theorem d_Tx_isSame_73 : decode b_Tx_isSame 73 = .ok (.ireturn, 1) := by decide +kernel
theorem d_Tx_isSame_74 : decode b_Tx_isSame 74 = .ok (.iinc 6 1, 3) := by decide +kernel
theorem d_Tx_isSame_77 : decode b_Tx_isSame 77 = .ok (.goto (-31), 3) := by decide +kernel
theorem d_Tx_isSame_80 : decode b_Tx_isSame 80 = .ok (.iconst 1, 1) := by decide +kernel
theorem d_Tx_isSame_81 : decode b_Tx_isSame 81 = .ok (.ireturn, 1) := by decide +kernel
theorem d_Tx_search_0 : decode b_Tx_search 0 = .ok (.aload_n 0, 1) := by decide +kernel
theorem d_Tx_search_1 : decode b_Tx_search 1 = .ok (.getfield 40, 3) := by decide +kernel
theorem d_Tx_search_4 : decode b_Tx_search 4 = .ok (.iload_n 1, 1) := by decide +kernel
theorem d_Tx_search_5 : decode b_Tx_search 5 = .ok (.invokestatic 75, 3) := by decide +kernel
theorem d_Tx_search_8 : decode b_Tx_search 8 = .ok (.iaload, 1) := by decide +kernel
theorem d_Tx_search_9 : decode b_Tx_search 9 = .ok (.istore 5, 2) := by decide +kernel
theorem d_Tx_search_11 : decode b_Tx_search 11 = .ok (.iconst 0, 1) := by decide +kernel
theorem d_Tx_search_12 : decode b_Tx_search 12 = .ok (.istore 6, 2) := by decide +kernel
theorem d_Tx_search_14 : decode b_Tx_search 14 = .ok (.iload 6, 2) := by decide +kernel
theorem d_Tx_search_16 : decode b_Tx_search 16 = .ok (.aload_n 0, 1) := by decide +kernel
theorem d_Tx_search_17 : decode b_Tx_search 17 = .ok (.getfield 30, 3) := by decide +kernel
theorem d_Tx_search_20 : decode b_Tx_search 20 = .ok (.if_icmp .ge 54, 3) := by decide +kernel
theorem d_Tx_search_23 : decode b_Tx_search 23 = .ok (.aload_n 0, 1) := by decide +kernel
theorem d_Tx_search_24 : decode b_Tx_search 24 = .ok (.iload 5, 2) := by decide +kernel
theorem d_Tx_search_26 : decode b_Tx_search 26 = .ok (.invokevirtual 58, 3) := by decide +kernel
theorem d_Tx_search_29 : decode b_Tx_search 29 = .ok (.ifCond .eq 45, 3) := by decide +kernel
theorem d_Tx_search_32 : decode b_Tx_search 32 = .ok (.aload_n 0, 1) := by decide +kernel
theorem d_Tx_search_33 : decode b_Tx_search 33 = .ok (.getfield 24, 3) := by decide +kernel
theorem d_Tx_search_36 : decode b_Tx_search 36 = .ok (.iload 5, 2) := by decide +kernel
theorem d_Tx_search_38 : decode b_Tx_search 38 = .ok (.iaload, 1) := by decide +kernel
theorem d_Tx_search_39 : decode b_Tx_search 39 = .ok (.iload_n 1, 1) := by decide +kernel
theorem d_Tx_search_40 : decode b_Tx_search 40 = .ok (.if_icmp .ne 19, 3) := by decide +kernel
theorem d_Tx_search_43 : decode b_Tx_search 43 = .ok (.aload_n 0, 1) := by decide +kernel
theorem d_Tx_search_44 : decode b_Tx_search 44 = .ok (.iload 5, 2) := by decide +kernel
theorem d_Tx_search_46 : decode b_Tx_search 46 = .ok (.aload_n 2, 1) := by decide +kernel
theorem d_Tx_search_47 : decode b_Tx_search 47 = .ok (.iload_n 3, 1) := by decide +kernel
theorem d_Tx_search_48 : decode b_Tx_search 48 = .ok (.iload 4, 2) := by decide +kernel
theorem d_Tx_search_50 : decode b_Tx_search 50 = .ok (.invokevirtual 79, 3) := by decide +kernel
theorem d_Tx_search_53 : decode b_Tx_search 53 = .ok (.ifCond .eq 6, 3) := by decide +kernel
theorem d_Tx_search_56 : decode b_Tx_search 56 = .ok (.iload 5, 2) := by decide +kernel
theorem d_Tx_search_58 : decode b_Tx_search 58 = .ok (.ireturn, 1) := by decide +kernel
theorem d_Tx_search_59 : decode b_Tx_search 59 = .ok (.aload_n 0, 1) := by decide +kernel
theorem d_Tx_search_60 : decode b_Tx_search 60 = .ok (.getfield 27, 3) := by decide +kernel
theorem d_Tx_search_63 : decode b_Tx_search 63 = .ok (.iload 5, 2) := by decide +kernel
theorem d_Tx_search_65 : decode b_Tx_search 65 = .ok (.iaload, 1) := by decide +kernel
theorem d_Tx_search_66 : decode b_Tx_search 66 = .ok (.istore 5, 2) := by decide +kernel
theorem d_Tx_search_68 : decode b_Tx_search 68 = .ok (.iinc 6 1, 3) := by decide +kernel
theorem d_Tx_search_71 : decode b_Tx_search 71 = .ok (.goto (-57), 3) := by decide +kernel
theorem d_Tx_search_74 : decode b_Tx_search 74 = .ok (.iconst (-1), 1) := by decide +kernel
theorem d_Tx_search_75 : decode b_Tx_search 75 = .ok (.ireturn, 1) := by decide +kernel
theorem d_Tx_keep_0 : decode b_Tx_keep 0 = .ok (.aload_n 0, 1) := by decide +kernel
theorem d_Tx_keep_1 : decode b_Tx_keep 1 = .ok (.getfield 11, 3) := by decide +kernel
theorem d_Tx_keep_4 : decode b_Tx_keep 4 = .ok (.aload_n 0, 1) := by decide +kernel
theorem d_Tx_keep_5 : decode b_Tx_keep 5 = .ok (.getfield 34, 3) := by decide +kernel
theorem d_Tx_keep_8 : decode b_Tx_keep 8 = .ok (.aload_n 0, 1) := by decide +kernel
theorem d_Tx_keep_9 : decode b_Tx_keep 9 = .ok (.getfield 37, 3) := by decide +kernel
theorem d_Tx_keep_12 : decode b_Tx_keep 12 = .ok (.invokestatic 67, 3) := by decide +kernel
theorem d_Tx_keep_15 : decode b_Tx_keep 15 = .ok (.istore_n 1, 1) := by decide +kernel
theorem d_Tx_keep_16 : decode b_Tx_keep 16 = .ok (.aload_n 0, 1) := by decide +kernel
theorem d_Tx_keep_17 : decode b_Tx_keep 17 = .ok (.iload_n 1, 1) := by decide +kernel
theorem d_Tx_keep_18 : decode b_Tx_keep 18 = .ok (.aload_n 0, 1) := by decide +kernel
theorem d_Tx_keep_19 : decode b_Tx_keep 19 = .ok (.getfield 11, 3) := by decide +kernel
theorem d_Tx_keep_22 : decode b_Tx_keep 22 = .ok (.aload_n 0, 1) := by decide +kernel
theorem d_Tx_keep_23 : decode b_Tx_keep 23 = .ok (.getfield 34, 3) := by decide +kernel
theorem d_Tx_keep_26 : decode b_Tx_keep 26 = .ok (.aload_n 0, 1) := by decide +kernel
theorem d_Tx_keep_27 : decode b_Tx_keep 27 = .ok (.getfield 37, 3) := by decide +kernel
theorem d_Tx_keep_30 : decode b_Tx_keep 30 = .ok (.invokevirtual 71, 3) := by decide +kernel
theorem d_Tx_keep_33 : decode b_Tx_keep 33 = .ok (.istore_n 2, 1) := by decide +kernel
theorem d_Tx_keep_34 : decode b_Tx_keep 34 = .ok (.iload_n 2, 1) := by decide +kernel
theorem d_Tx_keep_35 : decode b_Tx_keep 35 = .ok (.iconst (-1), 1) := by decide +kernel
theorem d_Tx_keep_36 : decode b_Tx_keep 36 = .ok (.if_icmp .ne 15, 3) := by decide +kernel
theorem d_Tx_keep_39 : decode b_Tx_keep 39 = .ok (.aload_n 0, 1) := by decide +kernel
theorem d_Tx_keep_40 : decode b_Tx_keep 40 = .ok (.getfield 30, 3) := by decide +kernel
theorem d_Tx_keep_43 : decode b_Tx_keep 43 = .ok (.aload_n 0, 1) := by decide +kernel
theorem d_Tx_keep_44 : decode b_Tx_keep 44 = .ok (.getfield 17, 3) := by decide +kernel
theorem d_Tx_keep_47 : decode b_Tx_keep 47 = .ok (.arraylength, 1) := by decide +kernel
theorem d_Tx_keep_48 : decode b_Tx_keep 48 = .ok (.if_icmp .lt 5, 3) := by decide +kernel
theorem d_Tx_keep_51 : decode b_Tx_keep 51 = .ok (.iload_n 2, 1) := by decide +kernel
theorem d_Tx_keep_52 : decode b_Tx_keep 52 = .ok (.ireturn, 1) := by decide +kernel
theorem d_Tx_keep_53 : decode b_Tx_keep 53 = .ok (.iload_n 1, 1) := by decide +kernel
theorem d_Tx_keep_54 : decode b_Tx_keep 54 = .ok (.invokestatic 75, 3) := by decide +kernel
theorem d_Tx_keep_57 : decode b_Tx_keep 57 = .ok (.istore_n 3, 1) := by decide +kernel
theorem d_Tx_keep_58 : decode b_Tx_keep 58 = .ok (.aload_n 0, 1) := by decide +kernel
theorem d_Tx_keep_59 : decode b_Tx_keep 59 = .ok (.getfield 17, 3) := by decide +kernel
theorem d_Tx_keep_62 : decode b_Tx_keep 62 = .ok (.aload_n 0, 1) := by decide +kernel
theorem d_Tx_keep_63 : decode b_Tx_keep 63 = .ok (.getfield 30, 3) := by decide +kernel
theorem d_Tx_keep_66 : decode b_Tx_keep 66 = .ok (.aload_n 0, 1) := by decide +kernel
theorem d_Tx_keep_67 : decode b_Tx_keep 67 = .ok (.getfield 34, 3) := by decide +kernel
theorem d_Tx_keep_70 : decode b_Tx_keep 70 = .ok (.iastore, 1) := by decide +kernel
theorem d_Tx_keep_71 : decode b_Tx_keep 71 = .ok (.aload_n 0, 1) := by decide +kernel
theorem d_Tx_keep_72 : decode b_Tx_keep 72 = .ok (.getfield 21, 3) := by decide +kernel
theorem d_Tx_keep_75 : decode b_Tx_keep 75 = .ok (.aload_n 0, 1) := by decide +kernel
theorem d_Tx_keep_76 : decode b_Tx_keep 76 = .ok (.getfield 30, 3) := by decide +kernel
theorem d_Tx_keep_79 : decode b_Tx_keep 79 = .ok (.aload_n 0, 1) := by decide +kernel
theorem d_Tx_keep_80 : decode b_Tx_keep 80 = .ok (.getfield 37, 3) := by decide +kernel
theorem d_Tx_keep_83 : decode b_Tx_keep 83 = .ok (.iastore, 1) := by decide +kernel
theorem d_Tx_keep_84 : decode b_Tx_keep 84 = .ok (.aload_n 0, 1) := by decide +kernel
theorem d_Tx_keep_85 : decode b_Tx_keep 85 = .ok (.getfield 24, 3) := by decide +kernel
theorem d_Tx_keep_88 : decode b_Tx_keep 88 = .ok (.aload_n 0, 1) := by decide +kernel
theorem d_Tx_keep_89 : decode b_Tx_keep 89 = .ok (.getfield 30, 3) := by decide +kernel
theorem d_Tx_keep_92 : decode b_Tx_keep 92 = .ok (.iload_n 1, 1) := by decide +kernel
theorem d_Tx_keep_93 : decode b_Tx_keep 93 = .ok (.iastore, 1) := by decide +kernel
theorem d_Tx_keep_94 : decode b_Tx_keep 94 = .ok (.aload_n 0, 1) := by decide +kernel
theorem d_Tx_keep_95 : decode b_Tx_keep 95 = .ok (.getfield 27, 3) := by decide +kernel
theorem d_Tx_keep_98 : decode b_Tx_keep 98 = .ok (.aload_n 0, 1) := by decide +kernel
theorem d_Tx_keep_99 : decode b_Tx_keep 99 = .ok (.getfield 30, 3) := by decide +kernel
theorem d_Tx_keep_102 : decode b_Tx_keep 102 = .ok (.aload_n 0, 1) := by decide +kernel
theorem d_Tx_keep_103 : decode b_Tx_keep 103 = .ok (.getfield 40, 3) := by decide +kernel
theorem d_Tx_keep_106 : decode b_Tx_keep 106 = .ok (.iload_n 3, 1) := by decide +kernel
theorem d_Tx_keep_107 : decode b_Tx_keep 107 = .ok (.iaload, 1) := by decide +kernel
theorem d_Tx_keep_108 : decode b_Tx_keep 108 = .ok (.iastore, 1) := by decide +kernel
theorem d_Tx_keep_109 : decode b_Tx_keep 109 = .ok (.aload_n 0, 1) := by decide +kernel
theorem d_Tx_keep_110 : decode b_Tx_keep 110 = .ok (.getfield 40, 3) := by decide +kernel
theorem d_Tx_keep_113 : decode b_Tx_keep 113 = .ok (.iload_n 3, 1) := by decide +kernel
theorem d_Tx_keep_114 : decode b_Tx_keep 114 = .ok (.aload_n 0, 1) := by decide +kernel
theorem d_Tx_keep_115 : decode b_Tx_keep 115 = .ok (.getfield 30, 3) := by decide +kernel
theorem d_Tx_keep_118 : decode b_Tx_keep 118 = .ok (.iastore, 1) := by decide +kernel
theorem d_Tx_keep_119 : decode b_Tx_keep 119 = .ok (.aload_n 0, 1) := by decide +kernel
theorem d_Tx_keep_120 : decode b_Tx_keep 120 = .ok (.dup, 1) := by decide +kernel
theorem d_Tx_keep_121 : decode b_Tx_keep 121 = .ok (.getfield 34, 3) := by decide +kernel
theorem d_Tx_keep_124 : decode b_Tx_keep 124 = .ok (.aload_n 0, 1) := by decide +kernel
theorem d_Tx_keep_125 : decode b_Tx_keep 125 = .ok (.getfield 37, 3) := by decide +kernel
theorem d_Tx_keep_128 : decode b_Tx_keep 128 = .ok (.iadd, 1) := by decide +kernel
theorem d_Tx_keep_129 : decode b_Tx_keep 129 = .ok (.putfield 34, 3) := by decide +kernel
theorem d_Tx_keep_132 : decode b_Tx_keep 132 = .ok (.aload_n 0, 1) := by decide +kernel
theorem d_Tx_keep_133 : decode b_Tx_keep 133 = .ok (.iconst 0, 1) := by decide +kernel
theorem d_Tx_keep_134 : decode b_Tx_keep 134 = .ok (.putfield 37, 3) := by decide +kernel
theorem d_Tx_keep_137 : decode b_Tx_keep 137 = .ok (.aload_n 0, 1) := by decide +kernel
theorem d_Tx_keep_138 : decode b_Tx_keep 138 = .ok (.dup, 1) := by decide +kernel
theorem d_Tx_keep_139 : decode b_Tx_keep 139 = .ok (.getfield 30, 3) := by decide +kernel
theorem d_Tx_keep_142 : decode b_Tx_keep 142 = .ok (.iconst 1, 1) := by decide +kernel
theorem d_Tx_keep_143 : decode b_Tx_keep 143 = .ok (.iadd, 1) := by decide +kernel
theorem d_Tx_keep_144 : decode b_Tx_keep 144 = .ok (.putfield 30, 3) := by decide +kernel
theorem d_Tx_keep_147 : decode b_Tx_keep 147 = .ok (.aload_n 0, 1) := by decide +kernel
theorem d_Tx_keep_148 : decode b_Tx_keep 148 = .ok (.getfield 30, 3) := by decide +kernel
theorem d_Tx_keep_151 : decode b_Tx_keep 151 = .ok (.iconst 1, 1) := by decide +kernel
theorem d_Tx_keep_152 : decode b_Tx_keep 152 = .ok (.isub, 1) := by decide +kernel
theorem d_Tx_keep_153 : decode b_Tx_keep 153 = .ok (.ireturn, 1) := by decide +kernel
theorem d_Tx_putCode_0 : decode b_Tx_putCode 0 = .ok (.iload_n 1, 1) := by decide +kernel
theorem d_Tx_putCode_1 : decode b_Tx_putCode 1 = .ok (.sipush 128, 3) := by decide +kernel
theorem d_Tx_putCode_4 : decode b_Tx_putCode 4 = .ok (.if_icmp .ge 9, 3) := by decide +kernel
theorem d_Tx_putCode_7 : decode b_Tx_putCode 7 = .ok (.aload_n 0, 1) := by decide +kernel
theorem d_Tx_putCode_8 : decode b_Tx_putCode 8 = .ok (.iload_n 1, 1) := by decide +kernel
theorem d_Tx_putCode_9 : decode b_Tx_putCode 9 = .ok (.invokevirtual 62, 3) := by decide +kernel
theorem d_Tx_putCode_12 : decode b_Tx_putCode 12 = .ok (.return_, 1) := by decide +kernel
theorem d_Tx_putCode_13 : decode b_Tx_putCode 13 = .ok (.iconst 1, 1) := by decide +kernel
theorem d_Tx_putCode_14 : decode b_Tx_putCode 14 = .ok (.istore_n 2, 1) := by decide +kernel
theorem d_Tx_putCode_15 : decode b_Tx_putCode 15 = .ok (.iload_n 2, 1) := by decide +kernel
theorem d_Tx_putCode_16 : decode b_Tx_putCode 16 = .ok (.iconst 5, 1) := by decide +kernel
theorem d_Tx_putCode_17 : decode b_Tx_putCode 17 = .ok (.if_icmp .ge 21, 3) := by decide +kernel
theorem d_Tx_putCode_20 : decode b_Tx_putCode 20 = .ok (.iload_n 1, 1) := by decide +kernel
theorem d_Tx_putCode_21 : decode b_Tx_putCode 21 = .ok (.iconst 1, 1) := by decide +kernel
theorem d_Tx_putCode_22 : decode b_Tx_putCode 22 = .ok (.iconst 5, 1) := by decide +kernel
theorem d_Tx_putCode_23 : decode b_Tx_putCode 23 = .ok (.iload_n 2, 1) := by decide +kernel
theorem d_Tx_putCode_24 : decode b_Tx_putCode 24 = .ok (.imul, 1) := by decide +kernel
theorem d_Tx_putCode_25 : decode b_Tx_putCode 25 = .ok (.bipush 6, 2) := by decide +kernel
theorem d_Tx_putCode_27 : decode b_Tx_putCode 27 = .ok (.iadd, 1) := by decide +kernel
theorem d_Tx_putCode_28 : decode b_Tx_putCode 28 = .ok (.ishl, 1) := by decide +kernel
theorem d_Tx_putCode_29 : decode b_Tx_putCode 29 = .ok (.if_icmp .lt 9, 3) := by decide +kernel
theorem d_Tx_putCode_32 : decode b_Tx_putCode 32 = .ok (.iinc 2 1, 3) := by decide +kernel
theorem d_Tx_putCode_35 : decode b_Tx_putCode 35 = .ok (.goto (-20), 3) := by decide +kernel
theorem d_Tx_putCode_38 : decode b_Tx_putCode 38 = .ok (.ldc 66, 2) := by decide +kernel
theorem d_Tx_putCode_40 : decode b_Tx_putCode 40 = .ok (.iload_n 2, 1) := by decide +kernel
theorem d_Tx_putCode_41 : decode b_Tx_putCode 41 = .ok (.iconst 1, 1) := by decide +kernel
theorem d_Tx_putCode_42 : decode b_Tx_putCode 42 = .ok (.iadd, 1) := by decide +kernel
theorem d_Tx_putCode_43 : decode b_Tx_putCode 43 = .ok (.ishr, 1) := by decide +kernel
theorem d_Tx_putCode_44 : decode b_Tx_putCode 44 = .ok (.sipush 255, 3) := by decide +kernel
theorem d_Tx_putCode_47 : decode b_Tx_putCode 47 = .ok (.iand, 1) := by decide +kernel
theorem d_Tx_putCode_48 : decode b_Tx_putCode 48 = .ok (.istore_n 3, 1) := by decide +kernel
theorem d_Tx_putCode_49 : decode b_Tx_putCode 49 = .ok (.aload_n 0, 1) := by decide +kernel
theorem d_Tx_putCode_50 : decode b_Tx_putCode 50 = .ok (.iload_n 3, 1) := by decide +kernel
theorem d_Tx_putCode_51 : decode b_Tx_putCode 51 = .ok (.iload_n 1, 1) := by decide +kernel
theorem d_Tx_putCode_52 : decode b_Tx_putCode 52 = .ok (.bipush 6, 2) := by decide +kernel
theorem d_Tx_putCode_54 : decode b_Tx_putCode 54 = .ok (.iload_n 2, 1) := by decide +kernel
theorem d_Tx_putCode_55 : decode b_Tx_putCode 55 = .ok (.imul, 1) := by decide +kernel
theorem d_Tx_putCode_56 : decode b_Tx_putCode 56 = .ok (.ishr, 1) := by decide +kernel
theorem d_Tx_putCode_57 : decode b_Tx_putCode 57 = .ok (.ior, 1) := by decide +kernel
theorem d_Tx_putCode_58 : decode b_Tx_putCode 58 = .ok (.invokevirtual 62, 3) := by decide +kernel
theorem d_Tx_putCode_61 : decode b_Tx_putCode 61 = .ok (.iload_n 2, 1) := by decide +kernel
theorem d_Tx_putCode_62 : decode b_Tx_putCode 62 = .ok (.iconst 1, 1) := by decide +kernel
theorem d_Tx_putCode_63 : decode b_Tx_putCode 63 = .ok (.isub, 1) := by decide +kernel
theorem d_Tx_putCode_64 : decode b_Tx_putCode 64 = .ok (.istore 4, 2) := by decide +kernel
theorem d_Tx_putCode_66 : decode b_Tx_putCode 66 = .ok (.iload 4, 2) := by decide +kernel
theorem d_Tx_putCode_68 : decode b_Tx_putCode 68 = .ok (.ifCond .lt 27, 3) := by decide +kernel
theorem d_Tx_putCode_71 : decode b_Tx_putCode 71 = .ok (.aload_n 0, 1) := by decide +kernel
theorem d_Tx_putCode_72 : decode b_Tx_putCode 72 = .ok (.sipush 128, 3) := by decide +kernel
theorem d_Tx_putCode_75 : decode b_Tx_putCode 75 = .ok (.iload_n 1, 1) := by decide +kernel
theorem d_Tx_putCode_76 : decode b_Tx_putCode 76 = .ok (.bipush 6, 2) := by decide +kernel
theorem d_Tx_putCode_78 : decode b_Tx_putCode 78 = .ok (.iload 4, 2) := by decide +kernel
theorem d_Tx_putCode_80 : decode b_Tx_putCode 80 = .ok (.imul, 1) := by decide +kernel
theorem d_Tx_putCode_81 : decode b_Tx_putCode 81 = .ok (.ishr, 1) := by decide +kernel
theorem d_Tx_putCode_82 : decode b_Tx_putCode 82 = .ok (.bipush 63, 2) := by decide +kernel
theorem d_Tx_putCode_84 : decode b_Tx_putCode 84 = .ok (.iand, 1) := by decide +kernel
theorem d_Tx_putCode_85 : decode b_Tx_putCode 85 = .ok (.ior, 1) := by decide +kernel
theorem d_Tx_putCode_86 : decode b_Tx_putCode 86 = .ok (.invokevirtual 62, 3) := by decide +kernel
theorem d_Tx_putCode_89 : decode b_Tx_putCode 89 = .ok (.iinc 4 (-1), 3) := by decide +kernel
theorem d_Tx_putCode_92 : decode b_Tx_putCode 92 = .ok (.goto (-26), 3) := by decide +kernel
theorem d_Tx_putCode_95 : decode b_Tx_putCode 95 = .ok (.return_, 1) := by decide +kernel
theorem d_Tx_byteOf_0 : decode b_Tx_byteOf 0 = .ok (.aload_n 0, 1) := by decide +kernel
theorem d_Tx_byteOf_1 : decode b_Tx_byteOf 1 = .ok (.iload_n 1, 1) := by decide +kernel
theorem d_Tx_byteOf_2 : decode b_Tx_byteOf 2 = .ok (.invokevirtual 58, 3) := by decide +kernel
theorem d_Tx_byteOf_5 : decode b_Tx_byteOf 5 = .ok (.ifCond .eq 17, 3) := by decide +kernel
theorem d_Tx_byteOf_8 : decode b_Tx_byteOf 8 = .ok (.iload_n 2, 1) := by decide +kernel
theorem d_Tx_byteOf_9 : decode b_Tx_byteOf 9 = .ok (.ifCond .lt 13, 3) := by decide +kernel
theorem d_Tx_byteOf_12 : decode b_Tx_byteOf 12 = .ok (.iload_n 2, 1) := by decide +kernel
theorem d_Tx_byteOf_13 : decode b_Tx_byteOf 13 = .ok (.aload_n 0, 1) := by decide +kernel
theorem d_Tx_byteOf_14 : decode b_Tx_byteOf 14 = .ok (.getfield 21, 3) := by decide +kernel
theorem d_Tx_byteOf_17 : decode b_Tx_byteOf 17 = .ok (.iload_n 1, 1) := by decide +kernel
theorem d_Tx_byteOf_18 : decode b_Tx_byteOf 18 = .ok (.iaload, 1) := by decide +kernel
theorem d_Tx_byteOf_19 : decode b_Tx_byteOf 19 = .ok (.if_icmp .lt 5, 3) := by decide +kernel
theorem d_Tx_byteOf_22 : decode b_Tx_byteOf 22 = .ok (.iconst (-1), 1) := by decide +kernel
theorem d_Tx_byteOf_23 : decode b_Tx_byteOf 23 = .ok (.ireturn, 1) := by decide +kernel
theorem d_Tx_byteOf_24 : decode b_Tx_byteOf 24 = .ok (.aload_n 0, 1) := by decide +kernel
theorem d_Tx_byteOf_25 : decode b_Tx_byteOf 25 = .ok (.getfield 17, 3) := by decide +kernel
theorem d_Tx_byteOf_28 : decode b_Tx_byteOf 28 = .ok (.iload_n 1, 1) := by decide +kernel
theorem d_Tx_byteOf_29 : decode b_Tx_byteOf 29 = .ok (.iaload, 1) := by decide +kernel
theorem d_Tx_byteOf_30 : decode b_Tx_byteOf 30 = .ok (.iload_n 2, 1) := by decide +kernel
theorem d_Tx_byteOf_31 : decode b_Tx_byteOf 31 = .ok (.iadd, 1) := by decide +kernel
theorem d_Tx_byteOf_32 : decode b_Tx_byteOf 32 = .ok (.istore_n 3, 1) := by decide +kernel
theorem d_Tx_byteOf_33 : decode b_Tx_byteOf 33 = .ok (.iload_n 3, 1) := by decide +kernel
theorem d_Tx_byteOf_34 : decode b_Tx_byteOf 34 = .ok (.aload_n 0, 1) := by decide +kernel
theorem d_Tx_byteOf_35 : decode b_Tx_byteOf 35 = .ok (.getfield 11, 3) := by decide +kernel
theorem d_Tx_byteOf_38 : decode b_Tx_byteOf 38 = .ok (.arraylength, 1) := by decide +kernel
theorem d_Tx_byteOf_39 : decode b_Tx_byteOf 39 = .ok (.if_icmp .ge 16, 3) := by decide +kernel
theorem d_Tx_byteOf_42 : decode b_Tx_byteOf 42 = .ok (.aload_n 0, 1) := by decide +kernel
theorem d_Tx_byteOf_43 : decode b_Tx_byteOf 43 = .ok (.getfield 11, 3) := by decide +kernel
theorem d_Tx_byteOf_46 : decode b_Tx_byteOf 46 = .ok (.iload_n 3, 1) := by decide +kernel
theorem d_Tx_byteOf_47 : decode b_Tx_byteOf 47 = .ok (.baload, 1) := by decide +kernel
theorem d_Tx_byteOf_48 : decode b_Tx_byteOf 48 = .ok (.sipush 255, 3) := by decide +kernel
theorem d_Tx_byteOf_51 : decode b_Tx_byteOf 51 = .ok (.iand, 1) := by decide +kernel
theorem d_Tx_byteOf_52 : decode b_Tx_byteOf 52 = .ok (.goto 4, 3) := by decide +kernel
theorem d_Tx_byteOf_55 : decode b_Tx_byteOf 55 = .ok (.iconst (-1), 1) := by decide +kernel
theorem d_Tx_byteOf_56 : decode b_Tx_byteOf 56 = .ok (.ireturn, 1) := by decide +kernel
theorem d_Tx_numberOf_0 : decode b_Tx_numberOf 0 = .ok (.aload_n 0, 1) := by decide +kernel
theorem d_Tx_numberOf_1 : decode b_Tx_numberOf 1 = .ok (.aload_n 1, 1) := by decide +kernel
theorem d_Tx_numberOf_2 : decode b_Tx_numberOf 2 = .ok (.iconst 0, 1) := by decide +kernel
theorem d_Tx_numberOf_3 : decode b_Tx_numberOf 3 = .ok (.iload_n 2, 1) := by decide +kernel
theorem d_Tx_numberOf_4 : decode b_Tx_numberOf 4 = .ok (.invokestatic 67, 3) := by decide +kernel
theorem d_Tx_numberOf_7 : decode b_Tx_numberOf 7 = .ok (.aload_n 1, 1) := by decide +kernel
theorem d_Tx_numberOf_8 : decode b_Tx_numberOf 8 = .ok (.iconst 0, 1) := by decide +kernel
theorem d_Tx_numberOf_9 : decode b_Tx_numberOf 9 = .ok (.iload_n 2, 1) := by decide +kernel
theorem d_Tx_numberOf_10 : decode b_Tx_numberOf 10 = .ok (.invokevirtual 71, 3) := by decide +kernel
theorem d_Tx_numberOf_13 : decode b_Tx_numberOf 13 = .ok (.ireturn, 1) := by decide +kernel
