theorem d_Wr_init_0 : decode b_Wr_init 0 = .ok (.aload_n 0, 1) := by decide +kernel
theorem d_Wr_init_1 : decode b_Wr_init 1 = .ok (.invokespecial 1, 3) := by decide +kernel
theorem d_Wr_init_4 : decode b_Wr_init 4 = .ok (.aload_n 0, 1) := by decide +kernel
theorem d_Wr_init_5 : decode b_Wr_init 5 = .ok (.bipush 16, 2) := by decide +kernel
theorem d_Wr_init_7 : decode b_Wr_init 7 = .ok (.newarray .int, 2) := by decide +kernel
theorem d_Wr_init_9 : decode b_Wr_init 9 = .ok (.putfield 7, 3) := by decide +kernel
theorem d_Wr_init_12 : decode b_Wr_init 12 = .ok (.aload_n 0, 1) := by decide +kernel
theorem d_Wr_init_13 : decode b_Wr_init 13 = .ok (.bipush 16, 2) := by decide +kernel
theorem d_Wr_init_15 : decode b_Wr_init 15 = .ok (.newarray .int, 2) := by decide +kernel
theorem d_Wr_init_17 : decode b_Wr_init 17 = .ok (.putfield 13, 3) := by decide +kernel
theorem d_Wr_init_20 : decode b_Wr_init 20 = .ok (.aload_n 0, 1) := by decide +kernel
theorem d_Wr_init_21 : decode b_Wr_init 21 = .ok (.bipush 16, 2) := by decide +kernel
theorem d_Wr_init_23 : decode b_Wr_init 23 = .ok (.newarray .int, 2) := by decide +kernel
theorem d_Wr_init_25 : decode b_Wr_init 25 = .ok (.putfield 16, 3) := by decide +kernel
theorem d_Wr_init_28 : decode b_Wr_init 28 = .ok (.aload_n 0, 1) := by decide +kernel
theorem d_Wr_init_29 : decode b_Wr_init 29 = .ok (.bipush 16, 2) := by decide +kernel
theorem d_Wr_init_31 : decode b_Wr_init 31 = .ok (.newarray .int, 2) := by decide +kernel
theorem d_Wr_init_33 : decode b_Wr_init 33 = .ok (.putfield 19, 3) := by decide +kernel
theorem d_Wr_init_36 : decode b_Wr_init 36 = .ok (.aload_n 0, 1) := by decide +kernel
theorem d_Wr_init_37 : decode b_Wr_init 37 = .ok (.bipush 16, 2) := by decide +kernel
theorem d_Wr_init_39 : decode b_Wr_init 39 = .ok (.newarray .int, 2) := by decide +kernel
theorem d_Wr_init_41 : decode b_Wr_init 41 = .ok (.putfield 22, 3) := by decide +kernel
theorem d_Wr_init_44 : decode b_Wr_init 44 = .ok (.aload_n 0, 1) := by decide +kernel
theorem d_Wr_init_45 : decode b_Wr_init 45 = .ok (.iconst 0, 1) := by decide +kernel
theorem d_Wr_init_46 : decode b_Wr_init 46 = .ok (.putfield 25, 3) := by decide +kernel
theorem d_Wr_init_49 : decode b_Wr_init 49 = .ok (.return_, 1) := by decide +kernel
theorem d_Wr_isFull_0 : decode b_Wr_isFull 0 = .ok (.aload_n 0, 1) := by decide +kernel
theorem d_Wr_isFull_1 : decode b_Wr_isFull 1 = .ok (.getfield 25, 3) := by decide +kernel
theorem d_Wr_isFull_4 : decode b_Wr_isFull 4 = .ok (.sipush 16384, 3) := by decide +kernel
theorem d_Wr_isFull_7 : decode b_Wr_isFull 7 = .ok (.if_icmp .lt 7, 3) := by decide +kernel
theorem d_Wr_isFull_10 : decode b_Wr_isFull 10 = .ok (.iconst 1, 1) := by decide +kernel
theorem d_Wr_isFull_11 : decode b_Wr_isFull 11 = .ok (.goto 4, 3) := by decide +kernel
theorem d_Wr_isFull_14 : decode b_Wr_isFull 14 = .ok (.iconst 0, 1) := by decide +kernel
theorem d_Wr_isFull_15 : decode b_Wr_isFull 15 = .ok (.ireturn, 1) := by decide +kernel
theorem d_Wr_makeRoom_0 : decode b_Wr_makeRoom 0 = .ok (.aload_n 0, 1) := by decide +kernel
theorem d_Wr_makeRoom_1 : decode b_Wr_makeRoom 1 = .ok (.getfield 25, 3) := by decide +kernel
theorem d_Wr_makeRoom_4 : decode b_Wr_makeRoom 4 = .ok (.aload_n 0, 1) := by decide +kernel
theorem d_Wr_makeRoom_5 : decode b_Wr_makeRoom 5 = .ok (.getfield 7, 3) := by decide +kernel
theorem d_Wr_makeRoom_8 : decode b_Wr_makeRoom 8 = .ok (.arraylength, 1) := by decide +kernel
theorem d_Wr_makeRoom_9 : decode b_Wr_makeRoom 9 = .ok (.if_icmp .lt 10, 3) := by decide +kernel
theorem d_Wr_makeRoom_12 : decode b_Wr_makeRoom 12 = .ok (.aload_n 0, 1) := by decide +kernel
theorem d_Wr_makeRoom_13 : decode b_Wr_makeRoom 13 = .ok (.invokevirtual 29, 3) := by decide +kernel
theorem d_Wr_makeRoom_16 : decode b_Wr_makeRoom 16 = .ok (.ifCond .eq 4, 3) := by decide +kernel
theorem d_Wr_makeRoom_19 : decode b_Wr_makeRoom 19 = .ok (.return_, 1) := by decide +kernel
theorem d_Wr_makeRoom_20 : decode b_Wr_makeRoom 20 = .ok (.aload_n 0, 1) := by decide +kernel
theorem d_Wr_makeRoom_21 : decode b_Wr_makeRoom 21 = .ok (.aload_n 0, 1) := by decide +kernel
theorem d_Wr_makeRoom_22 : decode b_Wr_makeRoom 22 = .ok (.getfield 7, 3) := by decide +kernel
theorem d_Wr_makeRoom_25 : decode b_Wr_makeRoom 25 = .ok (.aload_n 0, 1) := by decide +kernel
theorem d_Wr_makeRoom_26 : decode b_Wr_makeRoom 26 = .ok (.getfield 25, 3) := by decide +kernel
theorem d_Wr_makeRoom_29 : decode b_Wr_makeRoom 29 = .ok (.iconst 1, 1) := by decide +kernel
theorem d_Wr_makeRoom_30 : decode b_Wr_makeRoom 30 = .ok (.iadd, 1) := by decide +kernel
theorem d_Wr_makeRoom_31 : decode b_Wr_makeRoom 31 = .ok (.sipush 16384, 3) := by decide +kernel
theorem d_Wr_makeRoom_34 : decode b_Wr_makeRoom 34 = .ok (.invokestatic 33, 3) := by decide +kernel
theorem d_Wr_makeRoom_37 : decode b_Wr_makeRoom 37 = .ok (.putfield 7, 3) := by decide +kernel
theorem d_Wr_makeRoom_40 : decode b_Wr_makeRoom 40 = .ok (.aload_n 0, 1) := by decide +kernel
theorem d_Wr_makeRoom_41 : decode b_Wr_makeRoom 41 = .ok (.aload_n 0, 1) := by decide +kernel
theorem d_Wr_makeRoom_42 : decode b_Wr_makeRoom 42 = .ok (.getfield 13, 3) := by decide +kernel
theorem d_Wr_makeRoom_45 : decode b_Wr_makeRoom 45 = .ok (.aload_n 0, 1) := by decide +kernel
theorem d_Wr_makeRoom_46 : decode b_Wr_makeRoom 46 = .ok (.getfield 25, 3) := by decide +kernel
theorem d_Wr_makeRoom_49 : decode b_Wr_makeRoom 49 = .ok (.iconst 1, 1) := by decide +kernel
theorem d_Wr_makeRoom_50 : decode b_Wr_makeRoom 50 = .ok (.iadd, 1) := by decide +kernel
theorem d_Wr_makeRoom_51 : decode b_Wr_makeRoom 51 = .ok (.sipush 16384, 3) := by decide +kernel
theorem d_Wr_makeRoom_54 : decode b_Wr_makeRoom 54 = .ok (.invokestatic 33, 3) := by decide +kernel
theorem d_Wr_makeRoom_57 : decode b_Wr_makeRoom 57 = .ok (.putfield 13, 3) := by decide +kernel
theorem d_Wr_makeRoom_60 : decode b_Wr_makeRoom 60 = .ok (.aload_n 0, 1) := by decide +kernel
theorem d_Wr_makeRoom_61 : decode b_Wr_makeRoom 61 = .ok (.aload_n 0, 1) := by decide +kernel
theorem d_Wr_makeRoom_62 : decode b_Wr_makeRoom 62 = .ok (.getfield 16, 3) := by decide +kernel
theorem d_Wr_makeRoom_65 : decode b_Wr_makeRoom 65 = .ok (.aload_n 0, 1) := by decide +kernel
theorem d_Wr_makeRoom_66 : decode b_Wr_makeRoom 66 = .ok (.getfield 25, 3) := by decide +kernel
theorem d_Wr_makeRoom_69 : decode b_Wr_makeRoom 69 = .ok (.iconst 1, 1) := by decide +kernel
theorem d_Wr_makeRoom_70 : decode b_Wr_makeRoom 70 = .ok (.iadd, 1) := by decide +kernel
theorem d_Wr_makeRoom_71 : decode b_Wr_makeRoom 71 = .ok (.sipush 16384, 3) := by decide +kernel
theorem d_Wr_makeRoom_74 : decode b_Wr_makeRoom 74 = .ok (.invokestatic 33, 3) := by decide +kernel
theorem d_Wr_makeRoom_77 : decode b_Wr_makeRoom 77 = .ok (.putfield 16, 3) := by decide +kernel
theorem d_Wr_makeRoom_80 : decode b_Wr_makeRoom 80 = .ok (.aload_n 0, 1) := by decide +kernel
theorem d_Wr_makeRoom_81 : decode b_Wr_makeRoom 81 = .ok (.aload_n 0, 1) := by decide +kernel
theorem d_Wr_makeRoom_82 : decode b_Wr_makeRoom 82 = .ok (.getfield 19, 3) := by decide +kernel
theorem d_Wr_makeRoom_85 : decode b_Wr_makeRoom 85 = .ok (.aload_n 0, 1) := by decide +kernel
theorem d_Wr_makeRoom_86 : decode b_Wr_makeRoom 86 = .ok (.getfield 25, 3) := by decide +kernel
theorem d_Wr_makeRoom_89 : decode b_Wr_makeRoom 89 = .ok (.iconst 1, 1) := by decide +kernel
theorem d_Wr_makeRoom_90 : decode b_Wr_makeRoom 90 = .ok (.iadd, 1) := by decide +kernel
theorem d_Wr_makeRoom_91 : decode b_Wr_makeRoom 91 = .ok (.sipush 16384, 3) := by decide +kernel
theorem d_Wr_makeRoom_94 : decode b_Wr_makeRoom 94 = .ok (.invokestatic 33, 3) := by decide +kernel
theorem d_Wr_makeRoom_97 : decode b_Wr_makeRoom 97 = .ok (.putfield 19, 3) := by decide +kernel
theorem d_Wr_makeRoom_100 : decode b_Wr_makeRoom 100 = .ok (.aload_n 0, 1) := by decide +kernel
theorem d_Wr_makeRoom_101 : decode b_Wr_makeRoom 101 = .ok (.aload_n 0, 1) := by decide +kernel
theorem d_Wr_makeRoom_102 : decode b_Wr_makeRoom 102 = .ok (.getfield 22, 3) := by decide +kernel
theorem d_Wr_makeRoom_105 : decode b_Wr_makeRoom 105 = .ok (.aload_n 0, 1) := by decide +kernel
theorem d_Wr_makeRoom_106 : decode b_Wr_makeRoom 106 = .ok (.getfield 25, 3) := by decide +kernel
theorem d_Wr_makeRoom_109 : decode b_Wr_makeRoom 109 = .ok (.iconst 1, 1) := by decide +kernel
theorem d_Wr_makeRoom_110 : decode b_Wr_makeRoom 110 = .ok (.iadd, 1) := by decide +kernel
theorem d_Wr_makeRoom_111 : decode b_Wr_makeRoom 111 = .ok (.sipush 16384, 3) := by decide +kernel
theorem d_Wr_makeRoom_114 : decode b_Wr_makeRoom 114 = .ok (.invokestatic 33, 3) := by decide +kernel
theorem d_Wr_makeRoom_117 : decode b_Wr_makeRoom 117 = .ok (.putfield 22, 3) := by decide +kernel
theorem d_Wr_makeRoom_120 : decode b_Wr_makeRoom 120 = .ok (.return_, 1) := by decide +kernel
theorem d_Wr_add_0 : decode b_Wr_add 0 = .ok (.aload_n 0, 1) := by decide +kernel
theorem d_Wr_add_1 : decode b_Wr_add 1 = .ok (.getfield 25, 3) := by decide +kernel
theorem d_Wr_add_4 : decode b_Wr_add 4 = .ok (.aload_n 0, 1) := by decide +kernel
theorem d_Wr_add_5 : decode b_Wr_add 5 = .ok (.getfield 7, 3) := by decide +kernel
theorem d_Wr_add_8 : decode b_Wr_add 8 = .ok (.arraylength, 1) := by decide +kernel
theorem d_Wr_add_9 : decode b_Wr_add 9 = .ok (.if_icmp .lt 4, 3) := by decide +kernel
theorem d_Wr_add_12 : decode b_Wr_add 12 = .ok (.return_, 1) := by decide +kernel
theorem d_Wr_add_13 : decode b_Wr_add 13 = .ok (.aload_n 0, 1) := by decide +kernel
theorem d_Wr_add_14 : decode b_Wr_add 14 = .ok (.getfield 7, 3) := by decide +kernel
theorem d_Wr_add_17 : decode b_Wr_add 17 = .ok (.aload_n 0, 1) := by decide +kernel
theorem d_Wr_add_18 : decode b_Wr_add 18 = .ok (.getfield 25, 3) := by decide +kernel
theorem d_Wr_add_21 : decode b_Wr_add 21 = .ok (.iload_n 1, 1) := by decide +kernel
theorem d_Wr_add_22 : decode b_Wr_add 22 = .ok (.iastore, 1) := by decide +kernel
theorem d_Wr_add_23 : decode b_Wr_add 23 = .ok (.aload_n 0, 1) := by decide +kernel
theorem d_Wr_add_24 : decode b_Wr_add 24 = .ok (.getfield 13, 3) := by decide +kernel
theorem d_Wr_add_27 : decode b_Wr_add 27 = .ok (.aload_n 0, 1) := by decide +kernel
theorem d_Wr_add_28 : decode b_Wr_add 28 = .ok (.getfield 25, 3) := by decide +kernel
theorem d_Wr_add_31 : decode b_Wr_add 31 = .ok (.iload_n 2, 1) := by decide +kernel
theorem d_Wr_add_32 : decode b_Wr_add 32 = .ok (.iastore, 1) := by decide +kernel
theorem d_Wr_add_33 : decode b_Wr_add 33 = .ok (.aload_n 0, 1) := by decide +kernel
theorem d_Wr_add_34 : decode b_Wr_add 34 = .ok (.getfield 16, 3) := by decide +kernel
theorem d_Wr_add_37 : decode b_Wr_add 37 = .ok (.aload_n 0, 1) := by decide +kernel
theorem d_Wr_add_38 : decode b_Wr_add 38 = .ok (.getfield 25, 3) := by decide +kernel
theorem d_Wr_add_41 : decode b_Wr_add 41 = .ok (.iload_n 3, 1) := by decide +kernel
theorem d_Wr_add_42 : decode b_Wr_add 42 = .ok (.iastore, 1) := by decide +kernel
theorem d_Wr_add_43 : decode b_Wr_add 43 = .ok (.aload_n 0, 1) := by decide +kernel
theorem d_Wr_add_44 : decode b_Wr_add 44 = .ok (.getfield 19, 3) := by decide +kernel
theorem d_Wr_add_47 : decode b_Wr_add 47 = .ok (.aload_n 0, 1) := by decide +kernel
theorem d_Wr_add_48 : decode b_Wr_add 48 = .ok (.getfield 25, 3) := by decide +kernel
theorem d_Wr_add_51 : decode b_Wr_add 51 = .ok (.iload 4, 2) := by decide +kernel
theorem d_Wr_add_53 : decode b_Wr_add 53 = .ok (.iload_n 3, 1) := by decide +kernel
theorem d_Wr_add_54 : decode b_Wr_add 54 = .ok (.isub, 1) := by decide +kernel
theorem d_Wr_add_55 : decode b_Wr_add 55 = .ok (.iastore, 1) := by decide +kernel
theorem d_Wr_add_56 : decode b_Wr_add 56 = .ok (.aload_n 0, 1) := by decide +kernel
theorem d_Wr_add_57 : decode b_Wr_add 57 = .ok (.getfield 22, 3) := by decide +kernel
theorem d_Wr_add_60 : decode b_Wr_add 60 = .ok (.aload_n 0, 1) := by decide +kernel
theorem d_Wr_add_61 : decode b_Wr_add 61 = .ok (.getfield 25, 3) := by decide +kernel
theorem d_Wr_add_64 : decode b_Wr_add 64 = .ok (.iload 5, 2) := by decide +kernel
theorem d_Wr_add_66 : decode b_Wr_add 66 = .ok (.iastore, 1) := by decide +kernel
theorem d_Wr_add_67 : decode b_Wr_add 67 = .ok (.aload_n 0, 1) := by decide +kernel
theorem d_Wr_add_68 : decode b_Wr_add 68 = .ok (.dup, 1) := by decide +kernel
theorem d_Wr_add_69 : decode b_Wr_add 69 = .ok (.getfield 25, 3) := by decide +kernel
theorem d_Wr_add_72 : decode b_Wr_add 72 = .ok (.iconst 1, 1) := by decide +kernel
theorem d_Wr_add_73 : decode b_Wr_add 73 = .ok (.iadd, 1) := by decide +kernel
theorem d_Wr_add_74 : decode b_Wr_add 74 = .ok (.putfield 25, 3) := by decide +kernel
theorem d_Wr_add_77 : decode b_Wr_add 77 = .ok (.return_, 1) := by decide +kernel
theorem d_Wr_has_0 : decode b_Wr_has 0 = .ok (.iload_n 1, 1) := by decide +kernel
theorem d_Wr_has_1 : decode b_Wr_has 1 = .ok (.ifCond .lt 15, 3) := by decide +kernel
theorem d_Wr_has_4 : decode b_Wr_has 4 = .ok (.iload_n 1, 1) := by decide +kernel
theorem d_Wr_has_5 : decode b_Wr_has 5 = .ok (.aload_n 0, 1) := by decide +kernel
theorem d_Wr_has_6 : decode b_Wr_has 6 = .ok (.getfield 25, 3) := by decide +kernel
theorem d_Wr_has_9 : decode b_Wr_has 9 = .ok (.if_icmp .ge 7, 3) := by decide +kernel
theorem d_Wr_has_12 : decode b_Wr_has 12 = .ok (.iconst 1, 1) := by decide +kernel
theorem d_Wr_has_13 : decode b_Wr_has 13 = .ok (.goto 4, 3) := by decide +kernel
theorem d_Wr_has_16 : decode b_Wr_has 16 = .ok (.iconst 0, 1) := by decide +kernel
theorem d_Wr_has_17 : decode b_Wr_has 17 = .ok (.ireturn, 1) := by decide +kernel
