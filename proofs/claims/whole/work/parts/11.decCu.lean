theorem d_Cu_init_0 : decode b_Cu_init 0 = .ok (.aload_n 0, 1) := by decide +kernel
theorem d_Cu_init_1 : decode b_Cu_init 1 = .ok (.invokespecial 3, 3) := by decide +kernel
theorem d_Cu_init_4 : decode b_Cu_init 4 = .ok (.aload_n 0, 1) := by decide +kernel
theorem d_Cu_init_5 : decode b_Cu_init 5 = .ok (.new 9, 3) := by decide +kernel
theorem d_Cu_init_8 : decode b_Cu_init 8 = .ok (.dup, 1) := by decide +kernel
theorem d_Cu_init_9 : decode b_Cu_init 9 = .ok (.invokespecial 11, 3) := by decide +kernel
theorem d_Cu_init_12 : decode b_Cu_init 12 = .ok (.putfield 12, 3) := by decide +kernel
theorem d_Cu_init_15 : decode b_Cu_init 15 = .ok (.aload_n 0, 1) := by decide +kernel
theorem d_Cu_init_16 : decode b_Cu_init 16 = .ok (.new 18, 3) := by decide +kernel
theorem d_Cu_init_19 : decode b_Cu_init 19 = .ok (.dup, 1) := by decide +kernel
theorem d_Cu_init_20 : decode b_Cu_init 20 = .ok (.invokespecial 20, 3) := by decide +kernel
theorem d_Cu_init_23 : decode b_Cu_init 23 = .ok (.putfield 21, 3) := by decide +kernel
theorem d_Cu_init_26 : decode b_Cu_init 26 = .ok (.aload_n 0, 1) := by decide +kernel
theorem d_Cu_init_27 : decode b_Cu_init 27 = .ok (.new 25, 3) := by decide +kernel
theorem d_Cu_init_30 : decode b_Cu_init 30 = .ok (.dup, 1) := by decide +kernel
theorem d_Cu_init_31 : decode b_Cu_init 31 = .ok (.invokespecial 27, 3) := by decide +kernel
theorem d_Cu_init_34 : decode b_Cu_init 34 = .ok (.putfield 28, 3) := by decide +kernel
theorem d_Cu_init_37 : decode b_Cu_init 37 = .ok (.aload_n 0, 1) := by decide +kernel
theorem d_Cu_init_38 : decode b_Cu_init 38 = .ok (.iconst 0, 1) := by decide +kernel
theorem d_Cu_init_39 : decode b_Cu_init 39 = .ok (.putfield 32, 3) := by decide +kernel
theorem d_Cu_init_42 : decode b_Cu_init 42 = .ok (.aload_n 0, 1) := by decide +kernel
theorem d_Cu_init_43 : decode b_Cu_init 43 = .ok (.iconst 0, 1) := by decide +kernel
theorem d_Cu_init_44 : decode b_Cu_init 44 = .ok (.putfield 36, 3) := by decide +kernel
theorem d_Cu_init_47 : decode b_Cu_init 47 = .ok (.aload_n 0, 1) := by decide +kernel
theorem d_Cu_init_48 : decode b_Cu_init 48 = .ok (.iconst 0, 1) := by decide +kernel
theorem d_Cu_init_49 : decode b_Cu_init 49 = .ok (.putfield 39, 3) := by decide +kernel
theorem d_Cu_init_52 : decode b_Cu_init 52 = .ok (.aload_n 0, 1) := by decide +kernel
theorem d_Cu_init_53 : decode b_Cu_init 53 = .ok (.iconst 1, 1) := by decide +kernel
theorem d_Cu_init_54 : decode b_Cu_init 54 = .ok (.putfield 42, 3) := by decide +kernel
theorem d_Cu_init_57 : decode b_Cu_init 57 = .ok (.aload_n 0, 1) := by decide +kernel
theorem d_Cu_init_58 : decode b_Cu_init 58 = .ok (.iconst 0, 1) := by decide +kernel
theorem d_Cu_init_59 : decode b_Cu_init 59 = .ok (.putfield 45, 3) := by decide +kernel
theorem d_Cu_init_62 : decode b_Cu_init 62 = .ok (.aload_n 0, 1) := by decide +kernel
theorem d_Cu_init_63 : decode b_Cu_init 63 = .ok (.iconst 1, 1) := by decide +kernel
theorem d_Cu_init_64 : decode b_Cu_init 64 = .ok (.putfield 48, 3) := by decide +kernel
theorem d_Cu_init_67 : decode b_Cu_init 67 = .ok (.aload_n 0, 1) := by decide +kernel
theorem d_Cu_init_68 : decode b_Cu_init 68 = .ok (.iconst 0, 1) := by decide +kernel
theorem d_Cu_init_69 : decode b_Cu_init 69 = .ok (.putfield 51, 3) := by decide +kernel
theorem d_Cu_init_72 : decode b_Cu_init 72 = .ok (.aload_n 0, 1) := by decide +kernel
theorem d_Cu_init_73 : decode b_Cu_init 73 = .ok (.iconst 1, 1) := by decide +kernel
theorem d_Cu_init_74 : decode b_Cu_init 74 = .ok (.putfield 54, 3) := by decide +kernel
theorem d_Cu_init_77 : decode b_Cu_init 77 = .ok (.return_, 1) := by decide +kernel
theorem d_Cu_startAnew_0 : decode b_Cu_startAnew 0 = .ok (.aload_n 0, 1) := by decide +kernel
theorem d_Cu_startAnew_1 : decode b_Cu_startAnew 1 = .ok (.getfield 21, 3) := by decide +kernel
theorem d_Cu_startAnew_4 : decode b_Cu_startAnew 4 = .ok (.iconst 0, 1) := by decide +kernel
theorem d_Cu_startAnew_5 : decode b_Cu_startAnew 5 = .ok (.putfield 100, 3) := by decide +kernel
theorem d_Cu_startAnew_8 : decode b_Cu_startAnew 8 = .ok (.aload_n 0, 1) := by decide +kernel
theorem d_Cu_startAnew_9 : decode b_Cu_startAnew 9 = .ok (.getfield 28, 3) := by decide +kernel
theorem d_Cu_startAnew_12 : decode b_Cu_startAnew 12 = .ok (.aload_n 0, 1) := by decide +kernel
theorem d_Cu_startAnew_13 : decode b_Cu_startAnew 13 = .ok (.getfield 12, 3) := by decide +kernel
theorem d_Cu_startAnew_16 : decode b_Cu_startAnew 16 = .ok (.getfield 60, 3) := by decide +kernel
theorem d_Cu_startAnew_19 : decode b_Cu_startAnew 19 = .ok (.invokevirtual 101, 3) := by decide +kernel
theorem d_Cu_startAnew_22 : decode b_Cu_startAnew 22 = .ok (.aload_n 0, 1) := by decide +kernel
theorem d_Cu_startAnew_23 : decode b_Cu_startAnew 23 = .ok (.iconst 0, 1) := by decide +kernel
theorem d_Cu_startAnew_24 : decode b_Cu_startAnew 24 = .ok (.putfield 32, 3) := by decide +kernel
theorem d_Cu_startAnew_27 : decode b_Cu_startAnew 27 = .ok (.aload_n 0, 1) := by decide +kernel
theorem d_Cu_startAnew_28 : decode b_Cu_startAnew 28 = .ok (.iconst 0, 1) := by decide +kernel
theorem d_Cu_startAnew_29 : decode b_Cu_startAnew 29 = .ok (.putfield 36, 3) := by decide +kernel
theorem d_Cu_startAnew_32 : decode b_Cu_startAnew 32 = .ok (.aload_n 0, 1) := by decide +kernel
theorem d_Cu_startAnew_33 : decode b_Cu_startAnew 33 = .ok (.iconst 0, 1) := by decide +kernel
theorem d_Cu_startAnew_34 : decode b_Cu_startAnew 34 = .ok (.putfield 45, 3) := by decide +kernel
theorem d_Cu_startAnew_37 : decode b_Cu_startAnew 37 = .ok (.aload_n 0, 1) := by decide +kernel
theorem d_Cu_startAnew_38 : decode b_Cu_startAnew 38 = .ok (.iconst 1, 1) := by decide +kernel
theorem d_Cu_startAnew_39 : decode b_Cu_startAnew 39 = .ok (.putfield 48, 3) := by decide +kernel
theorem d_Cu_startAnew_42 : decode b_Cu_startAnew 42 = .ok (.return_, 1) := by decide +kernel
theorem d_Cu_sortOf_0 : decode b_Cu_sortOf 0 = .ok (.iload_n 0, 1) := by decide +kernel
theorem d_Cu_sortOf_1 : decode b_Cu_sortOf 1 = .ok (.invokestatic 104, 3) := by decide +kernel
theorem d_Cu_sortOf_4 : decode b_Cu_sortOf 4 = .ok (.ifCond .eq 5, 3) := by decide +kernel
theorem d_Cu_sortOf_7 : decode b_Cu_sortOf 7 = .ok (.iconst 1, 1) := by decide +kernel
theorem d_Cu_sortOf_8 : decode b_Cu_sortOf 8 = .ok (.ireturn, 1) := by decide +kernel
theorem d_Cu_sortOf_9 : decode b_Cu_sortOf 9 = .ok (.iload_n 0, 1) := by decide +kernel
theorem d_Cu_sortOf_10 : decode b_Cu_sortOf 10 = .ok (.invokestatic 110, 3) := by decide +kernel
theorem d_Cu_sortOf_13 : decode b_Cu_sortOf 13 = .ok (.ifCond .eq 5, 3) := by decide +kernel
theorem d_Cu_sortOf_16 : decode b_Cu_sortOf 16 = .ok (.iconst 3, 1) := by decide +kernel
theorem d_Cu_sortOf_17 : decode b_Cu_sortOf 17 = .ok (.ireturn, 1) := by decide +kernel
theorem d_Cu_sortOf_18 : decode b_Cu_sortOf 18 = .ok (.iload_n 0, 1) := by decide +kernel
theorem d_Cu_sortOf_19 : decode b_Cu_sortOf 19 = .ok (.invokestatic 113, 3) := by decide +kernel
theorem d_Cu_sortOf_22 : decode b_Cu_sortOf 22 = .ok (.ifCond .ne 16, 3) := by decide +kernel
theorem d_Cu_sortOf_25 : decode b_Cu_sortOf 25 = .ok (.iload_n 0, 1) := by decide +kernel
theorem d_Cu_sortOf_26 : decode b_Cu_sortOf 26 = .ok (.bipush 46, 2) := by decide +kernel
theorem d_Cu_sortOf_28 : decode b_Cu_sortOf 28 = .ok (.if_icmp .ne 12, 3) := by decide +kernel
theorem d_Cu_sortOf_31 : decode b_Cu_sortOf 31 = .ok (.iload_n 1, 1) := by decide +kernel
theorem d_Cu_sortOf_32 : decode b_Cu_sortOf 32 = .ok (.invokestatic 113, 3) := by decide +kernel
theorem d_Cu_sortOf_35 : decode b_Cu_sortOf 35 = .ok (.ifCond .eq 5, 3) := by decide +kernel
theorem d_Cu_sortOf_38 : decode b_Cu_sortOf 38 = .ok (.iconst 4, 1) := by decide +kernel
theorem d_Cu_sortOf_39 : decode b_Cu_sortOf 39 = .ok (.ireturn, 1) := by decide +kernel
theorem d_Cu_sortOf_40 : decode b_Cu_sortOf 40 = .ok (.iload_n 0, 1) := by decide +kernel
theorem d_Cu_sortOf_41 : decode b_Cu_sortOf 41 = .ok (.bipush 45, 2) := by decide +kernel
theorem d_Cu_sortOf_43 : decode b_Cu_sortOf 43 = .ok (.if_icmp .ne 11, 3) := by decide +kernel
theorem d_Cu_sortOf_46 : decode b_Cu_sortOf 46 = .ok (.iload_n 1, 1) := by decide +kernel
theorem d_Cu_sortOf_47 : decode b_Cu_sortOf 47 = .ok (.bipush 45, 2) := by decide +kernel
theorem d_Cu_sortOf_49 : decode b_Cu_sortOf 49 = .ok (.if_icmp .ne 5, 3) := by decide +kernel
theorem d_Cu_sortOf_52 : decode b_Cu_sortOf 52 = .ok (.iconst 2, 1) := by decide +kernel
theorem d_Cu_sortOf_53 : decode b_Cu_sortOf 53 = .ok (.ireturn, 1) := by decide +kernel
theorem d_Cu_sortOf_54 : decode b_Cu_sortOf 54 = .ok (.iload_n 0, 1) := by decide +kernel
theorem d_Cu_sortOf_55 : decode b_Cu_sortOf 55 = .ok (.invokestatic 116, 3) := by decide +kernel
theorem d_Cu_sortOf_58 : decode b_Cu_sortOf 58 = .ok (.ifCond .eq 5, 3) := by decide +kernel
theorem d_Cu_sortOf_61 : decode b_Cu_sortOf 61 = .ok (.iconst 5, 1) := by decide +kernel
theorem d_Cu_sortOf_62 : decode b_Cu_sortOf 62 = .ok (.ireturn, 1) := by decide +kernel
theorem d_Cu_sortOf_63 : decode b_Cu_sortOf 63 = .ok (.iload_n 0, 1) := by decide +kernel
theorem d_Cu_sortOf_64 : decode b_Cu_sortOf 64 = .ok (.bipush 91, 2) := by decide +kernel
theorem d_Cu_sortOf_66 : decode b_Cu_sortOf 66 = .ok (.if_icmp .ne 6, 3) := by decide +kernel
theorem d_Cu_sortOf_69 : decode b_Cu_sortOf 69 = .ok (.bipush 6, 2) := by decide +kernel
theorem d_Cu_sortOf_71 : decode b_Cu_sortOf 71 = .ok (.ireturn, 1) := by decide +kernel
theorem d_Cu_sortOf_72 : decode b_Cu_sortOf 72 = .ok (.iload_n 0, 1) := by decide +kernel
theorem d_Cu_sortOf_73 : decode b_Cu_sortOf 73 = .ok (.invokestatic 119, 3) := by decide +kernel
theorem d_Cu_sortOf_76 : decode b_Cu_sortOf 76 = .ok (.ifCond .eq 8, 3) := by decide +kernel
theorem d_Cu_sortOf_79 : decode b_Cu_sortOf 79 = .ok (.bipush 7, 2) := by decide +kernel
theorem d_Cu_sortOf_81 : decode b_Cu_sortOf 81 = .ok (.goto 4, 3) := by decide +kernel
theorem d_Cu_sortOf_84 : decode b_Cu_sortOf 84 = .ok (.iconst 0, 1) := by decide +kernel
theorem d_Cu_sortOf_85 : decode b_Cu_sortOf 85 = .ok (.ireturn, 1) := by decide +kernel
theorem d_Cu_stop_0 : decode b_Cu_stop 0 = .ok (.aload_n 0, 1) := by decide +kernel
theorem d_Cu_stop_1 : decode b_Cu_stop 1 = .ok (.iload_n 1, 1) := by decide +kernel
theorem d_Cu_stop_2 : decode b_Cu_stop 2 = .ok (.putfield 36, 3) := by decide +kernel
theorem d_Cu_stop_5 : decode b_Cu_stop 5 = .ok (.aload_n 0, 1) := by decide +kernel
theorem d_Cu_stop_6 : decode b_Cu_stop 6 = .ok (.iload_n 2, 1) := by decide +kernel
theorem d_Cu_stop_7 : decode b_Cu_stop 7 = .ok (.putfield 39, 3) := by decide +kernel
theorem d_Cu_stop_10 : decode b_Cu_stop 10 = .ok (.return_, 1) := by decide +kernel
theorem d_Cu_lineOf_0 : decode b_Cu_lineOf 0 = .ok (.aload_n 0, 1) := by decide +kernel
theorem d_Cu_lineOf_1 : decode b_Cu_lineOf 1 = .ok (.getfield 45, 3) := by decide +kernel
theorem d_Cu_lineOf_4 : decode b_Cu_lineOf 4 = .ok (.iload_n 1, 1) := by decide +kernel
theorem d_Cu_lineOf_5 : decode b_Cu_lineOf 5 = .ok (.if_icmp .ge 46, 3) := by decide +kernel
theorem d_Cu_lineOf_8 : decode b_Cu_lineOf 8 = .ok (.aload_n 0, 1) := by decide +kernel
theorem d_Cu_lineOf_9 : decode b_Cu_lineOf 9 = .ok (.getfield 12, 3) := by decide +kernel
theorem d_Cu_lineOf_12 : decode b_Cu_lineOf 12 = .ok (.aload_n 0, 1) := by decide +kernel
theorem d_Cu_lineOf_13 : decode b_Cu_lineOf 13 = .ok (.getfield 45, 3) := by decide +kernel
theorem d_Cu_lineOf_16 : decode b_Cu_lineOf 16 = .ok (.invokevirtual 132, 3) := by decide +kernel
theorem d_Cu_lineOf_19 : decode b_Cu_lineOf 19 = .ok (.istore_n 2, 1) := by decide +kernel
theorem d_Cu_lineOf_20 : decode b_Cu_lineOf 20 = .ok (.iload_n 2, 1) := by decide +kernel
theorem d_Cu_lineOf_21 : decode b_Cu_lineOf 21 = .ok (.ifCond .le 13, 3) := by decide +kernel
theorem d_Cu_lineOf_24 : decode b_Cu_lineOf 24 = .ok (.aload_n 0, 1) := by decide +kernel
theorem d_Cu_lineOf_25 : decode b_Cu_lineOf 25 = .ok (.dup, 1) := by decide +kernel
theorem d_Cu_lineOf_26 : decode b_Cu_lineOf 26 = .ok (.getfield 48, 3) := by decide +kernel
theorem d_Cu_lineOf_29 : decode b_Cu_lineOf 29 = .ok (.iconst 1, 1) := by decide +kernel
theorem d_Cu_lineOf_30 : decode b_Cu_lineOf 30 = .ok (.iadd, 1) := by decide +kernel
theorem d_Cu_lineOf_31 : decode b_Cu_lineOf 31 = .ok (.putfield 48, 3) := by decide +kernel
theorem d_Cu_lineOf_34 : decode b_Cu_lineOf 34 = .ok (.aload_n 0, 1) := by decide +kernel
theorem d_Cu_lineOf_35 : decode b_Cu_lineOf 35 = .ok (.dup, 1) := by decide +kernel
theorem d_Cu_lineOf_36 : decode b_Cu_lineOf 36 = .ok (.getfield 45, 3) := by decide +kernel
theorem d_Cu_lineOf_39 : decode b_Cu_lineOf 39 = .ok (.iload_n 2, 1) := by decide +kernel
theorem d_Cu_lineOf_40 : decode b_Cu_lineOf 40 = .ok (.iconst 1, 1) := by decide +kernel
theorem d_Cu_lineOf_41 : decode b_Cu_lineOf 41 = .ok (.invokestatic 135, 3) := by decide +kernel
theorem d_Cu_lineOf_44 : decode b_Cu_lineOf 44 = .ok (.iadd, 1) := by decide +kernel
theorem d_Cu_lineOf_45 : decode b_Cu_lineOf 45 = .ok (.putfield 45, 3) := by decide +kernel
theorem d_Cu_lineOf_48 : decode b_Cu_lineOf 48 = .ok (.goto (-48), 3) := by decide +kernel
theorem d_Cu_lineOf_51 : decode b_Cu_lineOf 51 = .ok (.aload_n 0, 1) := by decide +kernel
theorem d_Cu_lineOf_52 : decode b_Cu_lineOf 52 = .ok (.getfield 48, 3) := by decide +kernel
theorem d_Cu_lineOf_55 : decode b_Cu_lineOf 55 = .ok (.ireturn, 1) := by decide +kernel
theorem d_Cu_startWord_0 : decode b_Cu_startWord 0 = .ok (.aload_n 0, 1) := by decide +kernel
theorem d_Cu_startWord_1 : decode b_Cu_startWord 1 = .ok (.getfield 21, 3) := by decide +kernel
theorem d_Cu_startWord_4 : decode b_Cu_startWord 4 = .ok (.invokevirtual 124, 3) := by decide +kernel
theorem d_Cu_startWord_7 : decode b_Cu_startWord 7 = .ok (.ifCond .eq 14, 3) := by decide +kernel
theorem d_Cu_startWord_10 : decode b_Cu_startWord 10 = .ok (.aload_n 0, 1) := by decide +kernel
theorem d_Cu_startWord_11 : decode b_Cu_startWord 11 = .ok (.bipush 6, 2) := by decide +kernel
theorem d_Cu_startWord_13 : decode b_Cu_startWord 13 = .ok (.aload_n 0, 1) := by decide +kernel
theorem d_Cu_startWord_14 : decode b_Cu_startWord 14 = .ok (.getfield 32, 3) := by decide +kernel
theorem d_Cu_startWord_17 : decode b_Cu_startWord 17 = .ok (.invokevirtual 93, 3) := by decide +kernel
theorem d_Cu_startWord_20 : decode b_Cu_startWord 20 = .ok (.return_, 1) := by decide +kernel
theorem d_Cu_startWord_21 : decode b_Cu_startWord 21 = .ok (.aload_n 0, 1) := by decide +kernel
theorem d_Cu_startWord_22 : decode b_Cu_startWord 22 = .ok (.getfield 21, 3) := by decide +kernel
theorem d_Cu_startWord_25 : decode b_Cu_startWord 25 = .ok (.invokevirtual 128, 3) := by decide +kernel
theorem d_Cu_startWord_28 : decode b_Cu_startWord 28 = .ok (.aload_n 0, 1) := by decide +kernel
theorem d_Cu_startWord_29 : decode b_Cu_startWord 29 = .ok (.getfield 28, 3) := by decide +kernel
theorem d_Cu_startWord_32 : decode b_Cu_startWord 32 = .ok (.invokevirtual 131, 3) := by decide +kernel
theorem d_Cu_startWord_35 : decode b_Cu_startWord 35 = .ok (.aload_n 0, 1) := by decide +kernel
theorem d_Cu_startWord_36 : decode b_Cu_startWord 36 = .ok (.aload_n 0, 1) := by decide +kernel
theorem d_Cu_startWord_37 : decode b_Cu_startWord 37 = .ok (.getfield 32, 3) := by decide +kernel
theorem d_Cu_startWord_40 : decode b_Cu_startWord 40 = .ok (.putfield 51, 3) := by decide +kernel
theorem d_Cu_startWord_43 : decode b_Cu_startWord 43 = .ok (.aload_n 0, 1) := by decide +kernel
theorem d_Cu_startWord_44 : decode b_Cu_startWord 44 = .ok (.aload_n 0, 1) := by decide +kernel
theorem d_Cu_startWord_45 : decode b_Cu_startWord 45 = .ok (.aload_n 0, 1) := by decide +kernel
theorem d_Cu_startWord_46 : decode b_Cu_startWord 46 = .ok (.getfield 32, 3) := by decide +kernel
theorem d_Cu_startWord_49 : decode b_Cu_startWord 49 = .ok (.invokevirtual 97, 3) := by decide +kernel
theorem d_Cu_startWord_52 : decode b_Cu_startWord 52 = .ok (.putfield 54, 3) := by decide +kernel
theorem d_Cu_startWord_55 : decode b_Cu_startWord 55 = .ok (.return_, 1) := by decide +kernel
theorem d_Cu_closingPlace_0 : decode b_Cu_closingPlace 0 = .ok (.iload_n 1, 1) := by decide +kernel
theorem d_Cu_closingPlace_1 : decode b_Cu_closingPlace 1 = .ok (.istore_n 3, 1) := by decide +kernel
theorem d_Cu_closingPlace_2 : decode b_Cu_closingPlace 2 = .ok (.iload_n 3, 1) := by decide +kernel
theorem d_Cu_closingPlace_3 : decode b_Cu_closingPlace 3 = .ok (.aload_n 0, 1) := by decide +kernel
theorem d_Cu_closingPlace_4 : decode b_Cu_closingPlace 4 = .ok (.getfield 12, 3) := by decide +kernel
theorem d_Cu_closingPlace_7 : decode b_Cu_closingPlace 7 = .ok (.getfield 60, 3) := by decide +kernel
theorem d_Cu_closingPlace_10 : decode b_Cu_closingPlace 10 = .ok (.if_icmp .ge 55, 3) := by decide +kernel
theorem d_Cu_closingPlace_13 : decode b_Cu_closingPlace 13 = .ok (.aload_n 0, 1) := by decide +kernel
theorem d_Cu_closingPlace_14 : decode b_Cu_closingPlace 14 = .ok (.getfield 12, 3) := by decide +kernel
theorem d_Cu_closingPlace_17 : decode b_Cu_closingPlace 17 = .ok (.iload_n 3, 1) := by decide +kernel
theorem d_Cu_closingPlace_18 : decode b_Cu_closingPlace 18 = .ok (.invokevirtual 63, 3) := by decide +kernel
theorem d_Cu_closingPlace_21 : decode b_Cu_closingPlace 21 = .ok (.bipush 93, 2) := by decide +kernel
theorem d_Cu_closingPlace_23 : decode b_Cu_closingPlace 23 = .ok (.if_icmp .ne 36, 3) := by decide +kernel
theorem d_Cu_closingPlace_26 : decode b_Cu_closingPlace 26 = .ok (.aload_n 0, 1) := by decide +kernel
theorem d_Cu_closingPlace_27 : decode b_Cu_closingPlace 27 = .ok (.getfield 12, 3) := by decide +kernel
theorem d_Cu_closingPlace_30 : decode b_Cu_closingPlace 30 = .ok (.iload_n 3, 1) := by decide +kernel
theorem d_Cu_closingPlace_31 : decode b_Cu_closingPlace 31 = .ok (.iconst 1, 1) := by decide +kernel
theorem d_Cu_closingPlace_32 : decode b_Cu_closingPlace 32 = .ok (.iadd, 1) := by decide +kernel
theorem d_Cu_closingPlace_33 : decode b_Cu_closingPlace 33 = .ok (.invokevirtual 140, 3) := by decide +kernel
theorem d_Cu_closingPlace_36 : decode b_Cu_closingPlace 36 = .ok (.iload_n 2, 1) := by decide +kernel
theorem d_Cu_closingPlace_37 : decode b_Cu_closingPlace 37 = .ok (.if_icmp .ne 22, 3) := by decide +kernel
theorem d_Cu_closingPlace_40 : decode b_Cu_closingPlace 40 = .ok (.aload_n 0, 1) := by decide +kernel
theorem d_Cu_closingPlace_41 : decode b_Cu_closingPlace 41 = .ok (.getfield 12, 3) := by decide +kernel
theorem d_Cu_closingPlace_44 : decode b_Cu_closingPlace 44 = .ok (.iload_n 3, 1) := by decide +kernel
theorem d_Cu_closingPlace_45 : decode b_Cu_closingPlace 45 = .ok (.iconst 1, 1) := by decide +kernel
theorem d_Cu_closingPlace_46 : decode b_Cu_closingPlace 46 = .ok (.iadd, 1) := by decide +kernel
theorem d_Cu_closingPlace_47 : decode b_Cu_closingPlace 47 = .ok (.iload_n 2, 1) := by decide +kernel
theorem d_Cu_closingPlace_48 : decode b_Cu_closingPlace 48 = .ok (.iadd, 1) := by decide +kernel
theorem d_Cu_closingPlace_49 : decode b_Cu_closingPlace 49 = .ok (.invokevirtual 63, 3) := by decide +kernel
theorem d_Cu_closingPlace_52 : decode b_Cu_closingPlace 52 = .ok (.bipush 93, 2) := by decide +kernel
theorem d_Cu_closingPlace_54 : decode b_Cu_closingPlace 54 = .ok (.if_icmp .ne 5, 3) := by decide +kernel
theorem d_Cu_closingPlace_57 : decode b_Cu_closingPlace 57 = .ok (.iload_n 3, 1) := by decide +kernel
theorem d_Cu_closingPlace_58 : decode b_Cu_closingPlace 58 = .ok (.ireturn, 1) := by decide +kernel
theorem d_Cu_closingPlace_59 : decode b_Cu_closingPlace 59 = .ok (.iinc 3 1, 3) := by decide +kernel
theorem d_Cu_closingPlace_62 : decode b_Cu_closingPlace 62 = .ok (.goto (-60), 3) := by decide +kernel
theorem d_Cu_closingPlace_65 : decode b_Cu_closingPlace 65 = .ok (.aload_n 0, 1) := by decide +kernel
theorem d_Cu_closingPlace_66 : decode b_Cu_closingPlace 66 = .ok (.iconst 4, 1) := by decide +kernel
theorem d_Cu_closingPlace_67 : decode b_Cu_closingPlace 67 = .ok (.aload_n 0, 1) := by decide +kernel
theorem d_Cu_closingPlace_68 : decode b_Cu_closingPlace 68 = .ok (.getfield 12, 3) := by decide +kernel
theorem d_Cu_closingPlace_71 : decode b_Cu_closingPlace 71 = .ok (.getfield 60, 3) := by decide +kernel
theorem d_Cu_closingPlace_74 : decode b_Cu_closingPlace 74 = .ok (.invokevirtual 93, 3) := by decide +kernel
theorem d_Cu_closingPlace_77 : decode b_Cu_closingPlace 77 = .ok (.aload_n 0, 1) := by decide +kernel
theorem d_Cu_closingPlace_78 : decode b_Cu_closingPlace 78 = .ok (.getfield 12, 3) := by decide +kernel
theorem d_Cu_closingPlace_81 : decode b_Cu_closingPlace 81 = .ok (.getfield 60, 3) := by decide +kernel
theorem d_Cu_closingPlace_84 : decode b_Cu_closingPlace 84 = .ok (.ireturn, 1) := by decide +kernel
theorem d_Cu_passComment_0 : decode b_Cu_passComment 0 = .ok (.aload_n 0, 1) := by decide +kernel
theorem d_Cu_passComment_1 : decode b_Cu_passComment 1 = .ok (.getfield 32, 3) := by decide +kernel
theorem d_Cu_passComment_4 : decode b_Cu_passComment 4 = .ok (.iconst 2, 1) := by decide +kernel
theorem d_Cu_passComment_5 : decode b_Cu_passComment 5 = .ok (.iadd, 1) := by decide +kernel
theorem d_Cu_passComment_6 : decode b_Cu_passComment 6 = .ok (.istore_n 1, 1) := by decide +kernel
theorem d_Cu_passComment_7 : decode b_Cu_passComment 7 = .ok (.aload_n 0, 1) := by decide +kernel
theorem d_Cu_passComment_8 : decode b_Cu_passComment 8 = .ok (.getfield 12, 3) := by decide +kernel
theorem d_Cu_passComment_11 : decode b_Cu_passComment 11 = .ok (.iload_n 1, 1) := by decide +kernel
theorem d_Cu_passComment_12 : decode b_Cu_passComment 12 = .ok (.iconst 1, 1) := by decide +kernel
theorem d_Cu_passComment_13 : decode b_Cu_passComment 13 = .ok (.iadd, 1) := by decide +kernel
theorem d_Cu_passComment_14 : decode b_Cu_passComment 14 = .ok (.invokevirtual 140, 3) := by decide +kernel
theorem d_Cu_passComment_17 : decode b_Cu_passComment 17 = .ok (.istore_n 2, 1) := by decide +kernel
theorem d_Cu_passComment_18 : decode b_Cu_passComment 18 = .ok (.aload_n 0, 1) := by decide +kernel
theorem d_Cu_passComment_19 : decode b_Cu_passComment 19 = .ok (.getfield 12, 3) := by decide +kernel
theorem d_Cu_passComment_22 : decode b_Cu_passComment 22 = .ok (.iload_n 1, 1) := by decide +kernel
theorem d_Cu_passComment_23 : decode b_Cu_passComment 23 = .ok (.invokevirtual 63, 3) := by decide +kernel
theorem d_Cu_passComment_26 : decode b_Cu_passComment 26 = .ok (.bipush 91, 2) := by decide +kernel
theorem d_Cu_passComment_28 : decode b_Cu_passComment 28 = .ok (.if_icmp .ne 41, 3) := by decide +kernel
theorem d_Cu_passComment_31 : decode b_Cu_passComment 31 = .ok (.aload_n 0, 1) := by decide +kernel
theorem d_Cu_passComment_32 : decode b_Cu_passComment 32 = .ok (.getfield 12, 3) := by decide +kernel
theorem d_Cu_passComment_35 : decode b_Cu_passComment 35 = .ok (.iload_n 1, 1) := by decide +kernel
theorem d_Cu_passComment_36 : decode b_Cu_passComment 36 = .ok (.iconst 1, 1) := by decide +kernel
theorem d_Cu_passComment_37 : decode b_Cu_passComment 37 = .ok (.iadd, 1) := by decide +kernel
theorem d_Cu_passComment_38 : decode b_Cu_passComment 38 = .ok (.iload_n 2, 1) := by decide +kernel
theorem d_Cu_passComment_39 : decode b_Cu_passComment 39 = .ok (.iadd, 1) := by decide +kernel
theorem d_Cu_passComment_40 : decode b_Cu_passComment 40 = .ok (.invokevirtual 63, 3) := by decide +kernel
theorem d_Cu_passComment_43 : decode b_Cu_passComment 43 = .ok (.bipush 91, 2) := by decide +kernel
theorem d_Cu_passComment_45 : decode b_Cu_passComment 45 = .ok (.if_icmp .ne 24, 3) := by decide +kernel
theorem d_Cu_passComment_48 : decode b_Cu_passComment 48 = .ok (.aload_n 0, 1) := by decide +kernel
theorem d_Cu_passComment_49 : decode b_Cu_passComment 49 = .ok (.iload_n 1, 1) := by decide +kernel
theorem d_Cu_passComment_50 : decode b_Cu_passComment 50 = .ok (.iconst 2, 1) := by decide +kernel
theorem d_Cu_passComment_51 : decode b_Cu_passComment 51 = .ok (.iadd, 1) := by decide +kernel
theorem d_Cu_passComment_52 : decode b_Cu_passComment 52 = .ok (.iload_n 2, 1) := by decide +kernel
theorem d_Cu_passComment_53 : decode b_Cu_passComment 53 = .ok (.iadd, 1) := by decide +kernel
theorem d_Cu_passComment_54 : decode b_Cu_passComment 54 = .ok (.iload_n 2, 1) := by decide +kernel
theorem d_Cu_passComment_55 : decode b_Cu_passComment 55 = .ok (.invokevirtual 143, 3) := by decide +kernel
theorem d_Cu_passComment_58 : decode b_Cu_passComment 58 = .ok (.istore_n 3, 1) := by decide +kernel
theorem d_Cu_passComment_59 : decode b_Cu_passComment 59 = .ok (.aload_n 0, 1) := by decide +kernel
theorem d_Cu_passComment_60 : decode b_Cu_passComment 60 = .ok (.iload_n 3, 1) := by decide +kernel
theorem d_Cu_passComment_61 : decode b_Cu_passComment 61 = .ok (.iconst 2, 1) := by decide +kernel
theorem d_Cu_passComment_62 : decode b_Cu_passComment 62 = .ok (.iadd, 1) := by decide +kernel
theorem d_Cu_passComment_63 : decode b_Cu_passComment 63 = .ok (.iload_n 2, 1) := by decide +kernel
theorem d_Cu_passComment_64 : decode b_Cu_passComment 64 = .ok (.iadd, 1) := by decide +kernel
theorem d_Cu_passComment_65 : decode b_Cu_passComment 65 = .ok (.putfield 32, 3) := by decide +kernel
theorem d_Cu_passComment_68 : decode b_Cu_passComment 68 = .ok (.return_, 1) := by decide +kernel
theorem d_Cu_passComment_69 : decode b_Cu_passComment 69 = .ok (.aload_n 0, 1) := by decide +kernel
theorem d_Cu_passComment_70 : decode b_Cu_passComment 70 = .ok (.iload_n 1, 1) := by decide +kernel
theorem d_Cu_passComment_71 : decode b_Cu_passComment 71 = .ok (.putfield 32, 3) := by decide +kernel
theorem d_Cu_passComment_74 : decode b_Cu_passComment 74 = .ok (.aload_n 0, 1) := by decide +kernel
theorem d_Cu_passComment_75 : decode b_Cu_passComment 75 = .ok (.getfield 32, 3) := by decide +kernel
theorem d_Cu_passComment_78 : decode b_Cu_passComment 78 = .ok (.aload_n 0, 1) := by decide +kernel
theorem d_Cu_passComment_79 : decode b_Cu_passComment 79 = .ok (.getfield 12, 3) := by decide +kernel
theorem d_Cu_passComment_82 : decode b_Cu_passComment 82 = .ok (.getfield 60, 3) := by decide +kernel
theorem d_Cu_passComment_85 : decode b_Cu_passComment 85 = .ok (.if_icmp .ge 33, 3) := by decide +kernel
theorem d_Cu_passComment_88 : decode b_Cu_passComment 88 = .ok (.aload_n 0, 1) := by decide +kernel
theorem d_Cu_passComment_89 : decode b_Cu_passComment 89 = .ok (.getfield 12, 3) := by decide +kernel
theorem d_Cu_passComment_92 : decode b_Cu_passComment 92 = .ok (.aload_n 0, 1) := by decide +kernel
theorem d_Cu_passComment_93 : decode b_Cu_passComment 93 = .ok (.getfield 32, 3) := by decide +kernel
theorem d_Cu_passComment_96 : decode b_Cu_passComment 96 = .ok (.invokevirtual 63, 3) := by decide +kernel
theorem d_Cu_passComment_99 : decode b_Cu_passComment 99 = .ok (.invokestatic 146, 3) := by decide +kernel
theorem d_Cu_passComment_102 : decode b_Cu_passComment 102 = .ok (.ifCond .ne 16, 3) := by decide +kernel
theorem d_Cu_passComment_105 : decode b_Cu_passComment 105 = .ok (.aload_n 0, 1) := by decide +kernel
theorem d_Cu_passComment_106 : decode b_Cu_passComment 106 = .ok (.dup, 1) := by decide +kernel
theorem d_Cu_passComment_107 : decode b_Cu_passComment 107 = .ok (.getfield 32, 3) := by decide +kernel
theorem d_Cu_passComment_110 : decode b_Cu_passComment 110 = .ok (.iconst 1, 1) := by decide +kernel
theorem d_Cu_passComment_111 : decode b_Cu_passComment 111 = .ok (.iadd, 1) := by decide +kernel
theorem d_Cu_passComment_112 : decode b_Cu_passComment 112 = .ok (.putfield 32, 3) := by decide +kernel
theorem d_Cu_passComment_115 : decode b_Cu_passComment 115 = .ok (.goto (-41), 3) := by decide +kernel
theorem d_Cu_passComment_118 : decode b_Cu_passComment 118 = .ok (.return_, 1) := by decide +kernel
theorem d_Cu_isNamePart_0 : decode b_Cu_isNamePart 0 = .ok (.iload_n 0, 1) := by decide +kernel
theorem d_Cu_isNamePart_1 : decode b_Cu_isNamePart 1 = .ok (.invokestatic 110, 3) := by decide +kernel
theorem d_Cu_isNamePart_4 : decode b_Cu_isNamePart 4 = .ok (.ifCond .ne 10, 3) := by decide +kernel
theorem d_Cu_isNamePart_7 : decode b_Cu_isNamePart 7 = .ok (.iload_n 0, 1) := by decide +kernel
theorem d_Cu_isNamePart_8 : decode b_Cu_isNamePart 8 = .ok (.invokestatic 113, 3) := by decide +kernel
theorem d_Cu_isNamePart_11 : decode b_Cu_isNamePart 11 = .ok (.ifCond .eq 7, 3) := by decide +kernel
theorem d_Cu_isNamePart_14 : decode b_Cu_isNamePart 14 = .ok (.iconst 1, 1) := by decide +kernel
theorem d_Cu_isNamePart_15 : decode b_Cu_isNamePart 15 = .ok (.goto 4, 3) := by decide +kernel
theorem d_Cu_isNamePart_18 : decode b_Cu_isNamePart 18 = .ok (.iconst 0, 1) := by decide +kernel
theorem d_Cu_isNamePart_19 : decode b_Cu_isNamePart 19 = .ok (.ireturn, 1) := by decide +kernel
theorem d_Cu_endWord_0 : decode b_Cu_endWord 0 = .ok (.aload_n 0, 1) := by decide +kernel
theorem d_Cu_endWord_1 : decode b_Cu_endWord 1 = .ok (.getfield 21, 3) := by decide +kernel
theorem d_Cu_endWord_4 : decode b_Cu_endWord 4 = .ok (.iload_n 1, 1) := by decide +kernel
theorem d_Cu_endWord_5 : decode b_Cu_endWord 5 = .ok (.aload_n 0, 1) := by decide +kernel
theorem d_Cu_endWord_6 : decode b_Cu_endWord 6 = .ok (.getfield 54, 3) := by decide +kernel
theorem d_Cu_endWord_9 : decode b_Cu_endWord 9 = .ok (.aload_n 0, 1) := by decide +kernel
theorem d_Cu_endWord_10 : decode b_Cu_endWord 10 = .ok (.getfield 51, 3) := by decide +kernel
theorem d_Cu_endWord_13 : decode b_Cu_endWord 13 = .ok (.aload_n 0, 1) := by decide +kernel
theorem d_Cu_endWord_14 : decode b_Cu_endWord 14 = .ok (.getfield 32, 3) := by decide +kernel
theorem d_Cu_endWord_17 : decode b_Cu_endWord 17 = .ok (.iload_n 2, 1) := by decide +kernel
theorem d_Cu_endWord_18 : decode b_Cu_endWord 18 = .ok (.invokevirtual 149, 3) := by decide +kernel
theorem d_Cu_endWord_21 : decode b_Cu_endWord 21 = .ok (.return_, 1) := by decide +kernel
theorem d_Cu_endAsWritten_0 : decode b_Cu_endAsWritten 0 = .ok (.aload_n 0, 1) := by decide +kernel
theorem d_Cu_endAsWritten_1 : decode b_Cu_endAsWritten 1 = .ok (.getfield 28, 3) := by decide +kernel
theorem d_Cu_endAsWritten_4 : decode b_Cu_endAsWritten 4 = .ok (.invokevirtual 153, 3) := by decide +kernel
theorem d_Cu_endAsWritten_7 : decode b_Cu_endAsWritten 7 = .ok (.aload_n 0, 1) := by decide +kernel
theorem d_Cu_endAsWritten_8 : decode b_Cu_endAsWritten 8 = .ok (.getfield 51, 3) := by decide +kernel
theorem d_Cu_endAsWritten_11 : decode b_Cu_endAsWritten 11 = .ok (.istore_n 2, 1) := by decide +kernel
theorem d_Cu_endAsWritten_12 : decode b_Cu_endAsWritten 12 = .ok (.iload_n 2, 1) := by decide +kernel
theorem d_Cu_endAsWritten_13 : decode b_Cu_endAsWritten 13 = .ok (.aload_n 0, 1) := by decide +kernel
theorem d_Cu_endAsWritten_14 : decode b_Cu_endAsWritten 14 = .ok (.getfield 32, 3) := by decide +kernel
theorem d_Cu_endAsWritten_17 : decode b_Cu_endAsWritten 17 = .ok (.if_icmp .ge 24, 3) := by decide +kernel
theorem d_Cu_endAsWritten_20 : decode b_Cu_endAsWritten 20 = .ok (.aload_n 0, 1) := by decide +kernel
theorem d_Cu_endAsWritten_21 : decode b_Cu_endAsWritten 21 = .ok (.getfield 28, 3) := by decide +kernel
theorem d_Cu_endAsWritten_24 : decode b_Cu_endAsWritten 24 = .ok (.aload_n 0, 1) := by decide +kernel
theorem d_Cu_endAsWritten_25 : decode b_Cu_endAsWritten 25 = .ok (.getfield 12, 3) := by decide +kernel
theorem d_Cu_endAsWritten_28 : decode b_Cu_endAsWritten 28 = .ok (.iload_n 2, 1) := by decide +kernel
theorem d_Cu_endAsWritten_29 : decode b_Cu_endAsWritten 29 = .ok (.invokevirtual 63, 3) := by decide +kernel
theorem d_Cu_endAsWritten_32 : decode b_Cu_endAsWritten 32 = .ok (.invokevirtual 156, 3) := by decide +kernel
theorem d_Cu_endAsWritten_35 : decode b_Cu_endAsWritten 35 = .ok (.iinc 2 1, 3) := by decide +kernel
theorem d_Cu_endAsWritten_38 : decode b_Cu_endAsWritten 38 = .ok (.goto (-26), 3) := by decide +kernel
theorem d_Cu_endAsWritten_41 : decode b_Cu_endAsWritten 41 = .ok (.aload_n 0, 1) := by decide +kernel
theorem d_Cu_endAsWritten_42 : decode b_Cu_endAsWritten 42 = .ok (.iload_n 1, 1) := by decide +kernel
theorem d_Cu_endAsWritten_43 : decode b_Cu_endAsWritten 43 = .ok (.aload_n 0, 1) := by decide +kernel
theorem d_Cu_endAsWritten_44 : decode b_Cu_endAsWritten 44 = .ok (.getfield 28, 3) := by decide +kernel
theorem d_Cu_endAsWritten_47 : decode b_Cu_endAsWritten 47 = .ok (.invokevirtual 159, 3) := by decide +kernel
theorem d_Cu_endAsWritten_50 : decode b_Cu_endAsWritten 50 = .ok (.invokevirtual 163, 3) := by decide +kernel
theorem d_Cu_endAsWritten_53 : decode b_Cu_endAsWritten 53 = .ok (.return_, 1) := by decide +kernel
theorem d_Cu_readName_0 : decode b_Cu_readName 0 = .ok (.lconst 0, 1) := by decide +kernel
theorem d_Cu_readName_1 : decode b_Cu_readName 1 = .ok (.lstore_n 1, 1) := by decide +kernel
theorem d_Cu_readName_2 : decode b_Cu_readName 2 = .ok (.aload_n 0, 1) := by decide +kernel
theorem d_Cu_readName_3 : decode b_Cu_readName 3 = .ok (.getfield 32, 3) := by decide +kernel
theorem d_Cu_readName_6 : decode b_Cu_readName 6 = .ok (.aload_n 0, 1) := by decide +kernel
theorem d_Cu_readName_7 : decode b_Cu_readName 7 = .ok (.getfield 12, 3) := by decide +kernel
theorem d_Cu_readName_10 : decode b_Cu_readName 10 = .ok (.getfield 60, 3) := by decide +kernel
theorem d_Cu_readName_13 : decode b_Cu_readName 13 = .ok (.if_icmp .ge 51, 3) := by decide +kernel
theorem d_Cu_readName_16 : decode b_Cu_readName 16 = .ok (.aload_n 0, 1) := by decide +kernel
theorem d_Cu_readName_17 : decode b_Cu_readName 17 = .ok (.getfield 12, 3) := by decide +kernel
theorem d_Cu_readName_20 : decode b_Cu_readName 20 = .ok (.aload_n 0, 1) := by decide +kernel
theorem d_Cu_readName_21 : decode b_Cu_readName 21 = .ok (.getfield 32, 3) := by decide +kernel
theorem d_Cu_readName_24 : decode b_Cu_readName 24 = .ok (.invokevirtual 63, 3) := by decide +kernel
theorem d_Cu_readName_27 : decode b_Cu_readName 27 = .ok (.invokestatic 166, 3) := by decide +kernel
theorem d_Cu_readName_30 : decode b_Cu_readName 30 = .ok (.ifCond .eq 34, 3) := by decide +kernel
theorem d_Cu_readName_33 : decode b_Cu_readName 33 = .ok (.lload_n 1, 1) := by decide +kernel
theorem d_Cu_readName_34 : decode b_Cu_readName 34 = .ok (.bipush 8, 2) := by decide +kernel
theorem d_Cu_readName_36 : decode b_Cu_readName 36 = .ok (.lshl, 1) := by decide +kernel
theorem d_Cu_readName_37 : decode b_Cu_readName 37 = .ok (.aload_n 0, 1) := by decide +kernel
theorem d_Cu_readName_38 : decode b_Cu_readName 38 = .ok (.getfield 12, 3) := by decide +kernel
theorem d_Cu_readName_41 : decode b_Cu_readName 41 = .ok (.aload_n 0, 1) := by decide +kernel
theorem d_Cu_readName_42 : decode b_Cu_readName 42 = .ok (.getfield 32, 3) := by decide +kernel
theorem d_Cu_readName_45 : decode b_Cu_readName 45 = .ok (.invokevirtual 63, 3) := by decide +kernel
theorem d_Cu_readName_48 : decode b_Cu_readName 48 = .ok (.i2l, 1) := by decide +kernel
theorem d_Cu_readName_49 : decode b_Cu_readName 49 = .ok (.lor, 1) := by decide +kernel
theorem d_Cu_readName_50 : decode b_Cu_readName 50 = .ok (.lstore_n 1, 1) := by decide +kernel
theorem d_Cu_readName_51 : decode b_Cu_readName 51 = .ok (.aload_n 0, 1) := by decide +kernel
theorem d_Cu_readName_52 : decode b_Cu_readName 52 = .ok (.dup, 1) := by decide +kernel
theorem d_Cu_readName_53 : decode b_Cu_readName 53 = .ok (.getfield 32, 3) := by decide +kernel
theorem d_Cu_readName_56 : decode b_Cu_readName 56 = .ok (.iconst 1, 1) := by decide +kernel
theorem d_Cu_readName_57 : decode b_Cu_readName 57 = .ok (.iadd, 1) := by decide +kernel
theorem d_Cu_readName_58 : decode b_Cu_readName 58 = .ok (.putfield 32, 3) := by decide +kernel
theorem d_Cu_readName_61 : decode b_Cu_readName 61 = .ok (.goto (-59), 3) := by decide +kernel
theorem d_Cu_readName_64 : decode b_Cu_readName 64 = .ok (.aload_n 0, 1) := by decide +kernel
theorem d_Cu_readName_65 : decode b_Cu_readName 65 = .ok (.getfield 32, 3) := by decide +kernel
theorem d_Cu_readName_68 : decode b_Cu_readName 68 = .ok (.aload_n 0, 1) := by decide +kernel
theorem d_Cu_readName_69 : decode b_Cu_readName 69 = .ok (.getfield 51, 3) := by decide +kernel
theorem d_Cu_readName_72 : decode b_Cu_readName 72 = .ok (.isub, 1) := by decide +kernel
theorem d_Cu_readName_73 : decode b_Cu_readName 73 = .ok (.bipush 8, 2) := by decide +kernel
theorem d_Cu_readName_75 : decode b_Cu_readName 75 = .ok (.if_icmp .gt 10, 3) := by decide +kernel
theorem d_Cu_readName_78 : decode b_Cu_readName 78 = .ok (.lload_n 1, 1) := by decide +kernel
theorem d_Cu_readName_79 : decode b_Cu_readName 79 = .ok (.invokestatic 171, 3) := by decide +kernel
theorem d_Cu_readName_82 : decode b_Cu_readName 82 = .ok (.goto 4, 3) := by decide +kernel
theorem d_Cu_readName_85 : decode b_Cu_readName 85 = .ok (.iconst 0, 1) := by decide +kernel
theorem d_Cu_readName_86 : decode b_Cu_readName 86 = .ok (.istore_n 3, 1) := by decide +kernel
theorem d_Cu_readName_87 : decode b_Cu_readName 87 = .ok (.iload_n 3, 1) := by decide +kernel
theorem d_Cu_readName_88 : decode b_Cu_readName 88 = .ok (.ifCond .eq 12, 3) := by decide +kernel
theorem d_Cu_readName_91 : decode b_Cu_readName 91 = .ok (.aload_n 0, 1) := by decide +kernel
theorem d_Cu_readName_92 : decode b_Cu_readName 92 = .ok (.iload_n 3, 1) := by decide +kernel
theorem d_Cu_readName_93 : decode b_Cu_readName 93 = .ok (.iconst (-1), 1) := by decide +kernel
theorem d_Cu_readName_94 : decode b_Cu_readName 94 = .ok (.invokevirtual 163, 3) := by decide +kernel
theorem d_Cu_readName_97 : decode b_Cu_readName 97 = .ok (.goto 8, 3) := by decide +kernel
theorem d_Cu_readName_100 : decode b_Cu_readName 100 = .ok (.aload_n 0, 1) := by decide +kernel
theorem d_Cu_readName_101 : decode b_Cu_readName 101 = .ok (.iconst 1, 1) := by decide +kernel
theorem d_Cu_readName_102 : decode b_Cu_readName 102 = .ok (.invokevirtual 175, 3) := by decide +kernel
theorem d_Cu_readName_105 : decode b_Cu_readName 105 = .ok (.return_, 1) := by decide +kernel
theorem d_Cu_isNumeralPart_0 : decode b_Cu_isNumeralPart 0 = .ok (.iload_n 0, 1) := by decide +kernel
theorem d_Cu_isNumeralPart_1 : decode b_Cu_isNumeralPart 1 = .ok (.invokestatic 166, 3) := by decide +kernel
theorem d_Cu_isNumeralPart_4 : decode b_Cu_isNumeralPart 4 = .ok (.ifCond .ne 24, 3) := by decide +kernel
theorem d_Cu_isNumeralPart_7 : decode b_Cu_isNumeralPart 7 = .ok (.iload_n 0, 1) := by decide +kernel
theorem d_Cu_isNumeralPart_8 : decode b_Cu_isNumeralPart 8 = .ok (.bipush 46, 2) := by decide +kernel
theorem d_Cu_isNumeralPart_10 : decode b_Cu_isNumeralPart 10 = .ok (.if_icmp .eq 18, 3) := by decide +kernel
theorem d_Cu_isNumeralPart_13 : decode b_Cu_isNumeralPart 13 = .ok (.iload_n 0, 1) := by decide +kernel
theorem d_Cu_isNumeralPart_14 : decode b_Cu_isNumeralPart 14 = .ok (.invokestatic 193, 3) := by decide +kernel
theorem d_Cu_isNumeralPart_17 : decode b_Cu_isNumeralPart 17 = .ok (.ifCond .eq 15, 3) := by decide +kernel
theorem d_Cu_isNumeralPart_20 : decode b_Cu_isNumeralPart 20 = .ok (.iload_n 1, 1) := by decide +kernel
theorem d_Cu_isNumeralPart_21 : decode b_Cu_isNumeralPart 21 = .ok (.iload_n 2, 1) := by decide +kernel
theorem d_Cu_isNumeralPart_22 : decode b_Cu_isNumeralPart 22 = .ok (.invokestatic 178, 3) := by decide +kernel
theorem d_Cu_isNumeralPart_25 : decode b_Cu_isNumeralPart 25 = .ok (.ifCond .eq 7, 3) := by decide +kernel
theorem d_Cu_isNumeralPart_28 : decode b_Cu_isNumeralPart 28 = .ok (.iconst 1, 1) := by decide +kernel
theorem d_Cu_isNumeralPart_29 : decode b_Cu_isNumeralPart 29 = .ok (.goto 4, 3) := by decide +kernel
theorem d_Cu_isNumeralPart_32 : decode b_Cu_isNumeralPart 32 = .ok (.iconst 0, 1) := by decide +kernel
theorem d_Cu_isNumeralPart_33 : decode b_Cu_isNumeralPart 33 = .ok (.ireturn, 1) := by decide +kernel
theorem d_Cu_isNumeralDigit_0 : decode b_Cu_isNumeralDigit 0 = .ok (.iload_n 1, 1) := by decide +kernel
theorem d_Cu_isNumeralDigit_1 : decode b_Cu_isNumeralDigit 1 = .ok (.ifCond .eq 18, 3) := by decide +kernel
theorem d_Cu_isNumeralDigit_4 : decode b_Cu_isNumeralDigit 4 = .ok (.iload_n 0, 1) := by decide +kernel
theorem d_Cu_isNumeralDigit_5 : decode b_Cu_isNumeralDigit 5 = .ok (.invokestatic 200, 3) := by decide +kernel
theorem d_Cu_isNumeralDigit_8 : decode b_Cu_isNumeralDigit 8 = .ok (.ifCond .lt 7, 3) := by decide +kernel
theorem d_Cu_isNumeralDigit_11 : decode b_Cu_isNumeralDigit 11 = .ok (.iconst 1, 1) := by decide +kernel
theorem d_Cu_isNumeralDigit_12 : decode b_Cu_isNumeralDigit 12 = .ok (.goto 11, 3) := by decide +kernel
theorem d_Cu_isNumeralDigit_15 : decode b_Cu_isNumeralDigit 15 = .ok (.iconst 0, 1) := by decide +kernel
theorem d_Cu_isNumeralDigit_16 : decode b_Cu_isNumeralDigit 16 = .ok (.goto 7, 3) := by decide +kernel
theorem d_Cu_isNumeralDigit_19 : decode b_Cu_isNumeralDigit 19 = .ok (.iload_n 0, 1) := by decide +kernel
theorem d_Cu_isNumeralDigit_20 : decode b_Cu_isNumeralDigit 20 = .ok (.invokestatic 113, 3) := by decide +kernel
theorem d_Cu_isNumeralDigit_23 : decode b_Cu_isNumeralDigit 23 = .ok (.ireturn, 1) := by decide +kernel
theorem d_Cu_passDigits_0 : decode b_Cu_passDigits 0 = .ok (.iconst 0, 1) := by decide +kernel
theorem d_Cu_passDigits_1 : decode b_Cu_passDigits 1 = .ok (.istore_n 3, 1) := by decide +kernel
theorem d_Cu_passDigits_2 : decode b_Cu_passDigits 2 = .ok (.iconst 0, 1) := by decide +kernel
theorem d_Cu_passDigits_3 : decode b_Cu_passDigits 3 = .ok (.istore 4, 2) := by decide +kernel
theorem d_Cu_passDigits_5 : decode b_Cu_passDigits 5 = .ok (.iload_n 1, 1) := by decide +kernel
theorem d_Cu_passDigits_6 : decode b_Cu_passDigits 6 = .ok (.istore 5, 2) := by decide +kernel
theorem d_Cu_passDigits_8 : decode b_Cu_passDigits 8 = .ok (.iload 5, 2) := by decide +kernel
theorem d_Cu_passDigits_10 : decode b_Cu_passDigits 10 = .ok (.aload_n 0, 1) := by decide +kernel
theorem d_Cu_passDigits_11 : decode b_Cu_passDigits 11 = .ok (.getfield 32, 3) := by decide +kernel
theorem d_Cu_passDigits_14 : decode b_Cu_passDigits 14 = .ok (.if_icmp .ge 62, 3) := by decide +kernel
theorem d_Cu_passDigits_17 : decode b_Cu_passDigits 17 = .ok (.aload_n 0, 1) := by decide +kernel
theorem d_Cu_passDigits_18 : decode b_Cu_passDigits 18 = .ok (.getfield 12, 3) := by decide +kernel
theorem d_Cu_passDigits_21 : decode b_Cu_passDigits 21 = .ok (.iload 5, 2) := by decide +kernel
theorem d_Cu_passDigits_23 : decode b_Cu_passDigits 23 = .ok (.invokevirtual 63, 3) := by decide +kernel
theorem d_Cu_passDigits_26 : decode b_Cu_passDigits 26 = .ok (.bipush 46, 2) := by decide +kernel
theorem d_Cu_passDigits_28 : decode b_Cu_passDigits 28 = .ok (.if_icmp .eq 19, 3) := by decide +kernel
theorem d_Cu_passDigits_31 : decode b_Cu_passDigits 31 = .ok (.aload_n 0, 1) := by decide +kernel
theorem d_Cu_passDigits_32 : decode b_Cu_passDigits 32 = .ok (.getfield 12, 3) := by decide +kernel
theorem d_Cu_passDigits_35 : decode b_Cu_passDigits 35 = .ok (.iload 5, 2) := by decide +kernel
theorem d_Cu_passDigits_37 : decode b_Cu_passDigits 37 = .ok (.invokevirtual 63, 3) := by decide +kernel
theorem d_Cu_passDigits_40 : decode b_Cu_passDigits 40 = .ok (.iload_n 2, 1) := by decide +kernel
theorem d_Cu_passDigits_41 : decode b_Cu_passDigits 41 = .ok (.invokestatic 196, 3) := by decide +kernel
theorem d_Cu_passDigits_44 : decode b_Cu_passDigits 44 = .ok (.ifCond .eq 32, 3) := by decide +kernel
theorem d_Cu_passDigits_47 : decode b_Cu_passDigits 47 = .ok (.aload_n 0, 1) := by decide +kernel
theorem d_Cu_passDigits_48 : decode b_Cu_passDigits 48 = .ok (.getfield 12, 3) := by decide +kernel
theorem d_Cu_passDigits_51 : decode b_Cu_passDigits 51 = .ok (.iload 5, 2) := by decide +kernel
theorem d_Cu_passDigits_53 : decode b_Cu_passDigits 53 = .ok (.invokevirtual 63, 3) := by decide +kernel
theorem d_Cu_passDigits_56 : decode b_Cu_passDigits 56 = .ok (.bipush 46, 2) := by decide +kernel
theorem d_Cu_passDigits_58 : decode b_Cu_passDigits 58 = .ok (.if_icmp .ne 9, 3) := by decide +kernel
theorem d_Cu_passDigits_61 : decode b_Cu_passDigits 61 = .ok (.iinc 4 1, 3) := by decide +kernel
theorem d_Cu_passDigits_64 : decode b_Cu_passDigits 64 = .ok (.goto 6, 3) := by decide +kernel
theorem d_Cu_passDigits_67 : decode b_Cu_passDigits 67 = .ok (.iinc 3 1, 3) := by decide +kernel
theorem d_Cu_passDigits_70 : decode b_Cu_passDigits 70 = .ok (.iinc 5 1, 3) := by decide +kernel
theorem d_Cu_passDigits_73 : decode b_Cu_passDigits 73 = .ok (.goto (-65), 3) := by decide +kernel
theorem d_Cu_passDigits_76 : decode b_Cu_passDigits 76 = .ok (.iload_n 3, 1) := by decide +kernel
theorem d_Cu_passDigits_77 : decode b_Cu_passDigits 77 = .ok (.ifCond .le 14, 3) := by decide +kernel
theorem d_Cu_passDigits_80 : decode b_Cu_passDigits 80 = .ok (.iload 4, 2) := by decide +kernel
theorem d_Cu_passDigits_82 : decode b_Cu_passDigits 82 = .ok (.iconst 1, 1) := by decide +kernel
theorem d_Cu_passDigits_83 : decode b_Cu_passDigits 83 = .ok (.if_icmp .gt 8, 3) := by decide +kernel
theorem d_Cu_passDigits_86 : decode b_Cu_passDigits 86 = .ok (.iload 5, 2) := by decide +kernel
theorem d_Cu_passDigits_88 : decode b_Cu_passDigits 88 = .ok (.goto 4, 3) := by decide +kernel
theorem d_Cu_passDigits_91 : decode b_Cu_passDigits 91 = .ok (.iconst (-1), 1) := by decide +kernel
theorem d_Cu_passDigits_92 : decode b_Cu_passDigits 92 = .ok (.ireturn, 1) := by decide +kernel
theorem d_Cu_isExponentOrNothing_0 : decode b_Cu_isExponentOrNothing 0 = .ok (.iload_n 1, 1) := by decide +kernel
theorem d_Cu_isExponentOrNothing_1 : decode b_Cu_isExponentOrNothing 1 = .ok (.aload_n 0, 1) := by decide +kernel
theorem d_Cu_isExponentOrNothing_2 : decode b_Cu_isExponentOrNothing 2 = .ok (.getfield 32, 3) := by decide +kernel
theorem d_Cu_isExponentOrNothing_5 : decode b_Cu_isExponentOrNothing 5 = .ok (.if_icmp .lt 5, 3) := by decide +kernel
theorem d_Cu_isExponentOrNothing_8 : decode b_Cu_isExponentOrNothing 8 = .ok (.iconst 1, 1) := by decide +kernel
theorem d_Cu_isExponentOrNothing_9 : decode b_Cu_isExponentOrNothing 9 = .ok (.ireturn, 1) := by decide +kernel
theorem d_Cu_isExponentOrNothing_10 : decode b_Cu_isExponentOrNothing 10 = .ok (.aload_n 0, 1) := by decide +kernel
theorem d_Cu_isExponentOrNothing_11 : decode b_Cu_isExponentOrNothing 11 = .ok (.getfield 12, 3) := by decide +kernel
theorem d_Cu_isExponentOrNothing_14 : decode b_Cu_isExponentOrNothing 14 = .ok (.iload_n 1, 1) := by decide +kernel
theorem d_Cu_isExponentOrNothing_15 : decode b_Cu_isExponentOrNothing 15 = .ok (.invokevirtual 63, 3) := by decide +kernel
theorem d_Cu_isExponentOrNothing_18 : decode b_Cu_isExponentOrNothing 18 = .ok (.iload_n 2, 1) := by decide +kernel
theorem d_Cu_isExponentOrNothing_19 : decode b_Cu_isExponentOrNothing 19 = .ok (.invokestatic 178, 3) := by decide +kernel
theorem d_Cu_isExponentOrNothing_22 : decode b_Cu_isExponentOrNothing 22 = .ok (.ifCond .ne 5, 3) := by decide +kernel
theorem d_Cu_isExponentOrNothing_25 : decode b_Cu_isExponentOrNothing 25 = .ok (.iconst 0, 1) := by decide +kernel
theorem d_Cu_isExponentOrNothing_26 : decode b_Cu_isExponentOrNothing 26 = .ok (.ireturn, 1) := by decide +kernel
theorem d_Cu_isExponentOrNothing_27 : decode b_Cu_isExponentOrNothing 27 = .ok (.iload_n 1, 1) := by decide +kernel
theorem d_Cu_isExponentOrNothing_28 : decode b_Cu_isExponentOrNothing 28 = .ok (.iconst 1, 1) := by decide +kernel
theorem d_Cu_isExponentOrNothing_29 : decode b_Cu_isExponentOrNothing 29 = .ok (.iadd, 1) := by decide +kernel
theorem d_Cu_isExponentOrNothing_30 : decode b_Cu_isExponentOrNothing 30 = .ok (.istore_n 3, 1) := by decide +kernel
theorem d_Cu_isExponentOrNothing_31 : decode b_Cu_isExponentOrNothing 31 = .ok (.iload_n 3, 1) := by decide +kernel
theorem d_Cu_isExponentOrNothing_32 : decode b_Cu_isExponentOrNothing 32 = .ok (.aload_n 0, 1) := by decide +kernel
theorem d_Cu_isExponentOrNothing_33 : decode b_Cu_isExponentOrNothing 33 = .ok (.getfield 32, 3) := by decide +kernel
theorem d_Cu_isExponentOrNothing_36 : decode b_Cu_isExponentOrNothing 36 = .ok (.if_icmp .ge 20, 3) := by decide +kernel
theorem d_Cu_isExponentOrNothing_39 : decode b_Cu_isExponentOrNothing 39 = .ok (.aload_n 0, 1) := by decide +kernel
theorem d_Cu_isExponentOrNothing_40 : decode b_Cu_isExponentOrNothing 40 = .ok (.getfield 12, 3) := by decide +kernel
theorem d_Cu_isExponentOrNothing_43 : decode b_Cu_isExponentOrNothing 43 = .ok (.iload_n 3, 1) := by decide +kernel
theorem d_Cu_isExponentOrNothing_44 : decode b_Cu_isExponentOrNothing 44 = .ok (.invokevirtual 63, 3) := by decide +kernel
theorem d_Cu_isExponentOrNothing_47 : decode b_Cu_isExponentOrNothing 47 = .ok (.invokestatic 193, 3) := by decide +kernel
theorem d_Cu_isExponentOrNothing_50 : decode b_Cu_isExponentOrNothing 50 = .ok (.ifCond .eq 6, 3) := by decide +kernel
theorem d_Cu_isExponentOrNothing_53 : decode b_Cu_isExponentOrNothing 53 = .ok (.iinc 3 1, 3) := by decide +kernel
theorem d_Cu_isExponentOrNothing_56 : decode b_Cu_isExponentOrNothing 56 = .ok (.iload_n 3, 1) := by decide +kernel
theorem d_Cu_isExponentOrNothing_57 : decode b_Cu_isExponentOrNothing 57 = .ok (.istore 4, 2) := by decide +kernel
theorem d_Cu_isExponentOrNothing_59 : decode b_Cu_isExponentOrNothing 59 = .ok (.iload 4, 2) := by decide +kernel
theorem d_Cu_isExponentOrNothing_61 : decode b_Cu_isExponentOrNothing 61 = .ok (.aload_n 0, 1) := by decide +kernel
theorem d_Cu_isExponentOrNothing_62 : decode b_Cu_isExponentOrNothing 62 = .ok (.getfield 32, 3) := by decide +kernel
theorem d_Cu_isExponentOrNothing_65 : decode b_Cu_isExponentOrNothing 65 = .ok (.if_icmp .ge 24, 3) := by decide +kernel
theorem d_Cu_isExponentOrNothing_68 : decode b_Cu_isExponentOrNothing 68 = .ok (.aload_n 0, 1) := by decide +kernel
theorem d_Cu_isExponentOrNothing_69 : decode b_Cu_isExponentOrNothing 69 = .ok (.getfield 12, 3) := by decide +kernel
theorem d_Cu_isExponentOrNothing_72 : decode b_Cu_isExponentOrNothing 72 = .ok (.iload 4, 2) := by decide +kernel
theorem d_Cu_isExponentOrNothing_74 : decode b_Cu_isExponentOrNothing 74 = .ok (.invokevirtual 63, 3) := by decide +kernel
theorem d_Cu_isExponentOrNothing_77 : decode b_Cu_isExponentOrNothing 77 = .ok (.invokestatic 113, 3) := by decide +kernel
theorem d_Cu_isExponentOrNothing_80 : decode b_Cu_isExponentOrNothing 80 = .ok (.ifCond .eq 9, 3) := by decide +kernel
theorem d_Cu_isExponentOrNothing_83 : decode b_Cu_isExponentOrNothing 83 = .ok (.iinc 4 1, 3) := by decide +kernel
theorem d_Cu_isExponentOrNothing_86 : decode b_Cu_isExponentOrNothing 86 = .ok (.goto (-27), 3) := by decide +kernel
theorem d_Cu_isExponentOrNothing_89 : decode b_Cu_isExponentOrNothing 89 = .ok (.iload 4, 2) := by decide +kernel
theorem d_Cu_isExponentOrNothing_91 : decode b_Cu_isExponentOrNothing 91 = .ok (.aload_n 0, 1) := by decide +kernel
theorem d_Cu_isExponentOrNothing_92 : decode b_Cu_isExponentOrNothing 92 = .ok (.getfield 32, 3) := by decide +kernel
theorem d_Cu_isExponentOrNothing_95 : decode b_Cu_isExponentOrNothing 95 = .ok (.if_icmp .ne 13, 3) := by decide +kernel
theorem d_Cu_isExponentOrNothing_98 : decode b_Cu_isExponentOrNothing 98 = .ok (.iload 4, 2) := by decide +kernel
theorem d_Cu_isExponentOrNothing_100 : decode b_Cu_isExponentOrNothing 100 = .ok (.iload_n 3, 1) := by decide +kernel
theorem d_Cu_isExponentOrNothing_101 : decode b_Cu_isExponentOrNothing 101 = .ok (.if_icmp .le 7, 3) := by decide +kernel
theorem d_Cu_isExponentOrNothing_104 : decode b_Cu_isExponentOrNothing 104 = .ok (.iconst 1, 1) := by decide +kernel
theorem d_Cu_isExponentOrNothing_105 : decode b_Cu_isExponentOrNothing 105 = .ok (.goto 4, 3) := by decide +kernel
theorem d_Cu_isExponentOrNothing_108 : decode b_Cu_isExponentOrNothing 108 = .ok (.iconst 0, 1) := by decide +kernel
theorem d_Cu_isExponentOrNothing_109 : decode b_Cu_isExponentOrNothing 109 = .ok (.ireturn, 1) := by decide +kernel
theorem d_Cu_readNumeral_0 : decode b_Cu_readNumeral 0 = .ok (.aload_n 0, 1) := by decide +kernel
theorem d_Cu_readNumeral_1 : decode b_Cu_readNumeral 1 = .ok (.getfield 12, 3) := by decide +kernel
theorem d_Cu_readNumeral_4 : decode b_Cu_readNumeral 4 = .ok (.aload_n 0, 1) := by decide +kernel
theorem d_Cu_readNumeral_5 : decode b_Cu_readNumeral 5 = .ok (.getfield 32, 3) := by decide +kernel
theorem d_Cu_readNumeral_8 : decode b_Cu_readNumeral 8 = .ok (.invokevirtual 63, 3) := by decide +kernel
theorem d_Cu_readNumeral_11 : decode b_Cu_readNumeral 11 = .ok (.bipush 48, 2) := by decide +kernel
theorem d_Cu_readNumeral_13 : decode b_Cu_readNumeral 13 = .ok (.if_icmp .ne 28, 3) := by decide +kernel
theorem d_Cu_readNumeral_16 : decode b_Cu_readNumeral 16 = .ok (.aload_n 0, 1) := by decide +kernel
theorem d_Cu_readNumeral_17 : decode b_Cu_readNumeral 17 = .ok (.getfield 12, 3) := by decide +kernel
theorem d_Cu_readNumeral_20 : decode b_Cu_readNumeral 20 = .ok (.aload_n 0, 1) := by decide +kernel
theorem d_Cu_readNumeral_21 : decode b_Cu_readNumeral 21 = .ok (.getfield 32, 3) := by decide +kernel
theorem d_Cu_readNumeral_24 : decode b_Cu_readNumeral 24 = .ok (.iconst 1, 1) := by decide +kernel
theorem d_Cu_readNumeral_25 : decode b_Cu_readNumeral 25 = .ok (.iadd, 1) := by decide +kernel
theorem d_Cu_readNumeral_26 : decode b_Cu_readNumeral 26 = .ok (.invokevirtual 63, 3) := by decide +kernel
theorem d_Cu_readNumeral_29 : decode b_Cu_readNumeral 29 = .ok (.bipush 120, 2) := by decide +kernel
theorem d_Cu_readNumeral_31 : decode b_Cu_readNumeral 31 = .ok (.invokestatic 178, 3) := by decide +kernel
theorem d_Cu_readNumeral_34 : decode b_Cu_readNumeral 34 = .ok (.ifCond .eq 7, 3) := by decide +kernel
theorem d_Cu_readNumeral_37 : decode b_Cu_readNumeral 37 = .ok (.iconst 1, 1) := by decide +kernel
theorem d_Cu_readNumeral_38 : decode b_Cu_readNumeral 38 = .ok (.goto 4, 3) := by decide +kernel
theorem d_Cu_readNumeral_41 : decode b_Cu_readNumeral 41 = .ok (.iconst 0, 1) := by decide +kernel
theorem d_Cu_readNumeral_42 : decode b_Cu_readNumeral 42 = .ok (.istore_n 1, 1) := by decide +kernel
theorem d_Cu_readNumeral_43 : decode b_Cu_readNumeral 43 = .ok (.iload_n 1, 1) := by decide +kernel
theorem d_Cu_readNumeral_44 : decode b_Cu_readNumeral 44 = .ok (.ifCond .eq 8, 3) := by decide +kernel
theorem d_Cu_readNumeral_47 : decode b_Cu_readNumeral 47 = .ok (.bipush 112, 2) := by decide +kernel
theorem d_Cu_readNumeral_49 : decode b_Cu_readNumeral 49 = .ok (.goto 5, 3) := by decide +kernel
theorem d_Cu_readNumeral_52 : decode b_Cu_readNumeral 52 = .ok (.bipush 101, 2) := by decide +kernel
theorem d_Cu_readNumeral_54 : decode b_Cu_readNumeral 54 = .ok (.istore_n 2, 1) := by decide +kernel
theorem d_Cu_readNumeral_55 : decode b_Cu_readNumeral 55 = .ok (.aload_n 0, 1) := by decide +kernel
theorem d_Cu_readNumeral_56 : decode b_Cu_readNumeral 56 = .ok (.getfield 32, 3) := by decide +kernel
theorem d_Cu_readNumeral_59 : decode b_Cu_readNumeral 59 = .ok (.aload_n 0, 1) := by decide +kernel
theorem d_Cu_readNumeral_60 : decode b_Cu_readNumeral 60 = .ok (.getfield 12, 3) := by decide +kernel
theorem d_Cu_readNumeral_63 : decode b_Cu_readNumeral 63 = .ok (.getfield 60, 3) := by decide +kernel
theorem d_Cu_readNumeral_66 : decode b_Cu_readNumeral 66 = .ok (.if_icmp .ge 47, 3) := by decide +kernel
theorem d_Cu_readNumeral_69 : decode b_Cu_readNumeral 69 = .ok (.aload_n 0, 1) := by decide +kernel
theorem d_Cu_readNumeral_70 : decode b_Cu_readNumeral 70 = .ok (.getfield 12, 3) := by decide +kernel
theorem d_Cu_readNumeral_73 : decode b_Cu_readNumeral 73 = .ok (.aload_n 0, 1) := by decide +kernel
theorem d_Cu_readNumeral_74 : decode b_Cu_readNumeral 74 = .ok (.getfield 32, 3) := by decide +kernel
theorem d_Cu_readNumeral_77 : decode b_Cu_readNumeral 77 = .ok (.invokevirtual 63, 3) := by decide +kernel
theorem d_Cu_readNumeral_80 : decode b_Cu_readNumeral 80 = .ok (.aload_n 0, 1) := by decide +kernel
theorem d_Cu_readNumeral_81 : decode b_Cu_readNumeral 81 = .ok (.getfield 12, 3) := by decide +kernel
theorem d_Cu_readNumeral_84 : decode b_Cu_readNumeral 84 = .ok (.aload_n 0, 1) := by decide +kernel
theorem d_Cu_readNumeral_85 : decode b_Cu_readNumeral 85 = .ok (.getfield 32, 3) := by decide +kernel
theorem d_Cu_readNumeral_88 : decode b_Cu_readNumeral 88 = .ok (.iconst 1, 1) := by decide +kernel
theorem d_Cu_readNumeral_89 : decode b_Cu_readNumeral 89 = .ok (.isub, 1) := by decide +kernel
theorem d_Cu_readNumeral_90 : decode b_Cu_readNumeral 90 = .ok (.invokevirtual 63, 3) := by decide +kernel
theorem d_Cu_readNumeral_93 : decode b_Cu_readNumeral 93 = .ok (.iload_n 2, 1) := by decide +kernel
theorem d_Cu_readNumeral_94 : decode b_Cu_readNumeral 94 = .ok (.invokestatic 182, 3) := by decide +kernel
theorem d_Cu_readNumeral_97 : decode b_Cu_readNumeral 97 = .ok (.ifCond .eq 16, 3) := by decide +kernel
theorem d_Cu_readNumeral_100 : decode b_Cu_readNumeral 100 = .ok (.aload_n 0, 1) := by decide +kernel
theorem d_Cu_readNumeral_101 : decode b_Cu_readNumeral 101 = .ok (.dup, 1) := by decide +kernel
theorem d_Cu_readNumeral_102 : decode b_Cu_readNumeral 102 = .ok (.getfield 32, 3) := by decide +kernel
theorem d_Cu_readNumeral_105 : decode b_Cu_readNumeral 105 = .ok (.iconst 1, 1) := by decide +kernel
theorem d_Cu_readNumeral_106 : decode b_Cu_readNumeral 106 = .ok (.iadd, 1) := by decide +kernel
theorem d_Cu_readNumeral_107 : decode b_Cu_readNumeral 107 = .ok (.putfield 32, 3) := by decide +kernel
theorem d_Cu_readNumeral_110 : decode b_Cu_readNumeral 110 = .ok (.goto (-55), 3) := by decide +kernel
theorem d_Cu_readNumeral_113 : decode b_Cu_readNumeral 113 = .ok (.aload_n 0, 1) := by decide +kernel
theorem d_Cu_readNumeral_114 : decode b_Cu_readNumeral 114 = .ok (.iload_n 1, 1) := by decide +kernel
theorem d_Cu_readNumeral_115 : decode b_Cu_readNumeral 115 = .ok (.ifCond .eq 12, 3) := by decide +kernel
theorem d_Cu_readNumeral_118 : decode b_Cu_readNumeral 118 = .ok (.aload_n 0, 1) := by decide +kernel
theorem d_Cu_readNumeral_119 : decode b_Cu_readNumeral 119 = .ok (.getfield 51, 3) := by decide +kernel
theorem d_Cu_readNumeral_122 : decode b_Cu_readNumeral 122 = .ok (.iconst 2, 1) := by decide +kernel
theorem d_Cu_readNumeral_123 : decode b_Cu_readNumeral 123 = .ok (.iadd, 1) := by decide +kernel
theorem d_Cu_readNumeral_124 : decode b_Cu_readNumeral 124 = .ok (.goto 7, 3) := by decide +kernel
theorem d_Cu_readNumeral_127 : decode b_Cu_readNumeral 127 = .ok (.aload_n 0, 1) := by decide +kernel
theorem d_Cu_readNumeral_128 : decode b_Cu_readNumeral 128 = .ok (.getfield 51, 3) := by decide +kernel
theorem d_Cu_readNumeral_131 : decode b_Cu_readNumeral 131 = .ok (.iload_n 1, 1) := by decide +kernel
theorem d_Cu_readNumeral_132 : decode b_Cu_readNumeral 132 = .ok (.invokevirtual 186, 3) := by decide +kernel
theorem d_Cu_readNumeral_135 : decode b_Cu_readNumeral 135 = .ok (.istore_n 3, 1) := by decide +kernel
theorem d_Cu_readNumeral_136 : decode b_Cu_readNumeral 136 = .ok (.iload_n 3, 1) := by decide +kernel
theorem d_Cu_readNumeral_137 : decode b_Cu_readNumeral 137 = .ok (.iconst (-1), 1) := by decide +kernel
theorem d_Cu_readNumeral_138 : decode b_Cu_readNumeral 138 = .ok (.if_icmp .eq 20, 3) := by decide +kernel
theorem d_Cu_readNumeral_141 : decode b_Cu_readNumeral 141 = .ok (.aload_n 0, 1) := by decide +kernel
theorem d_Cu_readNumeral_142 : decode b_Cu_readNumeral 142 = .ok (.iload_n 3, 1) := by decide +kernel
theorem d_Cu_readNumeral_143 : decode b_Cu_readNumeral 143 = .ok (.iload_n 2, 1) := by decide +kernel
theorem d_Cu_readNumeral_144 : decode b_Cu_readNumeral 144 = .ok (.invokevirtual 190, 3) := by decide +kernel
theorem d_Cu_readNumeral_147 : decode b_Cu_readNumeral 147 = .ok (.ifCond .eq 11, 3) := by decide +kernel
theorem d_Cu_readNumeral_150 : decode b_Cu_readNumeral 150 = .ok (.aload_n 0, 1) := by decide +kernel
theorem d_Cu_readNumeral_151 : decode b_Cu_readNumeral 151 = .ok (.iconst 2, 1) := by decide +kernel
theorem d_Cu_readNumeral_152 : decode b_Cu_readNumeral 152 = .ok (.invokevirtual 175, 3) := by decide +kernel
theorem d_Cu_readNumeral_155 : decode b_Cu_readNumeral 155 = .ok (.goto 12, 3) := by decide +kernel
theorem d_Cu_readNumeral_158 : decode b_Cu_readNumeral 158 = .ok (.aload_n 0, 1) := by decide +kernel
theorem d_Cu_readNumeral_159 : decode b_Cu_readNumeral 159 = .ok (.iconst 2, 1) := by decide +kernel
theorem d_Cu_readNumeral_160 : decode b_Cu_readNumeral 160 = .ok (.aload_n 0, 1) := by decide +kernel
theorem d_Cu_readNumeral_161 : decode b_Cu_readNumeral 161 = .ok (.getfield 51, 3) := by decide +kernel
theorem d_Cu_readNumeral_164 : decode b_Cu_readNumeral 164 = .ok (.invokevirtual 93, 3) := by decide +kernel
theorem d_Cu_readNumeral_167 : decode b_Cu_readNumeral 167 = .ok (.return_, 1) := by decide +kernel
theorem d_Cu_passBlanks_0 : decode b_Cu_passBlanks 0 = .ok (.aload_n 0, 1) := by decide +kernel
theorem d_Cu_passBlanks_1 : decode b_Cu_passBlanks 1 = .ok (.dup, 1) := by decide +kernel
theorem d_Cu_passBlanks_2 : decode b_Cu_passBlanks 2 = .ok (.getfield 32, 3) := by decide +kernel
theorem d_Cu_passBlanks_5 : decode b_Cu_passBlanks 5 = .ok (.iconst 1, 1) := by decide +kernel
theorem d_Cu_passBlanks_6 : decode b_Cu_passBlanks 6 = .ok (.iadd, 1) := by decide +kernel
theorem d_Cu_passBlanks_7 : decode b_Cu_passBlanks 7 = .ok (.putfield 32, 3) := by decide +kernel
theorem d_Cu_passBlanks_10 : decode b_Cu_passBlanks 10 = .ok (.aload_n 0, 1) := by decide +kernel
theorem d_Cu_passBlanks_11 : decode b_Cu_passBlanks 11 = .ok (.getfield 32, 3) := by decide +kernel
theorem d_Cu_passBlanks_14 : decode b_Cu_passBlanks 14 = .ok (.aload_n 0, 1) := by decide +kernel
theorem d_Cu_passBlanks_15 : decode b_Cu_passBlanks 15 = .ok (.getfield 12, 3) := by decide +kernel
theorem d_Cu_passBlanks_18 : decode b_Cu_passBlanks 18 = .ok (.getfield 60, 3) := by decide +kernel
theorem d_Cu_passBlanks_21 : decode b_Cu_passBlanks 21 = .ok (.if_icmp .ge 33, 3) := by decide +kernel
theorem d_Cu_passBlanks_24 : decode b_Cu_passBlanks 24 = .ok (.aload_n 0, 1) := by decide +kernel
theorem d_Cu_passBlanks_25 : decode b_Cu_passBlanks 25 = .ok (.getfield 12, 3) := by decide +kernel
theorem d_Cu_passBlanks_28 : decode b_Cu_passBlanks 28 = .ok (.aload_n 0, 1) := by decide +kernel
theorem d_Cu_passBlanks_29 : decode b_Cu_passBlanks 29 = .ok (.getfield 32, 3) := by decide +kernel
theorem d_Cu_passBlanks_32 : decode b_Cu_passBlanks 32 = .ok (.invokevirtual 63, 3) := by decide +kernel
theorem d_Cu_passBlanks_35 : decode b_Cu_passBlanks 35 = .ok (.invokestatic 104, 3) := by decide +kernel
theorem d_Cu_passBlanks_38 : decode b_Cu_passBlanks 38 = .ok (.ifCond .eq 16, 3) := by decide +kernel
theorem d_Cu_passBlanks_41 : decode b_Cu_passBlanks 41 = .ok (.aload_n 0, 1) := by decide +kernel
theorem d_Cu_passBlanks_42 : decode b_Cu_passBlanks 42 = .ok (.dup, 1) := by decide +kernel
theorem d_Cu_passBlanks_43 : decode b_Cu_passBlanks 43 = .ok (.getfield 32, 3) := by decide +kernel
theorem d_Cu_passBlanks_46 : decode b_Cu_passBlanks 46 = .ok (.iconst 1, 1) := by decide +kernel
theorem d_Cu_passBlanks_47 : decode b_Cu_passBlanks 47 = .ok (.iadd, 1) := by decide +kernel
theorem d_Cu_passBlanks_48 : decode b_Cu_passBlanks 48 = .ok (.putfield 32, 3) := by decide +kernel
theorem d_Cu_passBlanks_51 : decode b_Cu_passBlanks 51 = .ok (.goto (-41), 3) := by decide +kernel
theorem d_Cu_passBlanks_54 : decode b_Cu_passBlanks 54 = .ok (.return_, 1) := by decide +kernel
theorem d_Cu_stopInEscape_0 : decode b_Cu_stopInEscape 0 = .ok (.aload_n 0, 1) := by decide +kernel
theorem d_Cu_stopInEscape_1 : decode b_Cu_stopInEscape 1 = .ok (.iload_n 1, 1) := by decide +kernel
theorem d_Cu_stopInEscape_2 : decode b_Cu_stopInEscape 2 = .ok (.aload_n 0, 1) := by decide +kernel
theorem d_Cu_stopInEscape_3 : decode b_Cu_stopInEscape 3 = .ok (.getfield 12, 3) := by decide +kernel
theorem d_Cu_stopInEscape_6 : decode b_Cu_stopInEscape 6 = .ok (.getfield 60, 3) := by decide +kernel
theorem d_Cu_stopInEscape_9 : decode b_Cu_stopInEscape 9 = .ok (.if_icmp .ge 7, 3) := by decide +kernel
theorem d_Cu_stopInEscape_12 : decode b_Cu_stopInEscape 12 = .ok (.iconst 3, 1) := by decide +kernel
theorem d_Cu_stopInEscape_13 : decode b_Cu_stopInEscape 13 = .ok (.goto 4, 3) := by decide +kernel
theorem d_Cu_stopInEscape_16 : decode b_Cu_stopInEscape 16 = .ok (.iconst 4, 1) := by decide +kernel
theorem d_Cu_stopInEscape_17 : decode b_Cu_stopInEscape 17 = .ok (.iload_n 1, 1) := by decide +kernel
theorem d_Cu_stopInEscape_18 : decode b_Cu_stopInEscape 18 = .ok (.invokevirtual 93, 3) := by decide +kernel
theorem d_Cu_stopInEscape_21 : decode b_Cu_stopInEscape 21 = .ok (.return_, 1) := by decide +kernel
theorem d_Cu_passTwoDigits_0 : decode b_Cu_passTwoDigits 0 = .ok (.aload_n 0, 1) := by decide +kernel
theorem d_Cu_passTwoDigits_1 : decode b_Cu_passTwoDigits 1 = .ok (.getfield 12, 3) := by decide +kernel
theorem d_Cu_passTwoDigits_4 : decode b_Cu_passTwoDigits 4 = .ok (.aload_n 0, 1) := by decide +kernel
theorem d_Cu_passTwoDigits_5 : decode b_Cu_passTwoDigits 5 = .ok (.getfield 32, 3) := by decide +kernel
theorem d_Cu_passTwoDigits_8 : decode b_Cu_passTwoDigits 8 = .ok (.iconst 1, 1) := by decide +kernel
theorem d_Cu_passTwoDigits_9 : decode b_Cu_passTwoDigits 9 = .ok (.iadd, 1) := by decide +kernel
theorem d_Cu_passTwoDigits_10 : decode b_Cu_passTwoDigits 10 = .ok (.invokevirtual 63, 3) := by decide +kernel
theorem d_Cu_passTwoDigits_13 : decode b_Cu_passTwoDigits 13 = .ok (.invokestatic 200, 3) := by decide +kernel
theorem d_Cu_passTwoDigits_16 : decode b_Cu_passTwoDigits 16 = .ok (.istore_n 1, 1) := by decide +kernel
theorem d_Cu_passTwoDigits_17 : decode b_Cu_passTwoDigits 17 = .ok (.aload_n 0, 1) := by decide +kernel
theorem d_Cu_passTwoDigits_18 : decode b_Cu_passTwoDigits 18 = .ok (.getfield 12, 3) := by decide +kernel
theorem d_Cu_passTwoDigits_21 : decode b_Cu_passTwoDigits 21 = .ok (.aload_n 0, 1) := by decide +kernel
theorem d_Cu_passTwoDigits_22 : decode b_Cu_passTwoDigits 22 = .ok (.getfield 32, 3) := by decide +kernel
theorem d_Cu_passTwoDigits_25 : decode b_Cu_passTwoDigits 25 = .ok (.iconst 2, 1) := by decide +kernel
theorem d_Cu_passTwoDigits_26 : decode b_Cu_passTwoDigits 26 = .ok (.iadd, 1) := by decide +kernel
theorem d_Cu_passTwoDigits_27 : decode b_Cu_passTwoDigits 27 = .ok (.invokevirtual 63, 3) := by decide +kernel
theorem d_Cu_passTwoDigits_30 : decode b_Cu_passTwoDigits 30 = .ok (.invokestatic 200, 3) := by decide +kernel
theorem d_Cu_passTwoDigits_33 : decode b_Cu_passTwoDigits 33 = .ok (.istore_n 2, 1) := by decide +kernel
theorem d_Cu_passTwoDigits_34 : decode b_Cu_passTwoDigits 34 = .ok (.iload_n 1, 1) := by decide +kernel
theorem d_Cu_passTwoDigits_35 : decode b_Cu_passTwoDigits 35 = .ok (.ifCond .ge 16, 3) := by decide +kernel
theorem d_Cu_passTwoDigits_38 : decode b_Cu_passTwoDigits 38 = .ok (.aload_n 0, 1) := by decide +kernel
theorem d_Cu_passTwoDigits_39 : decode b_Cu_passTwoDigits 39 = .ok (.aload_n 0, 1) := by decide +kernel
theorem d_Cu_passTwoDigits_40 : decode b_Cu_passTwoDigits 40 = .ok (.getfield 32, 3) := by decide +kernel
theorem d_Cu_passTwoDigits_43 : decode b_Cu_passTwoDigits 43 = .ok (.iconst 1, 1) := by decide +kernel
theorem d_Cu_passTwoDigits_44 : decode b_Cu_passTwoDigits 44 = .ok (.iadd, 1) := by decide +kernel
theorem d_Cu_passTwoDigits_45 : decode b_Cu_passTwoDigits 45 = .ok (.invokevirtual 231, 3) := by decide +kernel
theorem d_Cu_passTwoDigits_48 : decode b_Cu_passTwoDigits 48 = .ok (.goto 43, 3) := by decide +kernel
theorem d_Cu_passTwoDigits_51 : decode b_Cu_passTwoDigits 51 = .ok (.iload_n 2, 1) := by decide +kernel
theorem d_Cu_passTwoDigits_52 : decode b_Cu_passTwoDigits 52 = .ok (.ifCond .ge 16, 3) := by decide +kernel
theorem d_Cu_passTwoDigits_55 : decode b_Cu_passTwoDigits 55 = .ok (.aload_n 0, 1) := by decide +kernel
theorem d_Cu_passTwoDigits_56 : decode b_Cu_passTwoDigits 56 = .ok (.aload_n 0, 1) := by decide +kernel
theorem d_Cu_passTwoDigits_57 : decode b_Cu_passTwoDigits 57 = .ok (.getfield 32, 3) := by decide +kernel
theorem d_Cu_passTwoDigits_60 : decode b_Cu_passTwoDigits 60 = .ok (.iconst 2, 1) := by decide +kernel
theorem d_Cu_passTwoDigits_61 : decode b_Cu_passTwoDigits 61 = .ok (.iadd, 1) := by decide +kernel
theorem d_Cu_passTwoDigits_62 : decode b_Cu_passTwoDigits 62 = .ok (.invokevirtual 231, 3) := by decide +kernel
theorem d_Cu_passTwoDigits_65 : decode b_Cu_passTwoDigits 65 = .ok (.goto 26, 3) := by decide +kernel
theorem d_Cu_passTwoDigits_68 : decode b_Cu_passTwoDigits 68 = .ok (.aload_n 0, 1) := by decide +kernel
theorem d_Cu_passTwoDigits_69 : decode b_Cu_passTwoDigits 69 = .ok (.getfield 28, 3) := by decide +kernel
theorem d_Cu_passTwoDigits_72 : decode b_Cu_passTwoDigits 72 = .ok (.iload_n 1, 1) := by decide +kernel
theorem d_Cu_passTwoDigits_73 : decode b_Cu_passTwoDigits 73 = .ok (.bipush 16, 2) := by decide +kernel
theorem d_Cu_passTwoDigits_75 : decode b_Cu_passTwoDigits 75 = .ok (.imul, 1) := by decide +kernel
theorem d_Cu_passTwoDigits_76 : decode b_Cu_passTwoDigits 76 = .ok (.iload_n 2, 1) := by decide +kernel
theorem d_Cu_passTwoDigits_77 : decode b_Cu_passTwoDigits 77 = .ok (.iadd, 1) := by decide +kernel
theorem d_Cu_passTwoDigits_78 : decode b_Cu_passTwoDigits 78 = .ok (.invokevirtual 156, 3) := by decide +kernel
theorem d_Cu_passTwoDigits_81 : decode b_Cu_passTwoDigits 81 = .ok (.aload_n 0, 1) := by decide +kernel
theorem d_Cu_passTwoDigits_82 : decode b_Cu_passTwoDigits 82 = .ok (.dup, 1) := by decide +kernel
theorem d_Cu_passTwoDigits_83 : decode b_Cu_passTwoDigits 83 = .ok (.getfield 32, 3) := by decide +kernel
theorem d_Cu_passTwoDigits_86 : decode b_Cu_passTwoDigits 86 = .ok (.iconst 3, 1) := by decide +kernel
theorem d_Cu_passTwoDigits_87 : decode b_Cu_passTwoDigits 87 = .ok (.iadd, 1) := by decide +kernel
theorem d_Cu_passTwoDigits_88 : decode b_Cu_passTwoDigits 88 = .ok (.putfield 32, 3) := by decide +kernel
theorem d_Cu_passTwoDigits_91 : decode b_Cu_passTwoDigits 91 = .ok (.return_, 1) := by decide +kernel
theorem d_Cu_passDecimal_0 : decode b_Cu_passDecimal 0 = .ok (.iconst 0, 1) := by decide +kernel
theorem d_Cu_passDecimal_1 : decode b_Cu_passDecimal 1 = .ok (.istore_n 1, 1) := by decide +kernel
theorem d_Cu_passDecimal_2 : decode b_Cu_passDecimal 2 = .ok (.aload_n 0, 1) := by decide +kernel
theorem d_Cu_passDecimal_3 : decode b_Cu_passDecimal 3 = .ok (.getfield 32, 3) := by decide +kernel
theorem d_Cu_passDecimal_6 : decode b_Cu_passDecimal 6 = .ok (.istore_n 2, 1) := by decide +kernel
theorem d_Cu_passDecimal_7 : decode b_Cu_passDecimal 7 = .ok (.iload_n 2, 1) := by decide +kernel
theorem d_Cu_passDecimal_8 : decode b_Cu_passDecimal 8 = .ok (.aload_n 0, 1) := by decide +kernel
theorem d_Cu_passDecimal_9 : decode b_Cu_passDecimal 9 = .ok (.getfield 32, 3) := by decide +kernel
theorem d_Cu_passDecimal_12 : decode b_Cu_passDecimal 12 = .ok (.iconst 3, 1) := by decide +kernel
theorem d_Cu_passDecimal_13 : decode b_Cu_passDecimal 13 = .ok (.iadd, 1) := by decide +kernel
theorem d_Cu_passDecimal_14 : decode b_Cu_passDecimal 14 = .ok (.if_icmp .ge 40, 3) := by decide +kernel
theorem d_Cu_passDecimal_17 : decode b_Cu_passDecimal 17 = .ok (.aload_n 0, 1) := by decide +kernel
theorem d_Cu_passDecimal_18 : decode b_Cu_passDecimal 18 = .ok (.getfield 12, 3) := by decide +kernel
theorem d_Cu_passDecimal_21 : decode b_Cu_passDecimal 21 = .ok (.iload_n 2, 1) := by decide +kernel
theorem d_Cu_passDecimal_22 : decode b_Cu_passDecimal 22 = .ok (.invokevirtual 63, 3) := by decide +kernel
theorem d_Cu_passDecimal_25 : decode b_Cu_passDecimal 25 = .ok (.invokestatic 113, 3) := by decide +kernel
theorem d_Cu_passDecimal_28 : decode b_Cu_passDecimal 28 = .ok (.ifCond .eq 26, 3) := by decide +kernel
theorem d_Cu_passDecimal_31 : decode b_Cu_passDecimal 31 = .ok (.iload_n 1, 1) := by decide +kernel
theorem d_Cu_passDecimal_32 : decode b_Cu_passDecimal 32 = .ok (.bipush 10, 2) := by decide +kernel
theorem d_Cu_passDecimal_34 : decode b_Cu_passDecimal 34 = .ok (.imul, 1) := by decide +kernel
theorem d_Cu_passDecimal_35 : decode b_Cu_passDecimal 35 = .ok (.aload_n 0, 1) := by decide +kernel
theorem d_Cu_passDecimal_36 : decode b_Cu_passDecimal 36 = .ok (.getfield 12, 3) := by decide +kernel
theorem d_Cu_passDecimal_39 : decode b_Cu_passDecimal 39 = .ok (.iload_n 2, 1) := by decide +kernel
theorem d_Cu_passDecimal_40 : decode b_Cu_passDecimal 40 = .ok (.invokevirtual 63, 3) := by decide +kernel
theorem d_Cu_passDecimal_43 : decode b_Cu_passDecimal 43 = .ok (.iadd, 1) := by decide +kernel
theorem d_Cu_passDecimal_44 : decode b_Cu_passDecimal 44 = .ok (.bipush 48, 2) := by decide +kernel
theorem d_Cu_passDecimal_46 : decode b_Cu_passDecimal 46 = .ok (.isub, 1) := by decide +kernel
theorem d_Cu_passDecimal_47 : decode b_Cu_passDecimal 47 = .ok (.istore_n 1, 1) := by decide +kernel
theorem d_Cu_passDecimal_48 : decode b_Cu_passDecimal 48 = .ok (.iinc 2 1, 3) := by decide +kernel
theorem d_Cu_passDecimal_51 : decode b_Cu_passDecimal 51 = .ok (.goto (-44), 3) := by decide +kernel
theorem d_Cu_passDecimal_54 : decode b_Cu_passDecimal 54 = .ok (.iload_n 1, 1) := by decide +kernel
theorem d_Cu_passDecimal_55 : decode b_Cu_passDecimal 55 = .ok (.sipush 255, 3) := by decide +kernel
theorem d_Cu_passDecimal_58 : decode b_Cu_passDecimal 58 = .ok (.if_icmp .le 13, 3) := by decide +kernel
theorem d_Cu_passDecimal_61 : decode b_Cu_passDecimal 61 = .ok (.aload_n 0, 1) := by decide +kernel
theorem d_Cu_passDecimal_62 : decode b_Cu_passDecimal 62 = .ok (.iconst 3, 1) := by decide +kernel
theorem d_Cu_passDecimal_63 : decode b_Cu_passDecimal 63 = .ok (.aload_n 0, 1) := by decide +kernel
theorem d_Cu_passDecimal_64 : decode b_Cu_passDecimal 64 = .ok (.getfield 32, 3) := by decide +kernel
theorem d_Cu_passDecimal_67 : decode b_Cu_passDecimal 67 = .ok (.invokevirtual 93, 3) := by decide +kernel
theorem d_Cu_passDecimal_70 : decode b_Cu_passDecimal 70 = .ok (.return_, 1) := by decide +kernel
theorem d_Cu_passDecimal_71 : decode b_Cu_passDecimal 71 = .ok (.aload_n 0, 1) := by decide +kernel
theorem d_Cu_passDecimal_72 : decode b_Cu_passDecimal 72 = .ok (.getfield 28, 3) := by decide +kernel
theorem d_Cu_passDecimal_75 : decode b_Cu_passDecimal 75 = .ok (.iload_n 1, 1) := by decide +kernel
theorem d_Cu_passDecimal_76 : decode b_Cu_passDecimal 76 = .ok (.invokevirtual 156, 3) := by decide +kernel
theorem d_Cu_passDecimal_79 : decode b_Cu_passDecimal 79 = .ok (.aload_n 0, 1) := by decide +kernel
theorem d_Cu_passDecimal_80 : decode b_Cu_passDecimal 80 = .ok (.iload_n 2, 1) := by decide +kernel
theorem d_Cu_passDecimal_81 : decode b_Cu_passDecimal 81 = .ok (.putfield 32, 3) := by decide +kernel
theorem d_Cu_passDecimal_84 : decode b_Cu_passDecimal 84 = .ok (.return_, 1) := by decide +kernel
theorem d_Cu_passCode_0 : decode b_Cu_passCode 0 = .ok (.aload_n 0, 1) := by decide +kernel
theorem d_Cu_passCode_1 : decode b_Cu_passCode 1 = .ok (.getfield 12, 3) := by decide +kernel
theorem d_Cu_passCode_4 : decode b_Cu_passCode 4 = .ok (.aload_n 0, 1) := by decide +kernel
theorem d_Cu_passCode_5 : decode b_Cu_passCode 5 = .ok (.getfield 32, 3) := by decide +kernel
theorem d_Cu_passCode_8 : decode b_Cu_passCode 8 = .ok (.iconst 1, 1) := by decide +kernel
theorem d_Cu_passCode_9 : decode b_Cu_passCode 9 = .ok (.iadd, 1) := by decide +kernel
theorem d_Cu_passCode_10 : decode b_Cu_passCode 10 = .ok (.invokevirtual 63, 3) := by decide +kernel
theorem d_Cu_passCode_13 : decode b_Cu_passCode 13 = .ok (.bipush 123, 2) := by decide +kernel
theorem d_Cu_passCode_15 : decode b_Cu_passCode 15 = .ok (.if_icmp .eq 14, 3) := by decide +kernel
theorem d_Cu_passCode_18 : decode b_Cu_passCode 18 = .ok (.aload_n 0, 1) := by decide +kernel
theorem d_Cu_passCode_19 : decode b_Cu_passCode 19 = .ok (.aload_n 0, 1) := by decide +kernel
theorem d_Cu_passCode_20 : decode b_Cu_passCode 20 = .ok (.getfield 32, 3) := by decide +kernel
theorem d_Cu_passCode_23 : decode b_Cu_passCode 23 = .ok (.iconst 1, 1) := by decide +kernel
theorem d_Cu_passCode_24 : decode b_Cu_passCode 24 = .ok (.iadd, 1) := by decide +kernel
theorem d_Cu_passCode_25 : decode b_Cu_passCode 25 = .ok (.invokevirtual 231, 3) := by decide +kernel
theorem d_Cu_passCode_28 : decode b_Cu_passCode 28 = .ok (.return_, 1) := by decide +kernel
theorem d_Cu_passCode_29 : decode b_Cu_passCode 29 = .ok (.aload_n 0, 1) := by decide +kernel
theorem d_Cu_passCode_30 : decode b_Cu_passCode 30 = .ok (.getfield 32, 3) := by decide +kernel
theorem d_Cu_passCode_33 : decode b_Cu_passCode 33 = .ok (.iconst 2, 1) := by decide +kernel
theorem d_Cu_passCode_34 : decode b_Cu_passCode 34 = .ok (.iadd, 1) := by decide +kernel
theorem d_Cu_passCode_35 : decode b_Cu_passCode 35 = .ok (.istore_n 1, 1) := by decide +kernel
theorem d_Cu_passCode_36 : decode b_Cu_passCode 36 = .ok (.iload_n 1, 1) := by decide +kernel
theorem d_Cu_passCode_37 : decode b_Cu_passCode 37 = .ok (.istore_n 2, 1) := by decide +kernel
theorem d_Cu_passCode_38 : decode b_Cu_passCode 38 = .ok (.iconst 0, 1) := by decide +kernel
theorem d_Cu_passCode_39 : decode b_Cu_passCode 39 = .ok (.istore_n 3, 1) := by decide +kernel
theorem d_Cu_passCode_40 : decode b_Cu_passCode 40 = .ok (.iload_n 2, 1) := by decide +kernel
theorem d_Cu_passCode_41 : decode b_Cu_passCode 41 = .ok (.aload_n 0, 1) := by decide +kernel
theorem d_Cu_passCode_42 : decode b_Cu_passCode 42 = .ok (.getfield 12, 3) := by decide +kernel
theorem d_Cu_passCode_45 : decode b_Cu_passCode 45 = .ok (.getfield 60, 3) := by decide +kernel
theorem d_Cu_passCode_48 : decode b_Cu_passCode 48 = .ok (.if_icmp .ge 53, 3) := by decide +kernel
theorem d_Cu_passCode_51 : decode b_Cu_passCode 51 = .ok (.aload_n 0, 1) := by decide +kernel
theorem d_Cu_passCode_52 : decode b_Cu_passCode 52 = .ok (.getfield 12, 3) := by decide +kernel
theorem d_Cu_passCode_55 : decode b_Cu_passCode 55 = .ok (.iload_n 2, 1) := by decide +kernel
theorem d_Cu_passCode_56 : decode b_Cu_passCode 56 = .ok (.invokevirtual 63, 3) := by decide +kernel
theorem d_Cu_passCode_59 : decode b_Cu_passCode 59 = .ok (.invokestatic 200, 3) := by decide +kernel
theorem d_Cu_passCode_62 : decode b_Cu_passCode 62 = .ok (.ifCond .lt 39, 3) := by decide +kernel
theorem d_Cu_passCode_65 : decode b_Cu_passCode 65 = .ok (.iload_n 3, 1) := by decide +kernel
theorem d_Cu_passCode_66 : decode b_Cu_passCode 66 = .ok (.ldc 234, 2) := by decide +kernel
theorem d_Cu_passCode_68 : decode b_Cu_passCode 68 = .ok (.if_icmp .le 10, 3) := by decide +kernel
theorem d_Cu_passCode_71 : decode b_Cu_passCode 71 = .ok (.aload_n 0, 1) := by decide +kernel
theorem d_Cu_passCode_72 : decode b_Cu_passCode 72 = .ok (.iconst 3, 1) := by decide +kernel
theorem d_Cu_passCode_73 : decode b_Cu_passCode 73 = .ok (.iload_n 2, 1) := by decide +kernel
theorem d_Cu_passCode_74 : decode b_Cu_passCode 74 = .ok (.invokevirtual 93, 3) := by decide +kernel
theorem d_Cu_passCode_77 : decode b_Cu_passCode 77 = .ok (.return_, 1) := by decide +kernel
theorem d_Cu_passCode_78 : decode b_Cu_passCode 78 = .ok (.iload_n 3, 1) := by decide +kernel
theorem d_Cu_passCode_79 : decode b_Cu_passCode 79 = .ok (.bipush 16, 2) := by decide +kernel
theorem d_Cu_passCode_81 : decode b_Cu_passCode 81 = .ok (.imul, 1) := by decide +kernel
theorem d_Cu_passCode_82 : decode b_Cu_passCode 82 = .ok (.aload_n 0, 1) := by decide +kernel
theorem d_Cu_passCode_83 : decode b_Cu_passCode 83 = .ok (.getfield 12, 3) := by decide +kernel
theorem d_Cu_passCode_86 : decode b_Cu_passCode 86 = .ok (.iload_n 2, 1) := by decide +kernel
theorem d_Cu_passCode_87 : decode b_Cu_passCode 87 = .ok (.invokevirtual 63, 3) := by decide +kernel
theorem d_Cu_passCode_90 : decode b_Cu_passCode 90 = .ok (.invokestatic 200, 3) := by decide +kernel
theorem d_Cu_passCode_93 : decode b_Cu_passCode 93 = .ok (.iadd, 1) := by decide +kernel
theorem d_Cu_passCode_94 : decode b_Cu_passCode 94 = .ok (.istore_n 3, 1) := by decide +kernel
theorem d_Cu_passCode_95 : decode b_Cu_passCode 95 = .ok (.iinc 2 1, 3) := by decide +kernel
theorem d_Cu_passCode_98 : decode b_Cu_passCode 98 = .ok (.goto (-58), 3) := by decide +kernel
theorem d_Cu_passCode_101 : decode b_Cu_passCode 101 = .ok (.iload_n 2, 1) := by decide +kernel
theorem d_Cu_passCode_102 : decode b_Cu_passCode 102 = .ok (.iload_n 1, 1) := by decide +kernel
theorem d_Cu_passCode_103 : decode b_Cu_passCode 103 = .ok (.if_icmp .eq 16, 3) := by decide +kernel
theorem d_Cu_passCode_106 : decode b_Cu_passCode 106 = .ok (.aload_n 0, 1) := by decide +kernel
theorem d_Cu_passCode_107 : decode b_Cu_passCode 107 = .ok (.getfield 12, 3) := by decide +kernel
theorem d_Cu_passCode_110 : decode b_Cu_passCode 110 = .ok (.iload_n 2, 1) := by decide +kernel
theorem d_Cu_passCode_111 : decode b_Cu_passCode 111 = .ok (.invokevirtual 63, 3) := by decide +kernel
theorem d_Cu_passCode_114 : decode b_Cu_passCode 114 = .ok (.bipush 125, 2) := by decide +kernel
theorem d_Cu_passCode_116 : decode b_Cu_passCode 116 = .ok (.if_icmp .eq 9, 3) := by decide +kernel
theorem d_Cu_passCode_119 : decode b_Cu_passCode 119 = .ok (.aload_n 0, 1) := by decide +kernel
theorem d_Cu_passCode_120 : decode b_Cu_passCode 120 = .ok (.iload_n 2, 1) := by decide +kernel
theorem d_Cu_passCode_121 : decode b_Cu_passCode 121 = .ok (.invokevirtual 231, 3) := by decide +kernel
theorem d_Cu_passCode_124 : decode b_Cu_passCode 124 = .ok (.return_, 1) := by decide +kernel
theorem d_Cu_passCode_125 : decode b_Cu_passCode 125 = .ok (.aload_n 0, 1) := by decide +kernel
theorem d_Cu_passCode_126 : decode b_Cu_passCode 126 = .ok (.getfield 28, 3) := by decide +kernel
theorem d_Cu_passCode_129 : decode b_Cu_passCode 129 = .ok (.iload_n 3, 1) := by decide +kernel
theorem d_Cu_passCode_130 : decode b_Cu_passCode 130 = .ok (.invokevirtual 235, 3) := by decide +kernel
theorem d_Cu_passCode_133 : decode b_Cu_passCode 133 = .ok (.aload_n 0, 1) := by decide +kernel
theorem d_Cu_passCode_134 : decode b_Cu_passCode 134 = .ok (.iload_n 2, 1) := by decide +kernel
theorem d_Cu_passCode_135 : decode b_Cu_passCode 135 = .ok (.iconst 1, 1) := by decide +kernel
theorem d_Cu_passCode_136 : decode b_Cu_passCode 136 = .ok (.iadd, 1) := by decide +kernel
theorem d_Cu_passCode_137 : decode b_Cu_passCode 137 = .ok (.putfield 32, 3) := by decide +kernel
theorem d_Cu_passCode_140 : decode b_Cu_passCode 140 = .ok (.return_, 1) := by decide +kernel
theorem d_Cu_passEscape_0 : decode b_Cu_passEscape 0 = .ok (.iload_n 1, 1) := by decide +kernel
theorem d_Cu_passEscape_1 : decode b_Cu_passEscape 1 = .ok (.invokestatic 216, 3) := by decide +kernel
theorem d_Cu_passEscape_4 : decode b_Cu_passEscape 4 = .ok (.ifCond .lt 27, 3) := by decide +kernel
theorem d_Cu_passEscape_7 : decode b_Cu_passEscape 7 = .ok (.aload_n 0, 1) := by decide +kernel
theorem d_Cu_passEscape_8 : decode b_Cu_passEscape 8 = .ok (.getfield 28, 3) := by decide +kernel
theorem d_Cu_passEscape_11 : decode b_Cu_passEscape 11 = .ok (.iload_n 1, 1) := by decide +kernel
theorem d_Cu_passEscape_12 : decode b_Cu_passEscape 12 = .ok (.invokestatic 216, 3) := by decide +kernel
theorem d_Cu_passEscape_15 : decode b_Cu_passEscape 15 = .ok (.invokevirtual 156, 3) := by decide +kernel
theorem d_Cu_passEscape_18 : decode b_Cu_passEscape 18 = .ok (.aload_n 0, 1) := by decide +kernel
theorem d_Cu_passEscape_19 : decode b_Cu_passEscape 19 = .ok (.dup, 1) := by decide +kernel
theorem d_Cu_passEscape_20 : decode b_Cu_passEscape 20 = .ok (.getfield 32, 3) := by decide +kernel
theorem d_Cu_passEscape_23 : decode b_Cu_passEscape 23 = .ok (.iconst 1, 1) := by decide +kernel
theorem d_Cu_passEscape_24 : decode b_Cu_passEscape 24 = .ok (.iadd, 1) := by decide +kernel
theorem d_Cu_passEscape_25 : decode b_Cu_passEscape 25 = .ok (.putfield 32, 3) := by decide +kernel
theorem d_Cu_passEscape_28 : decode b_Cu_passEscape 28 = .ok (.goto 103, 3) := by decide +kernel
theorem d_Cu_passEscape_31 : decode b_Cu_passEscape 31 = .ok (.iload_n 1, 1) := by decide +kernel
theorem d_Cu_passEscape_32 : decode b_Cu_passEscape 32 = .ok (.invokestatic 146, 3) := by decide +kernel
theorem d_Cu_passEscape_35 : decode b_Cu_passEscape 35 = .ok (.ifCond .eq 35, 3) := by decide +kernel
theorem d_Cu_passEscape_38 : decode b_Cu_passEscape 38 = .ok (.aload_n 0, 1) := by decide +kernel
theorem d_Cu_passEscape_39 : decode b_Cu_passEscape 39 = .ok (.getfield 28, 3) := by decide +kernel
theorem d_Cu_passEscape_42 : decode b_Cu_passEscape 42 = .ok (.bipush 10, 2) := by decide +kernel
theorem d_Cu_passEscape_44 : decode b_Cu_passEscape 44 = .ok (.invokevirtual 156, 3) := by decide +kernel
theorem d_Cu_passEscape_47 : decode b_Cu_passEscape 47 = .ok (.aload_n 0, 1) := by decide +kernel
theorem d_Cu_passEscape_48 : decode b_Cu_passEscape 48 = .ok (.dup, 1) := by decide +kernel
theorem d_Cu_passEscape_49 : decode b_Cu_passEscape 49 = .ok (.getfield 32, 3) := by decide +kernel
theorem d_Cu_passEscape_52 : decode b_Cu_passEscape 52 = .ok (.aload_n 0, 1) := by decide +kernel
theorem d_Cu_passEscape_53 : decode b_Cu_passEscape 53 = .ok (.getfield 12, 3) := by decide +kernel
theorem d_Cu_passEscape_56 : decode b_Cu_passEscape 56 = .ok (.aload_n 0, 1) := by decide +kernel
theorem d_Cu_passEscape_57 : decode b_Cu_passEscape 57 = .ok (.getfield 32, 3) := by decide +kernel
theorem d_Cu_passEscape_60 : decode b_Cu_passEscape 60 = .ok (.invokevirtual 132, 3) := by decide +kernel
theorem d_Cu_passEscape_63 : decode b_Cu_passEscape 63 = .ok (.iadd, 1) := by decide +kernel
theorem d_Cu_passEscape_64 : decode b_Cu_passEscape 64 = .ok (.putfield 32, 3) := by decide +kernel
theorem d_Cu_passEscape_67 : decode b_Cu_passEscape 67 = .ok (.goto 64, 3) := by decide +kernel
theorem d_Cu_passEscape_70 : decode b_Cu_passEscape 70 = .ok (.iload_n 1, 1) := by decide +kernel
theorem d_Cu_passEscape_71 : decode b_Cu_passEscape 71 = .ok (.bipush 122, 2) := by decide +kernel
theorem d_Cu_passEscape_73 : decode b_Cu_passEscape 73 = .ok (.if_icmp .ne 10, 3) := by decide +kernel
theorem d_Cu_passEscape_76 : decode b_Cu_passEscape 76 = .ok (.aload_n 0, 1) := by decide +kernel
theorem d_Cu_passEscape_77 : decode b_Cu_passEscape 77 = .ok (.invokevirtual 219, 3) := by decide +kernel
theorem d_Cu_passEscape_80 : decode b_Cu_passEscape 80 = .ok (.goto 51, 3) := by decide +kernel
theorem d_Cu_passEscape_83 : decode b_Cu_passEscape 83 = .ok (.iload_n 1, 1) := by decide +kernel
theorem d_Cu_passEscape_84 : decode b_Cu_passEscape 84 = .ok (.bipush 120, 2) := by decide +kernel
theorem d_Cu_passEscape_86 : decode b_Cu_passEscape 86 = .ok (.if_icmp .ne 10, 3) := by decide +kernel
theorem d_Cu_passEscape_89 : decode b_Cu_passEscape 89 = .ok (.aload_n 0, 1) := by decide +kernel
theorem d_Cu_passEscape_90 : decode b_Cu_passEscape 90 = .ok (.invokevirtual 222, 3) := by decide +kernel
theorem d_Cu_passEscape_93 : decode b_Cu_passEscape 93 = .ok (.goto 38, 3) := by decide +kernel
theorem d_Cu_passEscape_96 : decode b_Cu_passEscape 96 = .ok (.iload_n 1, 1) := by decide +kernel
theorem d_Cu_passEscape_97 : decode b_Cu_passEscape 97 = .ok (.invokestatic 113, 3) := by decide +kernel
theorem d_Cu_passEscape_100 : decode b_Cu_passEscape 100 = .ok (.ifCond .eq 10, 3) := by decide +kernel
theorem d_Cu_passEscape_103 : decode b_Cu_passEscape 103 = .ok (.aload_n 0, 1) := by decide +kernel
theorem d_Cu_passEscape_104 : decode b_Cu_passEscape 104 = .ok (.invokevirtual 225, 3) := by decide +kernel
theorem d_Cu_passEscape_107 : decode b_Cu_passEscape 107 = .ok (.goto 24, 3) := by decide +kernel
theorem d_Cu_passEscape_110 : decode b_Cu_passEscape 110 = .ok (.iload_n 1, 1) := by decide +kernel
theorem d_Cu_passEscape_111 : decode b_Cu_passEscape 111 = .ok (.bipush 117, 2) := by decide +kernel
theorem d_Cu_passEscape_113 : decode b_Cu_passEscape 113 = .ok (.if_icmp .ne 10, 3) := by decide +kernel
theorem d_Cu_passEscape_116 : decode b_Cu_passEscape 116 = .ok (.aload_n 0, 1) := by decide +kernel
theorem d_Cu_passEscape_117 : decode b_Cu_passEscape 117 = .ok (.invokevirtual 228, 3) := by decide +kernel
theorem d_Cu_passEscape_120 : decode b_Cu_passEscape 120 = .ok (.goto 11, 3) := by decide +kernel
theorem d_Cu_passEscape_123 : decode b_Cu_passEscape 123 = .ok (.aload_n 0, 1) := by decide +kernel
theorem d_Cu_passEscape_124 : decode b_Cu_passEscape 124 = .ok (.aload_n 0, 1) := by decide +kernel
theorem d_Cu_passEscape_125 : decode b_Cu_passEscape 125 = .ok (.getfield 32, 3) := by decide +kernel
theorem d_Cu_passEscape_128 : decode b_Cu_passEscape 128 = .ok (.invokevirtual 231, 3) := by decide +kernel
theorem d_Cu_passEscape_131 : decode b_Cu_passEscape 131 = .ok (.return_, 1) := by decide +kernel
theorem d_Cu_readQuoted_0 : decode b_Cu_readQuoted 0 = .ok (.aload_n 0, 1) := by decide +kernel
theorem d_Cu_readQuoted_1 : decode b_Cu_readQuoted 1 = .ok (.dup, 1) := by decide +kernel
theorem d_Cu_readQuoted_2 : decode b_Cu_readQuoted 2 = .ok (.getfield 32, 3) := by decide +kernel
theorem d_Cu_readQuoted_5 : decode b_Cu_readQuoted 5 = .ok (.iconst 1, 1) := by decide +kernel
theorem d_Cu_readQuoted_6 : decode b_Cu_readQuoted 6 = .ok (.iadd, 1) := by decide +kernel
theorem d_Cu_readQuoted_7 : decode b_Cu_readQuoted 7 = .ok (.putfield 32, 3) := by decide +kernel
theorem d_Cu_readQuoted_10 : decode b_Cu_readQuoted 10 = .ok (.aload_n 0, 1) := by decide +kernel
theorem d_Cu_readQuoted_11 : decode b_Cu_readQuoted 11 = .ok (.getfield 28, 3) := by decide +kernel
theorem d_Cu_readQuoted_14 : decode b_Cu_readQuoted 14 = .ok (.invokevirtual 153, 3) := by decide +kernel
theorem d_Cu_readQuoted_17 : decode b_Cu_readQuoted 17 = .ok (.iconst 0, 1) := by decide +kernel
theorem d_Cu_readQuoted_18 : decode b_Cu_readQuoted 18 = .ok (.istore_n 2, 1) := by decide +kernel
theorem d_Cu_readQuoted_19 : decode b_Cu_readQuoted 19 = .ok (.iload_n 2, 1) := by decide +kernel
theorem d_Cu_readQuoted_20 : decode b_Cu_readQuoted 20 = .ok (.aload_n 0, 1) := by decide +kernel
theorem d_Cu_readQuoted_21 : decode b_Cu_readQuoted 21 = .ok (.getfield 12, 3) := by decide +kernel
theorem d_Cu_readQuoted_24 : decode b_Cu_readQuoted 24 = .ok (.getfield 60, 3) := by decide +kernel
theorem d_Cu_readQuoted_27 : decode b_Cu_readQuoted 27 = .ok (.if_icmp .ge 120, 3) := by decide +kernel
theorem d_Cu_readQuoted_30 : decode b_Cu_readQuoted 30 = .ok (.aload_n 0, 1) := by decide +kernel
theorem d_Cu_readQuoted_31 : decode b_Cu_readQuoted 31 = .ok (.getfield 32, 3) := by decide +kernel
theorem d_Cu_readQuoted_34 : decode b_Cu_readQuoted 34 = .ok (.aload_n 0, 1) := by decide +kernel
theorem d_Cu_readQuoted_35 : decode b_Cu_readQuoted 35 = .ok (.getfield 12, 3) := by decide +kernel
theorem d_Cu_readQuoted_38 : decode b_Cu_readQuoted 38 = .ok (.getfield 60, 3) := by decide +kernel
theorem d_Cu_readQuoted_41 : decode b_Cu_readQuoted 41 = .ok (.if_icmp .ge 106, 3) := by decide +kernel
theorem d_Cu_readQuoted_44 : decode b_Cu_readQuoted 44 = .ok (.aload_n 0, 1) := by decide +kernel
theorem d_Cu_readQuoted_45 : decode b_Cu_readQuoted 45 = .ok (.getfield 12, 3) := by decide +kernel
theorem d_Cu_readQuoted_48 : decode b_Cu_readQuoted 48 = .ok (.aload_n 0, 1) := by decide +kernel
theorem d_Cu_readQuoted_49 : decode b_Cu_readQuoted 49 = .ok (.getfield 32, 3) := by decide +kernel
theorem d_Cu_readQuoted_52 : decode b_Cu_readQuoted 52 = .ok (.invokevirtual 63, 3) := by decide +kernel
theorem d_Cu_readQuoted_55 : decode b_Cu_readQuoted 55 = .ok (.iload_n 1, 1) := by decide +kernel
theorem d_Cu_readQuoted_56 : decode b_Cu_readQuoted 56 = .ok (.if_icmp .eq 91, 3) := by decide +kernel
theorem d_Cu_readQuoted_59 : decode b_Cu_readQuoted 59 = .ok (.aload_n 0, 1) := by decide +kernel
theorem d_Cu_readQuoted_60 : decode b_Cu_readQuoted 60 = .ok (.getfield 36, 3) := by decide +kernel
theorem d_Cu_readQuoted_63 : decode b_Cu_readQuoted 63 = .ok (.ifCond .ne 84, 3) := by decide +kernel
theorem d_Cu_readQuoted_66 : decode b_Cu_readQuoted 66 = .ok (.aload_n 0, 1) := by decide +kernel
theorem d_Cu_readQuoted_67 : decode b_Cu_readQuoted 67 = .ok (.getfield 12, 3) := by decide +kernel
theorem d_Cu_readQuoted_70 : decode b_Cu_readQuoted 70 = .ok (.aload_n 0, 1) := by decide +kernel
theorem d_Cu_readQuoted_71 : decode b_Cu_readQuoted 71 = .ok (.getfield 32, 3) := by decide +kernel
theorem d_Cu_readQuoted_74 : decode b_Cu_readQuoted 74 = .ok (.invokevirtual 63, 3) := by decide +kernel
theorem d_Cu_readQuoted_77 : decode b_Cu_readQuoted 77 = .ok (.istore_n 3, 1) := by decide +kernel
theorem d_Cu_readQuoted_78 : decode b_Cu_readQuoted 78 = .ok (.aload_n 0, 1) := by decide +kernel
theorem d_Cu_readQuoted_79 : decode b_Cu_readQuoted 79 = .ok (.dup, 1) := by decide +kernel
theorem d_Cu_readQuoted_80 : decode b_Cu_readQuoted 80 = .ok (.getfield 32, 3) := by decide +kernel
theorem d_Cu_readQuoted_83 : decode b_Cu_readQuoted 83 = .ok (.iconst 1, 1) := by decide +kernel
theorem d_Cu_readQuoted_84 : decode b_Cu_readQuoted 84 = .ok (.iadd, 1) := by decide +kernel
theorem d_Cu_readQuoted_85 : decode b_Cu_readQuoted 85 = .ok (.putfield 32, 3) := by decide +kernel
theorem d_Cu_readQuoted_88 : decode b_Cu_readQuoted 88 = .ok (.iload_n 3, 1) := by decide +kernel
theorem d_Cu_readQuoted_89 : decode b_Cu_readQuoted 89 = .ok (.bipush 92, 2) := by decide +kernel
theorem d_Cu_readQuoted_91 : decode b_Cu_readQuoted 91 = .ok (.if_icmp .ne 21, 3) := by decide +kernel
theorem d_Cu_readQuoted_94 : decode b_Cu_readQuoted 94 = .ok (.aload_n 0, 1) := by decide +kernel
theorem d_Cu_readQuoted_95 : decode b_Cu_readQuoted 95 = .ok (.aload_n 0, 1) := by decide +kernel
theorem d_Cu_readQuoted_96 : decode b_Cu_readQuoted 96 = .ok (.getfield 12, 3) := by decide +kernel
theorem d_Cu_readQuoted_99 : decode b_Cu_readQuoted 99 = .ok (.aload_n 0, 1) := by decide +kernel
theorem d_Cu_readQuoted_100 : decode b_Cu_readQuoted 100 = .ok (.getfield 32, 3) := by decide +kernel
theorem d_Cu_readQuoted_103 : decode b_Cu_readQuoted 103 = .ok (.invokevirtual 63, 3) := by decide +kernel
theorem d_Cu_readQuoted_106 : decode b_Cu_readQuoted 106 = .ok (.invokevirtual 213, 3) := by decide +kernel
theorem d_Cu_readQuoted_109 : decode b_Cu_readQuoted 109 = .ok (.goto 32, 3) := by decide +kernel
theorem d_Cu_readQuoted_112 : decode b_Cu_readQuoted 112 = .ok (.iload_n 3, 1) := by decide +kernel
theorem d_Cu_readQuoted_113 : decode b_Cu_readQuoted 113 = .ok (.invokestatic 146, 3) := by decide +kernel
theorem d_Cu_readQuoted_116 : decode b_Cu_readQuoted 116 = .ok (.ifCond .eq 17, 3) := by decide +kernel
theorem d_Cu_readQuoted_119 : decode b_Cu_readQuoted 119 = .ok (.aload_n 0, 1) := by decide +kernel
theorem d_Cu_readQuoted_120 : decode b_Cu_readQuoted 120 = .ok (.iconst 4, 1) := by decide +kernel
theorem d_Cu_readQuoted_121 : decode b_Cu_readQuoted 121 = .ok (.aload_n 0, 1) := by decide +kernel
theorem d_Cu_readQuoted_122 : decode b_Cu_readQuoted 122 = .ok (.getfield 32, 3) := by decide +kernel
theorem d_Cu_readQuoted_125 : decode b_Cu_readQuoted 125 = .ok (.iconst 1, 1) := by decide +kernel
theorem d_Cu_readQuoted_126 : decode b_Cu_readQuoted 126 = .ok (.isub, 1) := by decide +kernel
theorem d_Cu_readQuoted_127 : decode b_Cu_readQuoted 127 = .ok (.invokevirtual 93, 3) := by decide +kernel
theorem d_Cu_readQuoted_130 : decode b_Cu_readQuoted 130 = .ok (.goto 11, 3) := by decide +kernel
theorem d_Cu_readQuoted_133 : decode b_Cu_readQuoted 133 = .ok (.aload_n 0, 1) := by decide +kernel
theorem d_Cu_readQuoted_134 : decode b_Cu_readQuoted 134 = .ok (.getfield 28, 3) := by decide +kernel
theorem d_Cu_readQuoted_137 : decode b_Cu_readQuoted 137 = .ok (.iload_n 3, 1) := by decide +kernel
theorem d_Cu_readQuoted_138 : decode b_Cu_readQuoted 138 = .ok (.invokevirtual 156, 3) := by decide +kernel
theorem d_Cu_readQuoted_141 : decode b_Cu_readQuoted 141 = .ok (.iinc 2 1, 3) := by decide +kernel
theorem d_Cu_readQuoted_144 : decode b_Cu_readQuoted 144 = .ok (.goto (-125), 3) := by decide +kernel
theorem d_Cu_readQuoted_147 : decode b_Cu_readQuoted 147 = .ok (.aload_n 0, 1) := by decide +kernel
theorem d_Cu_readQuoted_148 : decode b_Cu_readQuoted 148 = .ok (.getfield 36, 3) := by decide +kernel
theorem d_Cu_readQuoted_151 : decode b_Cu_readQuoted 151 = .ok (.ifCond .ne 29, 3) := by decide +kernel
theorem d_Cu_readQuoted_154 : decode b_Cu_readQuoted 154 = .ok (.aload_n 0, 1) := by decide +kernel
theorem d_Cu_readQuoted_155 : decode b_Cu_readQuoted 155 = .ok (.getfield 32, 3) := by decide +kernel
theorem d_Cu_readQuoted_158 : decode b_Cu_readQuoted 158 = .ok (.aload_n 0, 1) := by decide +kernel
theorem d_Cu_readQuoted_159 : decode b_Cu_readQuoted 159 = .ok (.getfield 12, 3) := by decide +kernel
theorem d_Cu_readQuoted_162 : decode b_Cu_readQuoted 162 = .ok (.getfield 60, 3) := by decide +kernel
theorem d_Cu_readQuoted_165 : decode b_Cu_readQuoted 165 = .ok (.if_icmp .lt 15, 3) := by decide +kernel
theorem d_Cu_readQuoted_168 : decode b_Cu_readQuoted 168 = .ok (.aload_n 0, 1) := by decide +kernel
theorem d_Cu_readQuoted_169 : decode b_Cu_readQuoted 169 = .ok (.iconst 4, 1) := by decide +kernel
theorem d_Cu_readQuoted_170 : decode b_Cu_readQuoted 170 = .ok (.aload_n 0, 1) := by decide +kernel
theorem d_Cu_readQuoted_171 : decode b_Cu_readQuoted 171 = .ok (.getfield 12, 3) := by decide +kernel
theorem d_Cu_readQuoted_174 : decode b_Cu_readQuoted 174 = .ok (.getfield 60, 3) := by decide +kernel
theorem d_Cu_readQuoted_177 : decode b_Cu_readQuoted 177 = .ok (.invokevirtual 93, 3) := by decide +kernel
theorem d_Cu_readQuoted_180 : decode b_Cu_readQuoted 180 = .ok (.aload_n 0, 1) := by decide +kernel
theorem d_Cu_readQuoted_181 : decode b_Cu_readQuoted 181 = .ok (.getfield 36, 3) := by decide +kernel
theorem d_Cu_readQuoted_184 : decode b_Cu_readQuoted 184 = .ok (.ifCond .ne 25, 3) := by decide +kernel
theorem d_Cu_readQuoted_187 : decode b_Cu_readQuoted 187 = .ok (.aload_n 0, 1) := by decide +kernel
theorem d_Cu_readQuoted_188 : decode b_Cu_readQuoted 188 = .ok (.dup, 1) := by decide +kernel
theorem d_Cu_readQuoted_189 : decode b_Cu_readQuoted 189 = .ok (.getfield 32, 3) := by decide +kernel
theorem d_Cu_readQuoted_192 : decode b_Cu_readQuoted 192 = .ok (.iconst 1, 1) := by decide +kernel
theorem d_Cu_readQuoted_193 : decode b_Cu_readQuoted 193 = .ok (.iadd, 1) := by decide +kernel
theorem d_Cu_readQuoted_194 : decode b_Cu_readQuoted 194 = .ok (.putfield 32, 3) := by decide +kernel
theorem d_Cu_readQuoted_197 : decode b_Cu_readQuoted 197 = .ok (.aload_n 0, 1) := by decide +kernel
theorem d_Cu_readQuoted_198 : decode b_Cu_readQuoted 198 = .ok (.iconst 3, 1) := by decide +kernel
theorem d_Cu_readQuoted_199 : decode b_Cu_readQuoted 199 = .ok (.aload_n 0, 1) := by decide +kernel
theorem d_Cu_readQuoted_200 : decode b_Cu_readQuoted 200 = .ok (.getfield 28, 3) := by decide +kernel
theorem d_Cu_readQuoted_203 : decode b_Cu_readQuoted 203 = .ok (.invokevirtual 159, 3) := by decide +kernel
theorem d_Cu_readQuoted_206 : decode b_Cu_readQuoted 206 = .ok (.invokevirtual 163, 3) := by decide +kernel
theorem d_Cu_readQuoted_209 : decode b_Cu_readQuoted 209 = .ok (.return_, 1) := by decide +kernel
theorem d_Cu_readLongText_0 : decode b_Cu_readLongText 0 = .ok (.aload_n 0, 1) := by decide +kernel
theorem d_Cu_readLongText_1 : decode b_Cu_readLongText 1 = .ok (.getfield 32, 3) := by decide +kernel
theorem d_Cu_readLongText_4 : decode b_Cu_readLongText 4 = .ok (.iconst 2, 1) := by decide +kernel
theorem d_Cu_readLongText_5 : decode b_Cu_readLongText 5 = .ok (.iadd, 1) := by decide +kernel
theorem d_Cu_readLongText_6 : decode b_Cu_readLongText 6 = .ok (.iload_n 1, 1) := by decide +kernel
theorem d_Cu_readLongText_7 : decode b_Cu_readLongText 7 = .ok (.iadd, 1) := by decide +kernel
theorem d_Cu_readLongText_8 : decode b_Cu_readLongText 8 = .ok (.istore_n 2, 1) := by decide +kernel
theorem d_Cu_readLongText_9 : decode b_Cu_readLongText 9 = .ok (.aload_n 0, 1) := by decide +kernel
theorem d_Cu_readLongText_10 : decode b_Cu_readLongText 10 = .ok (.iload_n 2, 1) := by decide +kernel
theorem d_Cu_readLongText_11 : decode b_Cu_readLongText 11 = .ok (.iload_n 1, 1) := by decide +kernel
theorem d_Cu_readLongText_12 : decode b_Cu_readLongText 12 = .ok (.invokevirtual 143, 3) := by decide +kernel
theorem d_Cu_readLongText_15 : decode b_Cu_readLongText 15 = .ok (.istore_n 3, 1) := by decide +kernel
theorem d_Cu_readLongText_16 : decode b_Cu_readLongText 16 = .ok (.aload_n 0, 1) := by decide +kernel
theorem d_Cu_readLongText_17 : decode b_Cu_readLongText 17 = .ok (.getfield 36, 3) := by decide +kernel
theorem d_Cu_readLongText_20 : decode b_Cu_readLongText 20 = .ok (.ifCond .eq 4, 3) := by decide +kernel
theorem d_Cu_readLongText_23 : decode b_Cu_readLongText 23 = .ok (.return_, 1) := by decide +kernel
theorem d_Cu_readLongText_24 : decode b_Cu_readLongText 24 = .ok (.aload_n 0, 1) := by decide +kernel
theorem d_Cu_readLongText_25 : decode b_Cu_readLongText 25 = .ok (.getfield 28, 3) := by decide +kernel
theorem d_Cu_readLongText_28 : decode b_Cu_readLongText 28 = .ok (.invokevirtual 153, 3) := by decide +kernel
theorem d_Cu_readLongText_31 : decode b_Cu_readLongText 31 = .ok (.iload_n 2, 1) := by decide +kernel
theorem d_Cu_readLongText_32 : decode b_Cu_readLongText 32 = .ok (.aload_n 0, 1) := by decide +kernel
theorem d_Cu_readLongText_33 : decode b_Cu_readLongText 33 = .ok (.getfield 12, 3) := by decide +kernel
theorem d_Cu_readLongText_36 : decode b_Cu_readLongText 36 = .ok (.iload_n 2, 1) := by decide +kernel
theorem d_Cu_readLongText_37 : decode b_Cu_readLongText 37 = .ok (.invokevirtual 132, 3) := by decide +kernel
theorem d_Cu_readLongText_40 : decode b_Cu_readLongText 40 = .ok (.iadd, 1) := by decide +kernel
theorem d_Cu_readLongText_41 : decode b_Cu_readLongText 41 = .ok (.istore 4, 2) := by decide +kernel
theorem d_Cu_readLongText_43 : decode b_Cu_readLongText 43 = .ok (.iload 4, 2) := by decide +kernel
theorem d_Cu_readLongText_45 : decode b_Cu_readLongText 45 = .ok (.iload_n 3, 1) := by decide +kernel
theorem d_Cu_readLongText_46 : decode b_Cu_readLongText 46 = .ok (.if_icmp .ge 54, 3) := by decide +kernel
theorem d_Cu_readLongText_49 : decode b_Cu_readLongText 49 = .ok (.aload_n 0, 1) := by decide +kernel
theorem d_Cu_readLongText_50 : decode b_Cu_readLongText 50 = .ok (.getfield 12, 3) := by decide +kernel
theorem d_Cu_readLongText_53 : decode b_Cu_readLongText 53 = .ok (.iload 4, 2) := by decide +kernel
theorem d_Cu_readLongText_55 : decode b_Cu_readLongText 55 = .ok (.invokevirtual 132, 3) := by decide +kernel
theorem d_Cu_readLongText_58 : decode b_Cu_readLongText 58 = .ok (.istore 5, 2) := by decide +kernel
theorem d_Cu_readLongText_60 : decode b_Cu_readLongText 60 = .ok (.aload_n 0, 1) := by decide +kernel
theorem d_Cu_readLongText_61 : decode b_Cu_readLongText 61 = .ok (.getfield 28, 3) := by decide +kernel
theorem d_Cu_readLongText_64 : decode b_Cu_readLongText 64 = .ok (.iload 5, 2) := by decide +kernel
theorem d_Cu_readLongText_66 : decode b_Cu_readLongText 66 = .ok (.ifCond .le 8, 3) := by decide +kernel
theorem d_Cu_readLongText_69 : decode b_Cu_readLongText 69 = .ok (.bipush 10, 2) := by decide +kernel
theorem d_Cu_readLongText_71 : decode b_Cu_readLongText 71 = .ok (.goto 12, 3) := by decide +kernel
theorem d_Cu_readLongText_74 : decode b_Cu_readLongText 74 = .ok (.aload_n 0, 1) := by decide +kernel
theorem d_Cu_readLongText_75 : decode b_Cu_readLongText 75 = .ok (.getfield 12, 3) := by decide +kernel
theorem d_Cu_readLongText_78 : decode b_Cu_readLongText 78 = .ok (.iload 4, 2) := by decide +kernel
theorem d_Cu_readLongText_80 : decode b_Cu_readLongText 80 = .ok (.invokevirtual 63, 3) := by decide +kernel
theorem d_Cu_readLongText_83 : decode b_Cu_readLongText 83 = .ok (.invokevirtual 156, 3) := by decide +kernel
theorem d_Cu_readLongText_86 : decode b_Cu_readLongText 86 = .ok (.iload 4, 2) := by decide +kernel
theorem d_Cu_readLongText_88 : decode b_Cu_readLongText 88 = .ok (.iload 5, 2) := by decide +kernel
theorem d_Cu_readLongText_90 : decode b_Cu_readLongText 90 = .ok (.iconst 1, 1) := by decide +kernel
theorem d_Cu_readLongText_91 : decode b_Cu_readLongText 91 = .ok (.invokestatic 135, 3) := by decide +kernel
theorem d_Cu_readLongText_94 : decode b_Cu_readLongText 94 = .ok (.iadd, 1) := by decide +kernel
theorem d_Cu_readLongText_95 : decode b_Cu_readLongText 95 = .ok (.istore 4, 2) := by decide +kernel
theorem d_Cu_readLongText_97 : decode b_Cu_readLongText 97 = .ok (.goto (-54), 3) := by decide +kernel
theorem d_Cu_readLongText_100 : decode b_Cu_readLongText 100 = .ok (.aload_n 0, 1) := by decide +kernel
theorem d_Cu_readLongText_101 : decode b_Cu_readLongText 101 = .ok (.iload_n 3, 1) := by decide +kernel
theorem d_Cu_readLongText_102 : decode b_Cu_readLongText 102 = .ok (.iconst 2, 1) := by decide +kernel
theorem d_Cu_readLongText_103 : decode b_Cu_readLongText 103 = .ok (.iadd, 1) := by decide +kernel
theorem d_Cu_readLongText_104 : decode b_Cu_readLongText 104 = .ok (.iload_n 1, 1) := by decide +kernel
theorem d_Cu_readLongText_105 : decode b_Cu_readLongText 105 = .ok (.iadd, 1) := by decide +kernel
theorem d_Cu_readLongText_106 : decode b_Cu_readLongText 106 = .ok (.putfield 32, 3) := by decide +kernel
theorem d_Cu_readLongText_109 : decode b_Cu_readLongText 109 = .ok (.aload_n 0, 1) := by decide +kernel
theorem d_Cu_readLongText_110 : decode b_Cu_readLongText 110 = .ok (.iconst 3, 1) := by decide +kernel
theorem d_Cu_readLongText_111 : decode b_Cu_readLongText 111 = .ok (.aload_n 0, 1) := by decide +kernel
theorem d_Cu_readLongText_112 : decode b_Cu_readLongText 112 = .ok (.getfield 28, 3) := by decide +kernel
theorem d_Cu_readLongText_115 : decode b_Cu_readLongText 115 = .ok (.invokevirtual 159, 3) := by decide +kernel
theorem d_Cu_readLongText_118 : decode b_Cu_readLongText 118 = .ok (.invokevirtual 163, 3) := by decide +kernel
theorem d_Cu_readLongText_121 : decode b_Cu_readLongText 121 = .ok (.return_, 1) := by decide +kernel
theorem d_Cu_readOperator_0 : decode b_Cu_readOperator 0 = .ok (.aload_n 0, 1) := by decide +kernel
theorem d_Cu_readOperator_1 : decode b_Cu_readOperator 1 = .ok (.getfield 12, 3) := by decide +kernel
theorem d_Cu_readOperator_4 : decode b_Cu_readOperator 4 = .ok (.aload_n 0, 1) := by decide +kernel
theorem d_Cu_readOperator_5 : decode b_Cu_readOperator 5 = .ok (.getfield 32, 3) := by decide +kernel
theorem d_Cu_readOperator_8 : decode b_Cu_readOperator 8 = .ok (.invokevirtual 63, 3) := by decide +kernel
theorem d_Cu_readOperator_11 : decode b_Cu_readOperator 11 = .ok (.istore_n 1, 1) := by decide +kernel
theorem d_Cu_readOperator_12 : decode b_Cu_readOperator 12 = .ok (.aload_n 0, 1) := by decide +kernel
theorem d_Cu_readOperator_13 : decode b_Cu_readOperator 13 = .ok (.getfield 12, 3) := by decide +kernel
theorem d_Cu_readOperator_16 : decode b_Cu_readOperator 16 = .ok (.aload_n 0, 1) := by decide +kernel
theorem d_Cu_readOperator_17 : decode b_Cu_readOperator 17 = .ok (.getfield 32, 3) := by decide +kernel
theorem d_Cu_readOperator_20 : decode b_Cu_readOperator 20 = .ok (.iconst 1, 1) := by decide +kernel
theorem d_Cu_readOperator_21 : decode b_Cu_readOperator 21 = .ok (.iadd, 1) := by decide +kernel
theorem d_Cu_readOperator_22 : decode b_Cu_readOperator 22 = .ok (.invokevirtual 63, 3) := by decide +kernel
theorem d_Cu_readOperator_25 : decode b_Cu_readOperator 25 = .ok (.istore_n 2, 1) := by decide +kernel
theorem d_Cu_readOperator_26 : decode b_Cu_readOperator 26 = .ok (.iload_n 1, 1) := by decide +kernel
theorem d_Cu_readOperator_27 : decode b_Cu_readOperator 27 = .ok (.iload_n 2, 1) := by decide +kernel
theorem d_Cu_readOperator_28 : decode b_Cu_readOperator 28 = .ok (.aload_n 0, 1) := by decide +kernel
theorem d_Cu_readOperator_29 : decode b_Cu_readOperator 29 = .ok (.getfield 12, 3) := by decide +kernel
theorem d_Cu_readOperator_32 : decode b_Cu_readOperator 32 = .ok (.aload_n 0, 1) := by decide +kernel
theorem d_Cu_readOperator_33 : decode b_Cu_readOperator 33 = .ok (.getfield 32, 3) := by decide +kernel
theorem d_Cu_readOperator_36 : decode b_Cu_readOperator 36 = .ok (.iconst 2, 1) := by decide +kernel
theorem d_Cu_readOperator_37 : decode b_Cu_readOperator 37 = .ok (.iadd, 1) := by decide +kernel
theorem d_Cu_readOperator_38 : decode b_Cu_readOperator 38 = .ok (.invokevirtual 63, 3) := by decide +kernel
theorem d_Cu_readOperator_41 : decode b_Cu_readOperator 41 = .ok (.invokestatic 203, 3) := by decide +kernel
theorem d_Cu_readOperator_44 : decode b_Cu_readOperator 44 = .ok (.istore_n 3, 1) := by decide +kernel
theorem d_Cu_readOperator_45 : decode b_Cu_readOperator 45 = .ok (.iconst 3, 1) := by decide +kernel
theorem d_Cu_readOperator_46 : decode b_Cu_readOperator 46 = .ok (.istore 4, 2) := by decide +kernel
theorem d_Cu_readOperator_48 : decode b_Cu_readOperator 48 = .ok (.iload_n 3, 1) := by decide +kernel
theorem d_Cu_readOperator_49 : decode b_Cu_readOperator 49 = .ok (.ifCond .ne 12, 3) := by decide +kernel
theorem d_Cu_readOperator_52 : decode b_Cu_readOperator 52 = .ok (.iload_n 1, 1) := by decide +kernel
theorem d_Cu_readOperator_53 : decode b_Cu_readOperator 53 = .ok (.iload_n 2, 1) := by decide +kernel
theorem d_Cu_readOperator_54 : decode b_Cu_readOperator 54 = .ok (.invokestatic 207, 3) := by decide +kernel
theorem d_Cu_readOperator_57 : decode b_Cu_readOperator 57 = .ok (.istore_n 3, 1) := by decide +kernel
theorem d_Cu_readOperator_58 : decode b_Cu_readOperator 58 = .ok (.iconst 2, 1) := by decide +kernel
theorem d_Cu_readOperator_59 : decode b_Cu_readOperator 59 = .ok (.istore 4, 2) := by decide +kernel
theorem d_Cu_readOperator_61 : decode b_Cu_readOperator 61 = .ok (.iload_n 3, 1) := by decide +kernel
theorem d_Cu_readOperator_62 : decode b_Cu_readOperator 62 = .ok (.ifCond .ne 11, 3) := by decide +kernel
theorem d_Cu_readOperator_65 : decode b_Cu_readOperator 65 = .ok (.iload_n 1, 1) := by decide +kernel
theorem d_Cu_readOperator_66 : decode b_Cu_readOperator 66 = .ok (.invokestatic 119, 3) := by decide +kernel
theorem d_Cu_readOperator_69 : decode b_Cu_readOperator 69 = .ok (.istore_n 3, 1) := by decide +kernel
theorem d_Cu_readOperator_70 : decode b_Cu_readOperator 70 = .ok (.iconst 1, 1) := by decide +kernel
theorem d_Cu_readOperator_71 : decode b_Cu_readOperator 71 = .ok (.istore 4, 2) := by decide +kernel
theorem d_Cu_readOperator_73 : decode b_Cu_readOperator 73 = .ok (.aload_n 0, 1) := by decide +kernel
theorem d_Cu_readOperator_74 : decode b_Cu_readOperator 74 = .ok (.dup, 1) := by decide +kernel
theorem d_Cu_readOperator_75 : decode b_Cu_readOperator 75 = .ok (.getfield 32, 3) := by decide +kernel
theorem d_Cu_readOperator_78 : decode b_Cu_readOperator 78 = .ok (.iload 4, 2) := by decide +kernel
theorem d_Cu_readOperator_80 : decode b_Cu_readOperator 80 = .ok (.iadd, 1) := by decide +kernel
theorem d_Cu_readOperator_81 : decode b_Cu_readOperator 81 = .ok (.putfield 32, 3) := by decide +kernel
theorem d_Cu_readOperator_84 : decode b_Cu_readOperator 84 = .ok (.aload_n 0, 1) := by decide +kernel
theorem d_Cu_readOperator_85 : decode b_Cu_readOperator 85 = .ok (.iload_n 3, 1) := by decide +kernel
theorem d_Cu_readOperator_86 : decode b_Cu_readOperator 86 = .ok (.iconst (-1), 1) := by decide +kernel
theorem d_Cu_readOperator_87 : decode b_Cu_readOperator 87 = .ok (.invokevirtual 163, 3) := by decide +kernel
theorem d_Cu_readOperator_90 : decode b_Cu_readOperator 90 = .ok (.return_, 1) := by decide +kernel
theorem d_Cu_readBracket_0 : decode b_Cu_readBracket 0 = .ok (.aload_n 0, 1) := by decide +kernel
theorem d_Cu_readBracket_1 : decode b_Cu_readBracket 1 = .ok (.getfield 12, 3) := by decide +kernel
theorem d_Cu_readBracket_4 : decode b_Cu_readBracket 4 = .ok (.aload_n 0, 1) := by decide +kernel
theorem d_Cu_readBracket_5 : decode b_Cu_readBracket 5 = .ok (.getfield 32, 3) := by decide +kernel
theorem d_Cu_readBracket_8 : decode b_Cu_readBracket 8 = .ok (.iconst 1, 1) := by decide +kernel
theorem d_Cu_readBracket_9 : decode b_Cu_readBracket 9 = .ok (.iadd, 1) := by decide +kernel
theorem d_Cu_readBracket_10 : decode b_Cu_readBracket 10 = .ok (.invokevirtual 140, 3) := by decide +kernel
theorem d_Cu_readBracket_13 : decode b_Cu_readBracket 13 = .ok (.istore_n 1, 1) := by decide +kernel
theorem d_Cu_readBracket_14 : decode b_Cu_readBracket 14 = .ok (.aload_n 0, 1) := by decide +kernel
theorem d_Cu_readBracket_15 : decode b_Cu_readBracket 15 = .ok (.getfield 32, 3) := by decide +kernel
theorem d_Cu_readBracket_18 : decode b_Cu_readBracket 18 = .ok (.iconst 1, 1) := by decide +kernel
theorem d_Cu_readBracket_19 : decode b_Cu_readBracket 19 = .ok (.iadd, 1) := by decide +kernel
theorem d_Cu_readBracket_20 : decode b_Cu_readBracket 20 = .ok (.iload_n 1, 1) := by decide +kernel
theorem d_Cu_readBracket_21 : decode b_Cu_readBracket 21 = .ok (.iadd, 1) := by decide +kernel
theorem d_Cu_readBracket_22 : decode b_Cu_readBracket 22 = .ok (.istore_n 2, 1) := by decide +kernel
theorem d_Cu_readBracket_23 : decode b_Cu_readBracket 23 = .ok (.aload_n 0, 1) := by decide +kernel
theorem d_Cu_readBracket_24 : decode b_Cu_readBracket 24 = .ok (.getfield 12, 3) := by decide +kernel
theorem d_Cu_readBracket_27 : decode b_Cu_readBracket 27 = .ok (.iload_n 2, 1) := by decide +kernel
theorem d_Cu_readBracket_28 : decode b_Cu_readBracket 28 = .ok (.invokevirtual 63, 3) := by decide +kernel
theorem d_Cu_readBracket_31 : decode b_Cu_readBracket 31 = .ok (.bipush 91, 2) := by decide +kernel
theorem d_Cu_readBracket_33 : decode b_Cu_readBracket 33 = .ok (.if_icmp .ne 11, 3) := by decide +kernel
theorem d_Cu_readBracket_36 : decode b_Cu_readBracket 36 = .ok (.aload_n 0, 1) := by decide +kernel
theorem d_Cu_readBracket_37 : decode b_Cu_readBracket 37 = .ok (.iload_n 1, 1) := by decide +kernel
theorem d_Cu_readBracket_38 : decode b_Cu_readBracket 38 = .ok (.invokevirtual 210, 3) := by decide +kernel
theorem d_Cu_readBracket_41 : decode b_Cu_readBracket 41 = .ok (.goto 20, 3) := by decide +kernel
theorem d_Cu_readBracket_44 : decode b_Cu_readBracket 44 = .ok (.iload_n 1, 1) := by decide +kernel
theorem d_Cu_readBracket_45 : decode b_Cu_readBracket 45 = .ok (.ifCond .le 12, 3) := by decide +kernel
theorem d_Cu_readBracket_48 : decode b_Cu_readBracket 48 = .ok (.aload_n 0, 1) := by decide +kernel
theorem d_Cu_readBracket_49 : decode b_Cu_readBracket 49 = .ok (.iconst 5, 1) := by decide +kernel
theorem d_Cu_readBracket_50 : decode b_Cu_readBracket 50 = .ok (.iload_n 2, 1) := by decide +kernel
theorem d_Cu_readBracket_51 : decode b_Cu_readBracket 51 = .ok (.invokevirtual 93, 3) := by decide +kernel
theorem d_Cu_readBracket_54 : decode b_Cu_readBracket 54 = .ok (.goto 7, 3) := by decide +kernel
theorem d_Cu_readBracket_57 : decode b_Cu_readBracket 57 = .ok (.aload_n 0, 1) := by decide +kernel
theorem d_Cu_readBracket_58 : decode b_Cu_readBracket 58 = .ok (.invokevirtual 90, 3) := by decide +kernel
theorem d_Cu_readBracket_61 : decode b_Cu_readBracket 61 = .ok (.return_, 1) := by decide +kernel
theorem d_Cu_run_0 : decode b_Cu_run 0 = .ok (.aload_n 0, 1) := by decide +kernel
theorem d_Cu_run_1 : decode b_Cu_run 1 = .ok (.invokevirtual 57, 3) := by decide +kernel
theorem d_Cu_run_4 : decode b_Cu_run 4 = .ok (.iconst 0, 1) := by decide +kernel
theorem d_Cu_run_5 : decode b_Cu_run 5 = .ok (.istore_n 1, 1) := by decide +kernel
theorem d_Cu_run_6 : decode b_Cu_run 6 = .ok (.iload_n 1, 1) := by decide +kernel
theorem d_Cu_run_7 : decode b_Cu_run 7 = .ok (.aload_n 0, 1) := by decide +kernel
theorem d_Cu_run_8 : decode b_Cu_run 8 = .ok (.getfield 12, 3) := by decide +kernel
theorem d_Cu_run_11 : decode b_Cu_run 11 = .ok (.getfield 60, 3) := by decide +kernel
theorem d_Cu_run_14 : decode b_Cu_run 14 = .ok (.if_icmp .ge 185, 3) := by decide +kernel
theorem d_Cu_run_17 : decode b_Cu_run 17 = .ok (.aload_n 0, 1) := by decide +kernel
theorem d_Cu_run_18 : decode b_Cu_run 18 = .ok (.getfield 32, 3) := by decide +kernel
theorem d_Cu_run_21 : decode b_Cu_run 21 = .ok (.aload_n 0, 1) := by decide +kernel
theorem d_Cu_run_22 : decode b_Cu_run 22 = .ok (.getfield 12, 3) := by decide +kernel
theorem d_Cu_run_25 : decode b_Cu_run 25 = .ok (.getfield 60, 3) := by decide +kernel
theorem d_Cu_run_28 : decode b_Cu_run 28 = .ok (.if_icmp .ge 171, 3) := by decide +kernel
theorem d_Cu_run_31 : decode b_Cu_run 31 = .ok (.aload_n 0, 1) := by decide +kernel
theorem d_Cu_run_32 : decode b_Cu_run 32 = .ok (.getfield 36, 3) := by decide +kernel
theorem d_Cu_run_35 : decode b_Cu_run 35 = .ok (.ifCond .ne 164, 3) := by decide +kernel
theorem d_Cu_run_38 : decode b_Cu_run 38 = .ok (.aload_n 0, 1) := by decide +kernel
theorem d_Cu_run_39 : decode b_Cu_run 39 = .ok (.getfield 12, 3) := by decide +kernel
theorem d_Cu_run_42 : decode b_Cu_run 42 = .ok (.aload_n 0, 1) := by decide +kernel
theorem d_Cu_run_43 : decode b_Cu_run 43 = .ok (.getfield 32, 3) := by decide +kernel
theorem d_Cu_run_46 : decode b_Cu_run 46 = .ok (.invokevirtual 63, 3) := by decide +kernel
theorem d_Cu_run_49 : decode b_Cu_run 49 = .ok (.istore_n 2, 1) := by decide +kernel
theorem d_Cu_run_50 : decode b_Cu_run 50 = .ok (.iload_n 2, 1) := by decide +kernel
theorem d_Cu_run_51 : decode b_Cu_run 51 = .ok (.aload_n 0, 1) := by decide +kernel
theorem d_Cu_run_52 : decode b_Cu_run 52 = .ok (.getfield 12, 3) := by decide +kernel
theorem d_Cu_run_55 : decode b_Cu_run 55 = .ok (.aload_n 0, 1) := by decide +kernel
theorem d_Cu_run_56 : decode b_Cu_run 56 = .ok (.getfield 32, 3) := by decide +kernel
theorem d_Cu_run_59 : decode b_Cu_run 59 = .ok (.iconst 1, 1) := by decide +kernel
theorem d_Cu_run_60 : decode b_Cu_run 60 = .ok (.iadd, 1) := by decide +kernel
theorem d_Cu_run_61 : decode b_Cu_run 61 = .ok (.invokevirtual 63, 3) := by decide +kernel
theorem d_Cu_run_64 : decode b_Cu_run 64 = .ok (.invokestatic 67, 3) := by decide +kernel
theorem d_Cu_run_67 : decode b_Cu_run 67 = .ok (.istore_n 3, 1) := by decide +kernel
theorem d_Cu_run_68 : decode b_Cu_run 68 = .ok (.iload_n 3, 1) := by decide +kernel
theorem d_Cu_run_69 : decode b_Cu_run 69 = .ok (.iconst 3, 1) := by decide +kernel
theorem d_Cu_run_70 : decode b_Cu_run 70 = .ok (.if_icmp .lt 7, 3) := by decide +kernel
theorem d_Cu_run_73 : decode b_Cu_run 73 = .ok (.aload_n 0, 1) := by decide +kernel
theorem d_Cu_run_74 : decode b_Cu_run 74 = .ok (.invokevirtual 71, 3) := by decide +kernel
theorem d_Cu_run_77 : decode b_Cu_run 77 = .ok (.aload_n 0, 1) := by decide +kernel
theorem d_Cu_run_78 : decode b_Cu_run 78 = .ok (.getfield 36, 3) := by decide +kernel
theorem d_Cu_run_81 : decode b_Cu_run 81 = .ok (.ifCond .ne 112, 3) := by decide +kernel
theorem d_Cu_run_84 : decode b_Cu_run 84 = .ok (.iload_n 3, 1) := by decide +kernel
theorem d_Cu_run_85 : decode b_Cu_run 85 = .ok (.tableswitch 99 1 7 #[43, 56, 63, 70, 77, 85, 92], 43) := by decide +kernel
theorem d_Cu_run_128 : decode b_Cu_run 128 = .ok (.aload_n 0, 1) := by decide +kernel
theorem d_Cu_run_129 : decode b_Cu_run 129 = .ok (.dup, 1) := by decide +kernel
theorem d_Cu_run_130 : decode b_Cu_run 130 = .ok (.getfield 32, 3) := by decide +kernel
theorem d_Cu_run_133 : decode b_Cu_run 133 = .ok (.iconst 1, 1) := by decide +kernel
theorem d_Cu_run_134 : decode b_Cu_run 134 = .ok (.iadd, 1) := by decide +kernel
theorem d_Cu_run_135 : decode b_Cu_run 135 = .ok (.putfield 32, 3) := by decide +kernel
theorem d_Cu_run_138 : decode b_Cu_run 138 = .ok (.goto 55, 3) := by decide +kernel
theorem d_Cu_run_141 : decode b_Cu_run 141 = .ok (.aload_n 0, 1) := by decide +kernel
theorem d_Cu_run_142 : decode b_Cu_run 142 = .ok (.invokevirtual 74, 3) := by decide +kernel
theorem d_Cu_run_145 : decode b_Cu_run 145 = .ok (.goto 48, 3) := by decide +kernel
theorem d_Cu_run_148 : decode b_Cu_run 148 = .ok (.aload_n 0, 1) := by decide +kernel
theorem d_Cu_run_149 : decode b_Cu_run 149 = .ok (.invokevirtual 77, 3) := by decide +kernel
theorem d_Cu_run_152 : decode b_Cu_run 152 = .ok (.goto 41, 3) := by decide +kernel
theorem d_Cu_run_155 : decode b_Cu_run 155 = .ok (.aload_n 0, 1) := by decide +kernel
theorem d_Cu_run_156 : decode b_Cu_run 156 = .ok (.invokevirtual 80, 3) := by decide +kernel
theorem d_Cu_run_159 : decode b_Cu_run 159 = .ok (.goto 34, 3) := by decide +kernel
theorem d_Cu_run_162 : decode b_Cu_run 162 = .ok (.aload_n 0, 1) := by decide +kernel
theorem d_Cu_run_163 : decode b_Cu_run 163 = .ok (.iload_n 2, 1) := by decide +kernel
theorem d_Cu_run_164 : decode b_Cu_run 164 = .ok (.invokevirtual 83, 3) := by decide +kernel
theorem d_Cu_run_167 : decode b_Cu_run 167 = .ok (.goto 26, 3) := by decide +kernel
theorem d_Cu_run_170 : decode b_Cu_run 170 = .ok (.aload_n 0, 1) := by decide +kernel
theorem d_Cu_run_171 : decode b_Cu_run 171 = .ok (.invokevirtual 87, 3) := by decide +kernel
theorem d_Cu_run_174 : decode b_Cu_run 174 = .ok (.goto 19, 3) := by decide +kernel
theorem d_Cu_run_177 : decode b_Cu_run 177 = .ok (.aload_n 0, 1) := by decide +kernel
theorem d_Cu_run_178 : decode b_Cu_run 178 = .ok (.invokevirtual 90, 3) := by decide +kernel
theorem d_Cu_run_181 : decode b_Cu_run 181 = .ok (.goto 12, 3) := by decide +kernel
theorem d_Cu_run_184 : decode b_Cu_run 184 = .ok (.aload_n 0, 1) := by decide +kernel
theorem d_Cu_run_185 : decode b_Cu_run 185 = .ok (.iconst 1, 1) := by decide +kernel
theorem d_Cu_run_186 : decode b_Cu_run 186 = .ok (.aload_n 0, 1) := by decide +kernel
theorem d_Cu_run_187 : decode b_Cu_run 187 = .ok (.getfield 32, 3) := by decide +kernel
theorem d_Cu_run_190 : decode b_Cu_run 190 = .ok (.invokevirtual 93, 3) := by decide +kernel
theorem d_Cu_run_193 : decode b_Cu_run 193 = .ok (.iinc 1 1, 3) := by decide +kernel
theorem d_Cu_run_196 : decode b_Cu_run 196 = .ok (.goto (-190), 3) := by decide +kernel
theorem d_Cu_run_199 : decode b_Cu_run 199 = .ok (.aload_n 0, 1) := by decide +kernel
theorem d_Cu_run_200 : decode b_Cu_run 200 = .ok (.getfield 36, 3) := by decide +kernel
theorem d_Cu_run_203 : decode b_Cu_run 203 = .ok (.ifCond .ne 14, 3) := by decide +kernel
theorem d_Cu_run_206 : decode b_Cu_run 206 = .ok (.aload_n 0, 1) := by decide +kernel
theorem d_Cu_run_207 : decode b_Cu_run 207 = .ok (.aload_n 0, 1) := by decide +kernel
theorem d_Cu_run_208 : decode b_Cu_run 208 = .ok (.getfield 12, 3) := by decide +kernel
theorem d_Cu_run_211 : decode b_Cu_run 211 = .ok (.getfield 60, 3) := by decide +kernel
theorem d_Cu_run_214 : decode b_Cu_run 214 = .ok (.putfield 39, 3) := by decide +kernel
theorem d_Cu_run_217 : decode b_Cu_run 217 = .ok (.aload_n 0, 1) := by decide +kernel
theorem d_Cu_run_218 : decode b_Cu_run 218 = .ok (.aload_n 0, 1) := by decide +kernel
theorem d_Cu_run_219 : decode b_Cu_run 219 = .ok (.aload_n 0, 1) := by decide +kernel
theorem d_Cu_run_220 : decode b_Cu_run 220 = .ok (.getfield 39, 3) := by decide +kernel
theorem d_Cu_run_223 : decode b_Cu_run 223 = .ok (.invokevirtual 97, 3) := by decide +kernel
theorem d_Cu_run_226 : decode b_Cu_run 226 = .ok (.putfield 42, 3) := by decide +kernel
theorem d_Cu_run_229 : decode b_Cu_run 229 = .ok (.aload_n 0, 1) := by decide +kernel
theorem d_Cu_run_230 : decode b_Cu_run 230 = .ok (.getfield 36, 3) := by decide +kernel
theorem d_Cu_run_233 : decode b_Cu_run 233 = .ok (.ifCond .ne 13, 3) := by decide +kernel
theorem d_Cu_run_236 : decode b_Cu_run 236 = .ok (.aload_n 0, 1) := by decide +kernel
theorem d_Cu_run_237 : decode b_Cu_run 237 = .ok (.getfield 21, 3) := by decide +kernel
theorem d_Cu_run_240 : decode b_Cu_run 240 = .ok (.getfield 100, 3) := by decide +kernel
theorem d_Cu_run_243 : decode b_Cu_run 243 = .ok (.goto 8, 3) := by decide +kernel
theorem d_Cu_run_246 : decode b_Cu_run 246 = .ok (.aload_n 0, 1) := by decide +kernel
theorem d_Cu_run_247 : decode b_Cu_run 247 = .ok (.getfield 36, 3) := by decide +kernel
theorem d_Cu_run_250 : decode b_Cu_run 250 = .ok (.ineg, 1) := by decide +kernel
theorem d_Cu_run_251 : decode b_Cu_run 251 = .ok (.ireturn, 1) := by decide +kernel
