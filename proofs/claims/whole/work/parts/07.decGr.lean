theorem d_Gr_wider_0 : decode b_Gr_wider 0 = .ok (.iload_n 1, 1) := by decide +kernel
theorem d_Gr_wider_1 : decode b_Gr_wider 1 = .ok (.iconst 2, 1) := by decide +kernel
theorem d_Gr_wider_2 : decode b_Gr_wider 2 = .ok (.iload_n 0, 1) := by decide +kernel
theorem d_Gr_wider_3 : decode b_Gr_wider 3 = .ok (.imul, 1) := by decide +kernel
theorem d_Gr_wider_4 : decode b_Gr_wider 4 = .ok (.iload_n 2, 1) := by decide +kernel
theorem d_Gr_wider_5 : decode b_Gr_wider 5 = .ok (.invokestatic 22, 3) := by decide +kernel
theorem d_Gr_wider_8 : decode b_Gr_wider 8 = .ok (.invokestatic 28, 3) := by decide +kernel
theorem d_Gr_wider_11 : decode b_Gr_wider 11 = .ok (.ireturn, 1) := by decide +kernel
theorem d_Ar_copyB_0 : decode b_Ar_copyB 0 = .ok (.iload_n 1, 1) := by decide +kernel
theorem d_Ar_copyB_1 : decode b_Ar_copyB 1 = .ok (.aload_n 0, 1) := by decide +kernel
theorem d_Ar_copyB_2 : decode b_Ar_copyB 2 = .ok (.arraylength, 1) := by decide +kernel
theorem d_Ar_copyB_3 : decode b_Ar_copyB 3 = .ok (.if_icmp .ne 11, 3) := by decide +kernel
theorem d_Ar_copyB_6 : decode b_Ar_copyB 6 = .ok (.aload_n 0, 1) := by decide +kernel
theorem d_Ar_copyB_7 : decode b_Ar_copyB 7 = .ok (.invokevirtual 310, 3) := by decide +kernel
theorem d_Ar_copyB_10 : decode b_Ar_copyB 10 = .ok (.checkcast 311, 3) := by decide +kernel
theorem d_Ar_copyB_13 : decode b_Ar_copyB 13 = .ok (.areturn, 1) := by decide +kernel
theorem d_Ar_copyB_14 : decode b_Ar_copyB 14 = .ok (.iload_n 1, 1) := by decide +kernel
theorem d_Ar_copyB_15 : decode b_Ar_copyB 15 = .ok (.newarray .byte, 2) := by decide +kernel
theorem d_Ar_copyB_17 : decode b_Ar_copyB 17 = .ok (.astore_n 2, 1) := by decide +kernel
theorem d_Ar_copyB_18 : decode b_Ar_copyB 18 = .ok (.aload_n 0, 1) := by decide +kernel
theorem d_Ar_copyB_19 : decode b_Ar_copyB 19 = .ok (.iconst 0, 1) := by decide +kernel
theorem d_Ar_copyB_20 : decode b_Ar_copyB 20 = .ok (.aload_n 2, 1) := by decide +kernel
theorem d_Ar_copyB_21 : decode b_Ar_copyB 21 = .ok (.iconst 0, 1) := by decide +kernel
theorem d_Ar_copyB_22 : decode b_Ar_copyB 22 = .ok (.aload_n 0, 1) := by decide +kernel
theorem d_Ar_copyB_23 : decode b_Ar_copyB 23 = .ok (.arraylength, 1) := by decide +kernel
theorem d_Ar_copyB_24 : decode b_Ar_copyB 24 = .ok (.iload_n 1, 1) := by decide +kernel
theorem d_Ar_copyB_25 : decode b_Ar_copyB 25 = .ok (.invokestatic 304, 3) := by decide +kernel
theorem d_Ar_copyB_28 : decode b_Ar_copyB 28 = .ok (.invokestatic 150, 3) := by decide +kernel
theorem d_Ar_copyB_31 : decode b_Ar_copyB 31 = .ok (.aload_n 2, 1) := by decide +kernel
theorem d_Ar_copyB_32 : decode b_Ar_copyB 32 = .ok (.areturn, 1) := by decide +kernel
theorem d_Gr_bytes_0 : decode b_Gr_bytes 0 = .ok (.iload_n 1, 1) := by decide +kernel
theorem d_Gr_bytes_1 : decode b_Gr_bytes 1 = .ok (.aload_n 0, 1) := by decide +kernel
theorem d_Gr_bytes_2 : decode b_Gr_bytes 2 = .ok (.arraylength, 1) := by decide +kernel
theorem d_Gr_bytes_3 : decode b_Gr_bytes 3 = .ok (.if_icmp .gt 7, 3) := by decide +kernel
theorem d_Gr_bytes_6 : decode b_Gr_bytes 6 = .ok (.aload_n 0, 1) := by decide +kernel
theorem d_Gr_bytes_7 : decode b_Gr_bytes 7 = .ok (.goto 14, 3) := by decide +kernel
theorem d_Gr_bytes_10 : decode b_Gr_bytes 10 = .ok (.aload_n 0, 1) := by decide +kernel
theorem d_Gr_bytes_11 : decode b_Gr_bytes 11 = .ok (.aload_n 0, 1) := by decide +kernel
theorem d_Gr_bytes_12 : decode b_Gr_bytes 12 = .ok (.arraylength, 1) := by decide +kernel
theorem d_Gr_bytes_13 : decode b_Gr_bytes 13 = .ok (.iload_n 1, 1) := by decide +kernel
theorem d_Gr_bytes_14 : decode b_Gr_bytes 14 = .ok (.iload_n 2, 1) := by decide +kernel
theorem d_Gr_bytes_15 : decode b_Gr_bytes 15 = .ok (.invokestatic 7, 3) := by decide +kernel
theorem d_Gr_bytes_18 : decode b_Gr_bytes 18 = .ok (.invokestatic 19, 3) := by decide +kernel
theorem d_Gr_bytes_21 : decode b_Gr_bytes 21 = .ok (.areturn, 1) := by decide +kernel
theorem d_Ar_fill_0 : decode b_Ar_fill 0 = .ok (.iconst 0, 1) := by decide +kernel
theorem d_Ar_fill_1 : decode b_Ar_fill 1 = .ok (.istore_n 2, 1) := by decide +kernel
theorem d_Ar_fill_2 : decode b_Ar_fill 2 = .ok (.aload_n 0, 1) := by decide +kernel
theorem d_Ar_fill_3 : decode b_Ar_fill 3 = .ok (.arraylength, 1) := by decide +kernel
theorem d_Ar_fill_4 : decode b_Ar_fill 4 = .ok (.istore_n 3, 1) := by decide +kernel
theorem d_Ar_fill_5 : decode b_Ar_fill 5 = .ok (.iload_n 2, 1) := by decide +kernel
theorem d_Ar_fill_6 : decode b_Ar_fill 6 = .ok (.iload_n 3, 1) := by decide +kernel
theorem d_Ar_fill_7 : decode b_Ar_fill 7 = .ok (.if_icmp .ge 13, 3) := by decide +kernel
theorem d_Ar_fill_10 : decode b_Ar_fill 10 = .ok (.aload_n 0, 1) := by decide +kernel
theorem d_Ar_fill_11 : decode b_Ar_fill 11 = .ok (.iload_n 2, 1) := by decide +kernel
theorem d_Ar_fill_12 : decode b_Ar_fill 12 = .ok (.iload_n 1, 1) := by decide +kernel
theorem d_Ar_fill_13 : decode b_Ar_fill 13 = .ok (.iastore, 1) := by decide +kernel
theorem d_Ar_fill_14 : decode b_Ar_fill 14 = .ok (.iinc 2 1, 3) := by decide +kernel
theorem d_Ar_fill_17 : decode b_Ar_fill 17 = .ok (.goto (-12), 3) := by decide +kernel
theorem d_Ar_fill_20 : decode b_Ar_fill 20 = .ok (.return_, 1) := by decide +kernel
theorem d_Ar_copyI_0 : decode b_Ar_copyI 0 = .ok (.iload_n 1, 1) := by decide +kernel
theorem d_Ar_copyI_1 : decode b_Ar_copyI 1 = .ok (.aload_n 0, 1) := by decide +kernel
theorem d_Ar_copyI_2 : decode b_Ar_copyI 2 = .ok (.arraylength, 1) := by decide +kernel
theorem d_Ar_copyI_3 : decode b_Ar_copyI 3 = .ok (.if_icmp .ne 11, 3) := by decide +kernel
theorem d_Ar_copyI_6 : decode b_Ar_copyI 6 = .ok (.aload_n 0, 1) := by decide +kernel
theorem d_Ar_copyI_7 : decode b_Ar_copyI 7 = .ok (.invokevirtual 316, 3) := by decide +kernel
theorem d_Ar_copyI_10 : decode b_Ar_copyI 10 = .ok (.checkcast 317, 3) := by decide +kernel
theorem d_Ar_copyI_13 : decode b_Ar_copyI 13 = .ok (.areturn, 1) := by decide +kernel
theorem d_Ar_copyI_14 : decode b_Ar_copyI 14 = .ok (.iload_n 1, 1) := by decide +kernel
theorem d_Ar_copyI_15 : decode b_Ar_copyI 15 = .ok (.newarray .int, 2) := by decide +kernel
theorem d_Ar_copyI_17 : decode b_Ar_copyI 17 = .ok (.astore_n 2, 1) := by decide +kernel
theorem d_Ar_copyI_18 : decode b_Ar_copyI 18 = .ok (.aload_n 0, 1) := by decide +kernel
theorem d_Ar_copyI_19 : decode b_Ar_copyI 19 = .ok (.iconst 0, 1) := by decide +kernel
theorem d_Ar_copyI_20 : decode b_Ar_copyI 20 = .ok (.aload_n 2, 1) := by decide +kernel
theorem d_Ar_copyI_21 : decode b_Ar_copyI 21 = .ok (.iconst 0, 1) := by decide +kernel
theorem d_Ar_copyI_22 : decode b_Ar_copyI 22 = .ok (.aload_n 0, 1) := by decide +kernel
theorem d_Ar_copyI_23 : decode b_Ar_copyI 23 = .ok (.arraylength, 1) := by decide +kernel
theorem d_Ar_copyI_24 : decode b_Ar_copyI 24 = .ok (.iload_n 1, 1) := by decide +kernel
theorem d_Ar_copyI_25 : decode b_Ar_copyI 25 = .ok (.invokestatic 304, 3) := by decide +kernel
theorem d_Ar_copyI_28 : decode b_Ar_copyI 28 = .ok (.invokestatic 150, 3) := by decide +kernel
theorem d_Ar_copyI_31 : decode b_Ar_copyI 31 = .ok (.aload_n 2, 1) := by decide +kernel
theorem d_Ar_copyI_32 : decode b_Ar_copyI 32 = .ok (.areturn, 1) := by decide +kernel
theorem d_Gr_ints_0 : decode b_Gr_ints 0 = .ok (.iload_n 1, 1) := by decide +kernel
theorem d_Gr_ints_1 : decode b_Gr_ints 1 = .ok (.aload_n 0, 1) := by decide +kernel
theorem d_Gr_ints_2 : decode b_Gr_ints 2 = .ok (.arraylength, 1) := by decide +kernel
theorem d_Gr_ints_3 : decode b_Gr_ints 3 = .ok (.if_icmp .gt 7, 3) := by decide +kernel
theorem d_Gr_ints_6 : decode b_Gr_ints 6 = .ok (.aload_n 0, 1) := by decide +kernel
theorem d_Gr_ints_7 : decode b_Gr_ints 7 = .ok (.goto 14, 3) := by decide +kernel
theorem d_Gr_ints_10 : decode b_Gr_ints 10 = .ok (.aload_n 0, 1) := by decide +kernel
theorem d_Gr_ints_11 : decode b_Gr_ints 11 = .ok (.aload_n 0, 1) := by decide +kernel
theorem d_Gr_ints_12 : decode b_Gr_ints 12 = .ok (.arraylength, 1) := by decide +kernel
theorem d_Gr_ints_13 : decode b_Gr_ints 13 = .ok (.iload_n 1, 1) := by decide +kernel
theorem d_Gr_ints_14 : decode b_Gr_ints 14 = .ok (.iload_n 2, 1) := by decide +kernel
theorem d_Gr_ints_15 : decode b_Gr_ints 15 = .ok (.invokestatic 7, 3) := by decide +kernel
theorem d_Gr_ints_18 : decode b_Gr_ints 18 = .ok (.invokestatic 13, 3) := by decide +kernel
theorem d_Gr_ints_21 : decode b_Gr_ints 21 = .ok (.areturn, 1) := by decide +kernel
