theorem d_Ch_init_0 : decode b_Ch_init 0 = .ok (.aload_n 0, 1) := by decide +kernel
theorem d_Ch_init_1 : decode b_Ch_init 1 = .ok (.invokespecial 1, 3) := by decide +kernel
theorem d_Ch_init_4 : decode b_Ch_init 4 = .ok (.aload_n 0, 1) := by decide +kernel
theorem d_Ch_init_5 : decode b_Ch_init 5 = .ok (.new 7, 3) := by decide +kernel
theorem d_Ch_init_8 : decode b_Ch_init 8 = .ok (.dup, 1) := by decide +kernel
theorem d_Ch_init_9 : decode b_Ch_init 9 = .ok (.invokespecial 9, 3) := by decide +kernel
theorem d_Ch_init_12 : decode b_Ch_init 12 = .ok (.putfield 10, 3) := by decide +kernel
theorem d_Ch_init_15 : decode b_Ch_init 15 = .ok (.aload_n 0, 1) := by decide +kernel
theorem d_Ch_init_16 : decode b_Ch_init 16 = .ok (.aload_n 0, 1) := by decide +kernel
theorem d_Ch_init_17 : decode b_Ch_init 17 = .ok (.getfield 10, 3) := by decide +kernel
theorem d_Ch_init_20 : decode b_Ch_init 20 = .ok (.getfield 16, 3) := by decide +kernel
theorem d_Ch_init_23 : decode b_Ch_init 23 = .ok (.putfield 20, 3) := by decide +kernel
theorem d_Ch_init_26 : decode b_Ch_init 26 = .ok (.aload_n 0, 1) := by decide +kernel
theorem d_Ch_init_27 : decode b_Ch_init 27 = .ok (.aload_n 0, 1) := by decide +kernel
theorem d_Ch_init_28 : decode b_Ch_init 28 = .ok (.getfield 10, 3) := by decide +kernel
theorem d_Ch_init_31 : decode b_Ch_init 31 = .ok (.getfield 21, 3) := by decide +kernel
theorem d_Ch_init_34 : decode b_Ch_init 34 = .ok (.putfield 25, 3) := by decide +kernel
theorem d_Ch_init_37 : decode b_Ch_init 37 = .ok (.aload_n 0, 1) := by decide +kernel
theorem d_Ch_init_38 : decode b_Ch_init 38 = .ok (.aload_n 0, 1) := by decide +kernel
theorem d_Ch_init_39 : decode b_Ch_init 39 = .ok (.getfield 10, 3) := by decide +kernel
theorem d_Ch_init_42 : decode b_Ch_init 42 = .ok (.getfield 26, 3) := by decide +kernel
theorem d_Ch_init_45 : decode b_Ch_init 45 = .ok (.putfield 30, 3) := by decide +kernel
theorem d_Ch_init_48 : decode b_Ch_init 48 = .ok (.return_, 1) := by decide +kernel
theorem d_Ch_type_0 : decode b_Ch_type 0 = .ok (.iload_n 3, 1) := by decide +kernel
theorem d_Ch_type_1 : decode b_Ch_type 1 = .ok (.iconst 1, 1) := by decide +kernel
theorem d_Ch_type_2 : decode b_Ch_type 2 = .ok (.if_icmp .lt 9, 3) := by decide +kernel
theorem d_Ch_type_5 : decode b_Ch_type 5 = .ok (.iload_n 3, 1) := by decide +kernel
theorem d_Ch_type_6 : decode b_Ch_type 6 = .ok (.bipush 8, 2) := by decide +kernel
theorem d_Ch_type_8 : decode b_Ch_type 8 = .ok (.if_icmp .le 5, 3) := by decide +kernel
theorem d_Ch_type_11 : decode b_Ch_type 11 = .ok (.iconst (-1), 1) := by decide +kernel
theorem d_Ch_type_12 : decode b_Ch_type 12 = .ok (.ireturn, 1) := by decide +kernel
theorem d_Ch_type_13 : decode b_Ch_type 13 = .ok (.aload_n 0, 1) := by decide +kernel
theorem d_Ch_type_14 : decode b_Ch_type 14 = .ok (.getfield 20, 3) := by decide +kernel
theorem d_Ch_type_17 : decode b_Ch_type 17 = .ok (.getfield 31, 3) := by decide +kernel
theorem d_Ch_type_20 : decode b_Ch_type 20 = .ok (.iload_n 3, 1) := by decide +kernel
theorem d_Ch_type_21 : decode b_Ch_type 21 = .ok (.iadd, 1) := by decide +kernel
theorem d_Ch_type_22 : decode b_Ch_type 22 = .ok (.ldc 37, 2) := by decide +kernel
theorem d_Ch_type_24 : decode b_Ch_type 24 = .ok (.if_icmp .le 6, 3) := by decide +kernel
theorem d_Ch_type_27 : decode b_Ch_type 27 = .ok (.bipush (-3), 2) := by decide +kernel
theorem d_Ch_type_29 : decode b_Ch_type 29 = .ok (.ireturn, 1) := by decide +kernel
theorem d_Ch_type_30 : decode b_Ch_type 30 = .ok (.iload_n 3, 1) := by decide +kernel
theorem d_Ch_type_31 : decode b_Ch_type 31 = .ok (.iconst 1, 1) := by decide +kernel
theorem d_Ch_type_32 : decode b_Ch_type 32 = .ok (.isub, 1) := by decide +kernel
theorem d_Ch_type_33 : decode b_Ch_type 33 = .ok (.istore 4, 2) := by decide +kernel
theorem d_Ch_type_35 : decode b_Ch_type 35 = .ok (.iload 4, 2) := by decide +kernel
theorem d_Ch_type_37 : decode b_Ch_type 37 = .ok (.ifCond .lt 28, 3) := by decide +kernel
theorem d_Ch_type_40 : decode b_Ch_type 40 = .ok (.aload_n 0, 1) := by decide +kernel
theorem d_Ch_type_41 : decode b_Ch_type 41 = .ok (.getfield 20, 3) := by decide +kernel
theorem d_Ch_type_44 : decode b_Ch_type 44 = .ok (.lload_n 1, 1) := by decide +kernel
theorem d_Ch_type_45 : decode b_Ch_type 45 = .ok (.bipush 8, 2) := by decide +kernel
theorem d_Ch_type_47 : decode b_Ch_type 47 = .ok (.iload 4, 2) := by decide +kernel
theorem d_Ch_type_49 : decode b_Ch_type 49 = .ok (.imul, 1) := by decide +kernel
theorem d_Ch_type_50 : decode b_Ch_type 50 = .ok (.lushr, 1) := by decide +kernel
theorem d_Ch_type_51 : decode b_Ch_type 51 = .ok (.l2i, 1) := by decide +kernel
theorem d_Ch_type_52 : decode b_Ch_type 52 = .ok (.sipush 255, 3) := by decide +kernel
theorem d_Ch_type_55 : decode b_Ch_type 55 = .ok (.iand, 1) := by decide +kernel
theorem d_Ch_type_56 : decode b_Ch_type 56 = .ok (.invokevirtual 38, 3) := by decide +kernel
theorem d_Ch_type_59 : decode b_Ch_type 59 = .ok (.iinc 4 (-1), 3) := by decide +kernel
theorem d_Ch_type_62 : decode b_Ch_type 62 = .ok (.goto (-27), 3) := by decide +kernel
theorem d_Ch_type_65 : decode b_Ch_type 65 = .ok (.aload_n 0, 1) := by decide +kernel
theorem d_Ch_type_66 : decode b_Ch_type 66 = .ok (.getfield 20, 3) := by decide +kernel
theorem d_Ch_type_69 : decode b_Ch_type 69 = .ok (.getfield 31, 3) := by decide +kernel
theorem d_Ch_type_72 : decode b_Ch_type 72 = .ok (.ireturn, 1) := by decide +kernel
theorem d_Ch_cut_0 : decode b_Ch_cut 0 = .ok (.aload_n 0, 1) := by decide +kernel
theorem d_Ch_cut_1 : decode b_Ch_cut 1 = .ok (.getfield 10, 3) := by decide +kernel
theorem d_Ch_cut_4 : decode b_Ch_cut 4 = .ok (.invokevirtual 42, 3) := by decide +kernel
theorem d_Ch_cut_7 : decode b_Ch_cut 7 = .ok (.istore_n 1, 1) := by decide +kernel
theorem d_Ch_cut_8 : decode b_Ch_cut 8 = .ok (.aload_n 0, 1) := by decide +kernel
theorem d_Ch_cut_9 : decode b_Ch_cut 9 = .ok (.getfield 20, 3) := by decide +kernel
theorem d_Ch_cut_12 : decode b_Ch_cut 12 = .ok (.iconst 0, 1) := by decide +kernel
theorem d_Ch_cut_13 : decode b_Ch_cut 13 = .ok (.putfield 31, 3) := by decide +kernel
theorem d_Ch_cut_16 : decode b_Ch_cut 16 = .ok (.iload_n 1, 1) := by decide +kernel
theorem d_Ch_cut_17 : decode b_Ch_cut 17 = .ok (.ireturn, 1) := by decide +kernel
theorem d_Ch_place_0 : decode b_Ch_place 0 = .ok (.aload_n 0, 1) := by decide +kernel
theorem d_Ch_place_1 : decode b_Ch_place 1 = .ok (.getfield 10, 3) := by decide +kernel
theorem d_Ch_place_4 : decode b_Ch_place 4 = .ok (.getfield 46, 3) := by decide +kernel
theorem d_Ch_place_7 : decode b_Ch_place 7 = .ok (.ireturn, 1) := by decide +kernel
theorem d_Ch_wrongLine_0 : decode b_Ch_wrongLine 0 = .ok (.aload_n 0, 1) := by decide +kernel
theorem d_Ch_wrongLine_1 : decode b_Ch_wrongLine 1 = .ok (.getfield 10, 3) := by decide +kernel
theorem d_Ch_wrongLine_4 : decode b_Ch_wrongLine 4 = .ok (.getfield 49, 3) := by decide +kernel
theorem d_Ch_wrongLine_7 : decode b_Ch_wrongLine 7 = .ok (.ireturn, 1) := by decide +kernel
theorem d_Ch_words_0 : decode b_Ch_words 0 = .ok (.aload_n 0, 1) := by decide +kernel
theorem d_Ch_words_1 : decode b_Ch_words 1 = .ok (.getfield 25, 3) := by decide +kernel
theorem d_Ch_words_4 : decode b_Ch_words 4 = .ok (.getfield 52, 3) := by decide +kernel
theorem d_Ch_words_7 : decode b_Ch_words 7 = .ok (.ireturn, 1) := by decide +kernel
theorem d_Ch_kind_0 : decode b_Ch_kind 0 = .ok (.aload_n 0, 1) := by decide +kernel
theorem d_Ch_kind_1 : decode b_Ch_kind 1 = .ok (.getfield 25, 3) := by decide +kernel
theorem d_Ch_kind_4 : decode b_Ch_kind 4 = .ok (.iload_n 1, 1) := by decide +kernel
theorem d_Ch_kind_5 : decode b_Ch_kind 5 = .ok (.invokevirtual 55, 3) := by decide +kernel
theorem d_Ch_kind_8 : decode b_Ch_kind 8 = .ok (.ifCond .eq 15, 3) := by decide +kernel
theorem d_Ch_kind_11 : decode b_Ch_kind 11 = .ok (.aload_n 0, 1) := by decide +kernel
theorem d_Ch_kind_12 : decode b_Ch_kind 12 = .ok (.getfield 25, 3) := by decide +kernel
theorem d_Ch_kind_15 : decode b_Ch_kind 15 = .ok (.getfield 59, 3) := by decide +kernel
theorem d_Ch_kind_18 : decode b_Ch_kind 18 = .ok (.iload_n 1, 1) := by decide +kernel
theorem d_Ch_kind_19 : decode b_Ch_kind 19 = .ok (.iaload, 1) := by decide +kernel
theorem d_Ch_kind_20 : decode b_Ch_kind 20 = .ok (.goto 4, 3) := by decide +kernel
theorem d_Ch_kind_23 : decode b_Ch_kind 23 = .ok (.iconst (-1), 1) := by decide +kernel
theorem d_Ch_kind_24 : decode b_Ch_kind 24 = .ok (.ireturn, 1) := by decide +kernel
theorem d_Ch_line_0 : decode b_Ch_line 0 = .ok (.aload_n 0, 1) := by decide +kernel
theorem d_Ch_line_1 : decode b_Ch_line 1 = .ok (.getfield 25, 3) := by decide +kernel
theorem d_Ch_line_4 : decode b_Ch_line 4 = .ok (.iload_n 1, 1) := by decide +kernel
theorem d_Ch_line_5 : decode b_Ch_line 5 = .ok (.invokevirtual 55, 3) := by decide +kernel
theorem d_Ch_line_8 : decode b_Ch_line 8 = .ok (.ifCond .eq 15, 3) := by decide +kernel
theorem d_Ch_line_11 : decode b_Ch_line 11 = .ok (.aload_n 0, 1) := by decide +kernel
theorem d_Ch_line_12 : decode b_Ch_line 12 = .ok (.getfield 25, 3) := by decide +kernel
theorem d_Ch_line_15 : decode b_Ch_line 15 = .ok (.getfield 63, 3) := by decide +kernel
theorem d_Ch_line_18 : decode b_Ch_line 18 = .ok (.iload_n 1, 1) := by decide +kernel
theorem d_Ch_line_19 : decode b_Ch_line 19 = .ok (.iaload, 1) := by decide +kernel
theorem d_Ch_line_20 : decode b_Ch_line 20 = .ok (.goto 4, 3) := by decide +kernel
theorem d_Ch_line_23 : decode b_Ch_line 23 = .ok (.iconst (-1), 1) := by decide +kernel
theorem d_Ch_line_24 : decode b_Ch_line 24 = .ok (.ireturn, 1) := by decide +kernel
theorem d_Ch_begin_0 : decode b_Ch_begin 0 = .ok (.aload_n 0, 1) := by decide +kernel
theorem d_Ch_begin_1 : decode b_Ch_begin 1 = .ok (.getfield 25, 3) := by decide +kernel
theorem d_Ch_begin_4 : decode b_Ch_begin 4 = .ok (.iload_n 1, 1) := by decide +kernel
theorem d_Ch_begin_5 : decode b_Ch_begin 5 = .ok (.invokevirtual 55, 3) := by decide +kernel
theorem d_Ch_begin_8 : decode b_Ch_begin 8 = .ok (.ifCond .eq 15, 3) := by decide +kernel
theorem d_Ch_begin_11 : decode b_Ch_begin 11 = .ok (.aload_n 0, 1) := by decide +kernel
theorem d_Ch_begin_12 : decode b_Ch_begin 12 = .ok (.getfield 25, 3) := by decide +kernel
theorem d_Ch_begin_15 : decode b_Ch_begin 15 = .ok (.getfield 66, 3) := by decide +kernel
theorem d_Ch_begin_18 : decode b_Ch_begin 18 = .ok (.iload_n 1, 1) := by decide +kernel
theorem d_Ch_begin_19 : decode b_Ch_begin 19 = .ok (.iaload, 1) := by decide +kernel
theorem d_Ch_begin_20 : decode b_Ch_begin 20 = .ok (.goto 4, 3) := by decide +kernel
theorem d_Ch_begin_23 : decode b_Ch_begin 23 = .ok (.iconst (-1), 1) := by decide +kernel
theorem d_Ch_begin_24 : decode b_Ch_begin 24 = .ok (.ireturn, 1) := by decide +kernel
theorem d_Ch_length_0 : decode b_Ch_length 0 = .ok (.aload_n 0, 1) := by decide +kernel
theorem d_Ch_length_1 : decode b_Ch_length 1 = .ok (.getfield 25, 3) := by decide +kernel
theorem d_Ch_length_4 : decode b_Ch_length 4 = .ok (.iload_n 1, 1) := by decide +kernel
theorem d_Ch_length_5 : decode b_Ch_length 5 = .ok (.invokevirtual 55, 3) := by decide +kernel
theorem d_Ch_length_8 : decode b_Ch_length 8 = .ok (.ifCond .eq 15, 3) := by decide +kernel
theorem d_Ch_length_11 : decode b_Ch_length 11 = .ok (.aload_n 0, 1) := by decide +kernel
theorem d_Ch_length_12 : decode b_Ch_length 12 = .ok (.getfield 25, 3) := by decide +kernel
theorem d_Ch_length_15 : decode b_Ch_length 15 = .ok (.getfield 69, 3) := by decide +kernel
theorem d_Ch_length_18 : decode b_Ch_length 18 = .ok (.iload_n 1, 1) := by decide +kernel
theorem d_Ch_length_19 : decode b_Ch_length 19 = .ok (.iaload, 1) := by decide +kernel
theorem d_Ch_length_20 : decode b_Ch_length 20 = .ok (.goto 4, 3) := by decide +kernel
theorem d_Ch_length_23 : decode b_Ch_length 23 = .ok (.iconst (-1), 1) := by decide +kernel
theorem d_Ch_length_24 : decode b_Ch_length 24 = .ok (.ireturn, 1) := by decide +kernel
theorem d_Ch_text_0 : decode b_Ch_text 0 = .ok (.aload_n 0, 1) := by decide +kernel
theorem d_Ch_text_1 : decode b_Ch_text 1 = .ok (.getfield 25, 3) := by decide +kernel
theorem d_Ch_text_4 : decode b_Ch_text 4 = .ok (.iload_n 1, 1) := by decide +kernel
theorem d_Ch_text_5 : decode b_Ch_text 5 = .ok (.invokevirtual 55, 3) := by decide +kernel
theorem d_Ch_text_8 : decode b_Ch_text 8 = .ok (.ifCond .eq 15, 3) := by decide +kernel
theorem d_Ch_text_11 : decode b_Ch_text 11 = .ok (.aload_n 0, 1) := by decide +kernel
theorem d_Ch_text_12 : decode b_Ch_text 12 = .ok (.getfield 25, 3) := by decide +kernel
theorem d_Ch_text_15 : decode b_Ch_text 15 = .ok (.getfield 72, 3) := by decide +kernel
theorem d_Ch_text_18 : decode b_Ch_text 18 = .ok (.iload_n 1, 1) := by decide +kernel
theorem d_Ch_text_19 : decode b_Ch_text 19 = .ok (.iaload, 1) := by decide +kernel
theorem d_Ch_text_20 : decode b_Ch_text 20 = .ok (.goto 4, 3) := by decide +kernel
theorem d_Ch_text_23 : decode b_Ch_text 23 = .ok (.iconst (-1), 1) := by decide +kernel
theorem d_Ch_text_24 : decode b_Ch_text 24 = .ok (.ireturn, 1) := by decide +kernel
theorem d_Ch_texts_0 : decode b_Ch_texts 0 = .ok (.aload_n 0, 1) := by decide +kernel
theorem d_Ch_texts_1 : decode b_Ch_texts 1 = .ok (.getfield 30, 3) := by decide +kernel
theorem d_Ch_texts_4 : decode b_Ch_texts 4 = .ok (.getfield 75, 3) := by decide +kernel
theorem d_Ch_texts_7 : decode b_Ch_texts 7 = .ok (.ireturn, 1) := by decide +kernel
theorem d_Ch_size_0 : decode b_Ch_size 0 = .ok (.aload_n 0, 1) := by decide +kernel
theorem d_Ch_size_1 : decode b_Ch_size 1 = .ok (.getfield 30, 3) := by decide +kernel
theorem d_Ch_size_4 : decode b_Ch_size 4 = .ok (.iload_n 1, 1) := by decide +kernel
theorem d_Ch_size_5 : decode b_Ch_size 5 = .ok (.invokevirtual 78, 3) := by decide +kernel
theorem d_Ch_size_8 : decode b_Ch_size 8 = .ok (.ifCond .eq 15, 3) := by decide +kernel
theorem d_Ch_size_11 : decode b_Ch_size 11 = .ok (.aload_n 0, 1) := by decide +kernel
theorem d_Ch_size_12 : decode b_Ch_size 12 = .ok (.getfield 30, 3) := by decide +kernel
theorem d_Ch_size_15 : decode b_Ch_size 15 = .ok (.getfield 79, 3) := by decide +kernel
theorem d_Ch_size_18 : decode b_Ch_size 18 = .ok (.iload_n 1, 1) := by decide +kernel
theorem d_Ch_size_19 : decode b_Ch_size 19 = .ok (.iaload, 1) := by decide +kernel
theorem d_Ch_size_20 : decode b_Ch_size 20 = .ok (.goto 4, 3) := by decide +kernel
theorem d_Ch_size_23 : decode b_Ch_size 23 = .ok (.iconst (-1), 1) := by decide +kernel
theorem d_Ch_size_24 : decode b_Ch_size 24 = .ok (.ireturn, 1) := by decide +kernel
theorem d_Ch_at_0 : decode b_Ch_at 0 = .ok (.aload_n 0, 1) := by decide +kernel
theorem d_Ch_at_1 : decode b_Ch_at 1 = .ok (.getfield 30, 3) := by decide +kernel
theorem d_Ch_at_4 : decode b_Ch_at 4 = .ok (.iload_n 1, 1) := by decide +kernel
theorem d_Ch_at_5 : decode b_Ch_at 5 = .ok (.invokevirtual 78, 3) := by decide +kernel
theorem d_Ch_at_8 : decode b_Ch_at 8 = .ok (.ifCond .eq 15, 3) := by decide +kernel
theorem d_Ch_at_11 : decode b_Ch_at 11 = .ok (.aload_n 0, 1) := by decide +kernel
theorem d_Ch_at_12 : decode b_Ch_at 12 = .ok (.getfield 30, 3) := by decide +kernel
theorem d_Ch_at_15 : decode b_Ch_at 15 = .ok (.iload_n 1, 1) := by decide +kernel
theorem d_Ch_at_16 : decode b_Ch_at 16 = .ok (.iload_n 2, 1) := by decide +kernel
theorem d_Ch_at_17 : decode b_Ch_at 17 = .ok (.invokevirtual 82, 3) := by decide +kernel
theorem d_Ch_at_20 : decode b_Ch_at 20 = .ok (.goto 4, 3) := by decide +kernel
theorem d_Ch_at_23 : decode b_Ch_at 23 = .ok (.iconst (-1), 1) := by decide +kernel
theorem d_Ch_at_24 : decode b_Ch_at 24 = .ok (.ireturn, 1) := by decide +kernel
theorem d_Ch_find_0 : decode b_Ch_find 0 = .ok (.aload_n 0, 1) := by decide +kernel
theorem d_Ch_find_1 : decode b_Ch_find 1 = .ok (.getfield 30, 3) := by decide +kernel
theorem d_Ch_find_4 : decode b_Ch_find 4 = .ok (.aload_n 0, 1) := by decide +kernel
theorem d_Ch_find_5 : decode b_Ch_find 5 = .ok (.getfield 20, 3) := by decide +kernel
theorem d_Ch_find_8 : decode b_Ch_find 8 = .ok (.getfield 86, 3) := by decide +kernel
theorem d_Ch_find_11 : decode b_Ch_find 11 = .ok (.aload_n 0, 1) := by decide +kernel
theorem d_Ch_find_12 : decode b_Ch_find 12 = .ok (.getfield 20, 3) := by decide +kernel
theorem d_Ch_find_15 : decode b_Ch_find 15 = .ok (.getfield 31, 3) := by decide +kernel
theorem d_Ch_find_18 : decode b_Ch_find 18 = .ok (.invokevirtual 90, 3) := by decide +kernel
theorem d_Ch_find_21 : decode b_Ch_find 21 = .ok (.ireturn, 1) := by decide +kernel
