theorem d_Sg_isBlank_0 : decode b_Sg_isBlank 0 = .ok (.iload_n 0, 1) := by decide +kernel
theorem d_Sg_isBlank_1 : decode b_Sg_isBlank 1 = .ok (.bipush 32, 2) := by decide +kernel
theorem d_Sg_isBlank_3 : decode b_Sg_isBlank 3 = .ok (.if_icmp .eq 15, 3) := by decide +kernel
theorem d_Sg_isBlank_6 : decode b_Sg_isBlank 6 = .ok (.iload_n 0, 1) := by decide +kernel
theorem d_Sg_isBlank_7 : decode b_Sg_isBlank 7 = .ok (.bipush 9, 2) := by decide +kernel
theorem d_Sg_isBlank_9 : decode b_Sg_isBlank 9 = .ok (.if_icmp .lt 13, 3) := by decide +kernel
theorem d_Sg_isBlank_12 : decode b_Sg_isBlank 12 = .ok (.iload_n 0, 1) := by decide +kernel
theorem d_Sg_isBlank_13 : decode b_Sg_isBlank 13 = .ok (.bipush 13, 2) := by decide +kernel
theorem d_Sg_isBlank_15 : decode b_Sg_isBlank 15 = .ok (.if_icmp .gt 7, 3) := by decide +kernel
theorem d_Sg_isBlank_18 : decode b_Sg_isBlank 18 = .ok (.iconst 1, 1) := by decide +kernel
theorem d_Sg_isBlank_19 : decode b_Sg_isBlank 19 = .ok (.goto 4, 3) := by decide +kernel
theorem d_Sg_isBlank_22 : decode b_Sg_isBlank 22 = .ok (.iconst 0, 1) := by decide +kernel
theorem d_Sg_isBlank_23 : decode b_Sg_isBlank 23 = .ok (.ireturn, 1) := by decide +kernel
theorem d_Sg_isLetter_0 : decode b_Sg_isLetter 0 = .ok (.iload_n 0, 1) := by decide +kernel
theorem d_Sg_isLetter_1 : decode b_Sg_isLetter 1 = .ok (.bipush 97, 2) := by decide +kernel
theorem d_Sg_isLetter_3 : decode b_Sg_isLetter 3 = .ok (.if_icmp .lt 9, 3) := by decide +kernel
theorem d_Sg_isLetter_6 : decode b_Sg_isLetter 6 = .ok (.iload_n 0, 1) := by decide +kernel
theorem d_Sg_isLetter_7 : decode b_Sg_isLetter 7 = .ok (.bipush 122, 2) := by decide +kernel
theorem d_Sg_isLetter_9 : decode b_Sg_isLetter 9 = .ok (.if_icmp .le 21, 3) := by decide +kernel
theorem d_Sg_isLetter_12 : decode b_Sg_isLetter 12 = .ok (.iload_n 0, 1) := by decide +kernel
theorem d_Sg_isLetter_13 : decode b_Sg_isLetter 13 = .ok (.bipush 65, 2) := by decide +kernel
theorem d_Sg_isLetter_15 : decode b_Sg_isLetter 15 = .ok (.if_icmp .lt 9, 3) := by decide +kernel
theorem d_Sg_isLetter_18 : decode b_Sg_isLetter 18 = .ok (.iload_n 0, 1) := by decide +kernel
theorem d_Sg_isLetter_19 : decode b_Sg_isLetter 19 = .ok (.bipush 90, 2) := by decide +kernel
theorem d_Sg_isLetter_21 : decode b_Sg_isLetter 21 = .ok (.if_icmp .le 9, 3) := by decide +kernel
theorem d_Sg_isLetter_24 : decode b_Sg_isLetter 24 = .ok (.iload_n 0, 1) := by decide +kernel
theorem d_Sg_isLetter_25 : decode b_Sg_isLetter 25 = .ok (.bipush 95, 2) := by decide +kernel
theorem d_Sg_isLetter_27 : decode b_Sg_isLetter 27 = .ok (.if_icmp .ne 7, 3) := by decide +kernel
theorem d_Sg_isLetter_30 : decode b_Sg_isLetter 30 = .ok (.iconst 1, 1) := by decide +kernel
theorem d_Sg_isLetter_31 : decode b_Sg_isLetter 31 = .ok (.goto 4, 3) := by decide +kernel
theorem d_Sg_isLetter_34 : decode b_Sg_isLetter 34 = .ok (.iconst 0, 1) := by decide +kernel
theorem d_Sg_isLetter_35 : decode b_Sg_isLetter 35 = .ok (.ireturn, 1) := by decide +kernel
theorem d_Sg_isDigit_0 : decode b_Sg_isDigit 0 = .ok (.iload_n 0, 1) := by decide +kernel
theorem d_Sg_isDigit_1 : decode b_Sg_isDigit 1 = .ok (.bipush 48, 2) := by decide +kernel
theorem d_Sg_isDigit_3 : decode b_Sg_isDigit 3 = .ok (.if_icmp .lt 13, 3) := by decide +kernel
theorem d_Sg_isDigit_6 : decode b_Sg_isDigit 6 = .ok (.iload_n 0, 1) := by decide +kernel
theorem d_Sg_isDigit_7 : decode b_Sg_isDigit 7 = .ok (.bipush 57, 2) := by decide +kernel
theorem d_Sg_isDigit_9 : decode b_Sg_isDigit 9 = .ok (.if_icmp .gt 7, 3) := by decide +kernel
theorem d_Sg_isDigit_12 : decode b_Sg_isDigit 12 = .ok (.iconst 1, 1) := by decide +kernel
theorem d_Sg_isDigit_13 : decode b_Sg_isDigit 13 = .ok (.goto 4, 3) := by decide +kernel
theorem d_Sg_isDigit_16 : decode b_Sg_isDigit 16 = .ok (.iconst 0, 1) := by decide +kernel
theorem d_Sg_isDigit_17 : decode b_Sg_isDigit 17 = .ok (.ireturn, 1) := by decide +kernel
theorem d_Sg_isQuote_0 : decode b_Sg_isQuote 0 = .ok (.iload_n 0, 1) := by decide +kernel
theorem d_Sg_isQuote_1 : decode b_Sg_isQuote 1 = .ok (.bipush 39, 2) := by decide +kernel
theorem d_Sg_isQuote_3 : decode b_Sg_isQuote 3 = .ok (.if_icmp .eq 9, 3) := by decide +kernel
theorem d_Sg_isQuote_6 : decode b_Sg_isQuote 6 = .ok (.iload_n 0, 1) := by decide +kernel
theorem d_Sg_isQuote_7 : decode b_Sg_isQuote 7 = .ok (.bipush 34, 2) := by decide +kernel
theorem d_Sg_isQuote_9 : decode b_Sg_isQuote 9 = .ok (.if_icmp .ne 7, 3) := by decide +kernel
theorem d_Sg_isQuote_12 : decode b_Sg_isQuote 12 = .ok (.iconst 1, 1) := by decide +kernel
theorem d_Sg_isQuote_13 : decode b_Sg_isQuote 13 = .ok (.goto 4, 3) := by decide +kernel
theorem d_Sg_isQuote_16 : decode b_Sg_isQuote 16 = .ok (.iconst 0, 1) := by decide +kernel
theorem d_Sg_isQuote_17 : decode b_Sg_isQuote 17 = .ok (.ireturn, 1) := by decide +kernel
theorem d_Sg_isLineEnd_0 : decode b_Sg_isLineEnd 0 = .ok (.iload_n 0, 1) := by decide +kernel
theorem d_Sg_isLineEnd_1 : decode b_Sg_isLineEnd 1 = .ok (.bipush 10, 2) := by decide +kernel
theorem d_Sg_isLineEnd_3 : decode b_Sg_isLineEnd 3 = .ok (.if_icmp .eq 9, 3) := by decide +kernel
theorem d_Sg_isLineEnd_6 : decode b_Sg_isLineEnd 6 = .ok (.iload_n 0, 1) := by decide +kernel
theorem d_Sg_isLineEnd_7 : decode b_Sg_isLineEnd 7 = .ok (.bipush 13, 2) := by decide +kernel
theorem d_Sg_isLineEnd_9 : decode b_Sg_isLineEnd 9 = .ok (.if_icmp .ne 7, 3) := by decide +kernel
theorem d_Sg_isLineEnd_12 : decode b_Sg_isLineEnd 12 = .ok (.iconst 1, 1) := by decide +kernel
theorem d_Sg_isLineEnd_13 : decode b_Sg_isLineEnd 13 = .ok (.goto 4, 3) := by decide +kernel
theorem d_Sg_isLineEnd_16 : decode b_Sg_isLineEnd 16 = .ok (.iconst 0, 1) := by decide +kernel
theorem d_Sg_isLineEnd_17 : decode b_Sg_isLineEnd 17 = .ok (.ireturn, 1) := by decide +kernel
theorem d_Sg_isEither_0 : decode b_Sg_isEither 0 = .ok (.iload_n 0, 1) := by decide +kernel
theorem d_Sg_isEither_1 : decode b_Sg_isEither 1 = .ok (.iload_n 1, 1) := by decide +kernel
theorem d_Sg_isEither_2 : decode b_Sg_isEither 2 = .ok (.if_icmp .eq 11, 3) := by decide +kernel
theorem d_Sg_isEither_5 : decode b_Sg_isEither 5 = .ok (.iload_n 0, 1) := by decide +kernel
theorem d_Sg_isEither_6 : decode b_Sg_isEither 6 = .ok (.iload_n 1, 1) := by decide +kernel
theorem d_Sg_isEither_7 : decode b_Sg_isEither 7 = .ok (.bipush 32, 2) := by decide +kernel
theorem d_Sg_isEither_9 : decode b_Sg_isEither 9 = .ok (.isub, 1) := by decide +kernel
theorem d_Sg_isEither_10 : decode b_Sg_isEither 10 = .ok (.if_icmp .ne 7, 3) := by decide +kernel
theorem d_Sg_isEither_13 : decode b_Sg_isEither 13 = .ok (.iconst 1, 1) := by decide +kernel
theorem d_Sg_isEither_14 : decode b_Sg_isEither 14 = .ok (.goto 4, 3) := by decide +kernel
theorem d_Sg_isEither_17 : decode b_Sg_isEither 17 = .ok (.iconst 0, 1) := by decide +kernel
theorem d_Sg_isEither_18 : decode b_Sg_isEither 18 = .ok (.ireturn, 1) := by decide +kernel
theorem d_Sg_isSign_0 : decode b_Sg_isSign 0 = .ok (.iload_n 0, 1) := by decide +kernel
theorem d_Sg_isSign_1 : decode b_Sg_isSign 1 = .ok (.bipush 43, 2) := by decide +kernel
theorem d_Sg_isSign_3 : decode b_Sg_isSign 3 = .ok (.if_icmp .eq 9, 3) := by decide +kernel
theorem d_Sg_isSign_6 : decode b_Sg_isSign 6 = .ok (.iload_n 0, 1) := by decide +kernel
theorem d_Sg_isSign_7 : decode b_Sg_isSign 7 = .ok (.bipush 45, 2) := by decide +kernel
theorem d_Sg_isSign_9 : decode b_Sg_isSign 9 = .ok (.if_icmp .ne 7, 3) := by decide +kernel
theorem d_Sg_isSign_12 : decode b_Sg_isSign 12 = .ok (.iconst 1, 1) := by decide +kernel
theorem d_Sg_isSign_13 : decode b_Sg_isSign 13 = .ok (.goto 4, 3) := by decide +kernel
theorem d_Sg_isSign_16 : decode b_Sg_isSign 16 = .ok (.iconst 0, 1) := by decide +kernel
theorem d_Sg_isSign_17 : decode b_Sg_isSign 17 = .ok (.ireturn, 1) := by decide +kernel
theorem d_Sg_hexValue_0 : decode b_Sg_hexValue 0 = .ok (.iload_n 0, 1) := by decide +kernel
theorem d_Sg_hexValue_1 : decode b_Sg_hexValue 1 = .ok (.invokestatic 7, 3) := by decide +kernel
theorem d_Sg_hexValue_4 : decode b_Sg_hexValue 4 = .ok (.ifCond .eq 8, 3) := by decide +kernel
theorem d_Sg_hexValue_7 : decode b_Sg_hexValue 7 = .ok (.iload_n 0, 1) := by decide +kernel
theorem d_Sg_hexValue_8 : decode b_Sg_hexValue 8 = .ok (.bipush 48, 2) := by decide +kernel
theorem d_Sg_hexValue_10 : decode b_Sg_hexValue 10 = .ok (.isub, 1) := by decide +kernel
theorem d_Sg_hexValue_11 : decode b_Sg_hexValue 11 = .ok (.ireturn, 1) := by decide +kernel
theorem d_Sg_hexValue_12 : decode b_Sg_hexValue 12 = .ok (.iload_n 0, 1) := by decide +kernel
theorem d_Sg_hexValue_13 : decode b_Sg_hexValue 13 = .ok (.bipush 97, 2) := by decide +kernel
theorem d_Sg_hexValue_15 : decode b_Sg_hexValue 15 = .ok (.if_icmp .lt 17, 3) := by decide +kernel
theorem d_Sg_hexValue_18 : decode b_Sg_hexValue 18 = .ok (.iload_n 0, 1) := by decide +kernel
theorem d_Sg_hexValue_19 : decode b_Sg_hexValue 19 = .ok (.bipush 102, 2) := by decide +kernel
theorem d_Sg_hexValue_21 : decode b_Sg_hexValue 21 = .ok (.if_icmp .gt 11, 3) := by decide +kernel
theorem d_Sg_hexValue_24 : decode b_Sg_hexValue 24 = .ok (.iload_n 0, 1) := by decide +kernel
theorem d_Sg_hexValue_25 : decode b_Sg_hexValue 25 = .ok (.bipush 97, 2) := by decide +kernel
theorem d_Sg_hexValue_27 : decode b_Sg_hexValue 27 = .ok (.isub, 1) := by decide +kernel
theorem d_Sg_hexValue_28 : decode b_Sg_hexValue 28 = .ok (.bipush 10, 2) := by decide +kernel
theorem d_Sg_hexValue_30 : decode b_Sg_hexValue 30 = .ok (.iadd, 1) := by decide +kernel
theorem d_Sg_hexValue_31 : decode b_Sg_hexValue 31 = .ok (.ireturn, 1) := by decide +kernel
theorem d_Sg_hexValue_32 : decode b_Sg_hexValue 32 = .ok (.iload_n 0, 1) := by decide +kernel
theorem d_Sg_hexValue_33 : decode b_Sg_hexValue 33 = .ok (.bipush 65, 2) := by decide +kernel
theorem d_Sg_hexValue_35 : decode b_Sg_hexValue 35 = .ok (.if_icmp .lt 19, 3) := by decide +kernel
theorem d_Sg_hexValue_38 : decode b_Sg_hexValue 38 = .ok (.iload_n 0, 1) := by decide +kernel
theorem d_Sg_hexValue_39 : decode b_Sg_hexValue 39 = .ok (.bipush 70, 2) := by decide +kernel
theorem d_Sg_hexValue_41 : decode b_Sg_hexValue 41 = .ok (.if_icmp .gt 13, 3) := by decide +kernel
theorem d_Sg_hexValue_44 : decode b_Sg_hexValue 44 = .ok (.iload_n 0, 1) := by decide +kernel
theorem d_Sg_hexValue_45 : decode b_Sg_hexValue 45 = .ok (.bipush 65, 2) := by decide +kernel
theorem d_Sg_hexValue_47 : decode b_Sg_hexValue 47 = .ok (.isub, 1) := by decide +kernel
theorem d_Sg_hexValue_48 : decode b_Sg_hexValue 48 = .ok (.bipush 10, 2) := by decide +kernel
theorem d_Sg_hexValue_50 : decode b_Sg_hexValue 50 = .ok (.iadd, 1) := by decide +kernel
theorem d_Sg_hexValue_51 : decode b_Sg_hexValue 51 = .ok (.goto 4, 3) := by decide +kernel
theorem d_Sg_hexValue_54 : decode b_Sg_hexValue 54 = .ok (.iconst (-1), 1) := by decide +kernel
theorem d_Sg_hexValue_55 : decode b_Sg_hexValue 55 = .ok (.ireturn, 1) := by decide +kernel
theorem d_Sg_escaped_0 : decode b_Sg_escaped 0 = .ok (.iload_n 0, 1) := by decide +kernel
theorem d_Sg_escaped_1 : decode b_Sg_escaped 1 = .ok (.lookupswitch 114 #[(34, 112), (39, 112), (92, 112), (97, 91), (98, 94), (102, 97), (110, 100), (114, 103), (116, 106), (118, 109)], 91) := by decide +kernel
theorem d_Sg_escaped_92 : decode b_Sg_escaped 92 = .ok (.bipush 7, 2) := by decide +kernel
theorem d_Sg_escaped_94 : decode b_Sg_escaped 94 = .ok (.ireturn, 1) := by decide +kernel
theorem d_Sg_escaped_95 : decode b_Sg_escaped 95 = .ok (.bipush 8, 2) := by decide +kernel
theorem d_Sg_escaped_97 : decode b_Sg_escaped 97 = .ok (.ireturn, 1) := by decide +kernel
theorem d_Sg_escaped_98 : decode b_Sg_escaped 98 = .ok (.bipush 12, 2) := by decide +kernel
theorem d_Sg_escaped_100 : decode b_Sg_escaped 100 = .ok (.ireturn, 1) := by decide +kernel
theorem d_Sg_escaped_101 : decode b_Sg_escaped 101 = .ok (.bipush 10, 2) := by decide +kernel
theorem d_Sg_escaped_103 : decode b_Sg_escaped 103 = .ok (.ireturn, 1) := by decide +kernel
theorem d_Sg_escaped_104 : decode b_Sg_escaped 104 = .ok (.bipush 13, 2) := by decide +kernel
theorem d_Sg_escaped_106 : decode b_Sg_escaped 106 = .ok (.ireturn, 1) := by decide +kernel
theorem d_Sg_escaped_107 : decode b_Sg_escaped 107 = .ok (.bipush 9, 2) := by decide +kernel
theorem d_Sg_escaped_109 : decode b_Sg_escaped 109 = .ok (.ireturn, 1) := by decide +kernel
theorem d_Sg_escaped_110 : decode b_Sg_escaped 110 = .ok (.bipush 11, 2) := by decide +kernel
theorem d_Sg_escaped_112 : decode b_Sg_escaped 112 = .ok (.ireturn, 1) := by decide +kernel
theorem d_Sg_escaped_113 : decode b_Sg_escaped 113 = .ok (.iload_n 0, 1) := by decide +kernel
theorem d_Sg_escaped_114 : decode b_Sg_escaped 114 = .ok (.ireturn, 1) := by decide +kernel
theorem d_Sg_escaped_115 : decode b_Sg_escaped 115 = .ok (.iconst (-1), 1) := by decide +kernel
theorem d_Sg_escaped_116 : decode b_Sg_escaped 116 = .ok (.ireturn, 1) := by decide +kernel
