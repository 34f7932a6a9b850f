theorem d_Op_ofOne_0 : decode b_Op_ofOne 0 = .ok (.iload_n 0, 1) := by decide +kernel
theorem d_Op_ofOne_1 : decode b_Op_ofOne 1 = .ok (.tableswitch 452 35 126 #[401, 452, 395, 404, 452, 422, 425, 389, 383, 446, 386, 449, 392, 452, 452, 452, 452, 452, 452, 452, 452, 452, 452, 443, 440, 413, 419, 416, 452, 452, 452, 452, 452, 452, 452, 452, 452, 452, 452, 452, 452, 452, 452, 452, 452, 452, 452, 452, 452, 452, 452, 452, 452, 452, 452, 452, 434, 452, 437, 398, 452, 452, 452, 452, 452, 452, 452, 452, 452, 452, 452, 452, 452, 452, 452, 452, 452, 452, 452, 452, 452, 452, 452, 452, 452, 452, 452, 452, 428, 410, 431, 407], 383) := by decide +kernel
theorem d_Op_ofOne_384 : decode b_Op_ofOne 384 = .ok (.bipush 40, 2) := by decide +kernel
theorem d_Op_ofOne_386 : decode b_Op_ofOne 386 = .ok (.ireturn, 1) := by decide +kernel
theorem d_Op_ofOne_387 : decode b_Op_ofOne 387 = .ok (.bipush 41, 2) := by decide +kernel
theorem d_Op_ofOne_389 : decode b_Op_ofOne 389 = .ok (.ireturn, 1) := by decide +kernel
theorem d_Op_ofOne_390 : decode b_Op_ofOne 390 = .ok (.bipush 42, 2) := by decide +kernel
theorem d_Op_ofOne_392 : decode b_Op_ofOne 392 = .ok (.ireturn, 1) := by decide +kernel
theorem d_Op_ofOne_393 : decode b_Op_ofOne 393 = .ok (.bipush 43, 2) := by decide +kernel
theorem d_Op_ofOne_395 : decode b_Op_ofOne 395 = .ok (.ireturn, 1) := by decide +kernel
theorem d_Op_ofOne_396 : decode b_Op_ofOne 396 = .ok (.bipush 44, 2) := by decide +kernel
theorem d_Op_ofOne_398 : decode b_Op_ofOne 398 = .ok (.ireturn, 1) := by decide +kernel
theorem d_Op_ofOne_399 : decode b_Op_ofOne 399 = .ok (.bipush 45, 2) := by decide +kernel
theorem d_Op_ofOne_401 : decode b_Op_ofOne 401 = .ok (.ireturn, 1) := by decide +kernel
theorem d_Op_ofOne_402 : decode b_Op_ofOne 402 = .ok (.bipush 46, 2) := by decide +kernel
theorem d_Op_ofOne_404 : decode b_Op_ofOne 404 = .ok (.ireturn, 1) := by decide +kernel
theorem d_Op_ofOne_405 : decode b_Op_ofOne 405 = .ok (.bipush 47, 2) := by decide +kernel
theorem d_Op_ofOne_407 : decode b_Op_ofOne 407 = .ok (.ireturn, 1) := by decide +kernel
theorem d_Op_ofOne_408 : decode b_Op_ofOne 408 = .ok (.bipush 48, 2) := by decide +kernel
theorem d_Op_ofOne_410 : decode b_Op_ofOne 410 = .ok (.ireturn, 1) := by decide +kernel
theorem d_Op_ofOne_411 : decode b_Op_ofOne 411 = .ok (.bipush 49, 2) := by decide +kernel
theorem d_Op_ofOne_413 : decode b_Op_ofOne 413 = .ok (.ireturn, 1) := by decide +kernel
theorem d_Op_ofOne_414 : decode b_Op_ofOne 414 = .ok (.bipush 57, 2) := by decide +kernel
theorem d_Op_ofOne_416 : decode b_Op_ofOne 416 = .ok (.ireturn, 1) := by decide +kernel
theorem d_Op_ofOne_417 : decode b_Op_ofOne 417 = .ok (.bipush 58, 2) := by decide +kernel
theorem d_Op_ofOne_419 : decode b_Op_ofOne 419 = .ok (.ireturn, 1) := by decide +kernel
theorem d_Op_ofOne_420 : decode b_Op_ofOne 420 = .ok (.bipush 59, 2) := by decide +kernel
theorem d_Op_ofOne_422 : decode b_Op_ofOne 422 = .ok (.ireturn, 1) := by decide +kernel
theorem d_Op_ofOne_423 : decode b_Op_ofOne 423 = .ok (.bipush 60, 2) := by decide +kernel
theorem d_Op_ofOne_425 : decode b_Op_ofOne 425 = .ok (.ireturn, 1) := by decide +kernel
theorem d_Op_ofOne_426 : decode b_Op_ofOne 426 = .ok (.bipush 61, 2) := by decide +kernel
theorem d_Op_ofOne_428 : decode b_Op_ofOne 428 = .ok (.ireturn, 1) := by decide +kernel
theorem d_Op_ofOne_429 : decode b_Op_ofOne 429 = .ok (.bipush 62, 2) := by decide +kernel
theorem d_Op_ofOne_431 : decode b_Op_ofOne 431 = .ok (.ireturn, 1) := by decide +kernel
theorem d_Op_ofOne_432 : decode b_Op_ofOne 432 = .ok (.bipush 63, 2) := by decide +kernel
theorem d_Op_ofOne_434 : decode b_Op_ofOne 434 = .ok (.ireturn, 1) := by decide +kernel
theorem d_Op_ofOne_435 : decode b_Op_ofOne 435 = .ok (.bipush 64, 2) := by decide +kernel
theorem d_Op_ofOne_437 : decode b_Op_ofOne 437 = .ok (.ireturn, 1) := by decide +kernel
theorem d_Op_ofOne_438 : decode b_Op_ofOne 438 = .ok (.bipush 65, 2) := by decide +kernel
theorem d_Op_ofOne_440 : decode b_Op_ofOne 440 = .ok (.ireturn, 1) := by decide +kernel
theorem d_Op_ofOne_441 : decode b_Op_ofOne 441 = .ok (.bipush 67, 2) := by decide +kernel
theorem d_Op_ofOne_443 : decode b_Op_ofOne 443 = .ok (.ireturn, 1) := by decide +kernel
theorem d_Op_ofOne_444 : decode b_Op_ofOne 444 = .ok (.bipush 68, 2) := by decide +kernel
theorem d_Op_ofOne_446 : decode b_Op_ofOne 446 = .ok (.ireturn, 1) := by decide +kernel
theorem d_Op_ofOne_447 : decode b_Op_ofOne 447 = .ok (.bipush 69, 2) := by decide +kernel
theorem d_Op_ofOne_449 : decode b_Op_ofOne 449 = .ok (.ireturn, 1) := by decide +kernel
theorem d_Op_ofOne_450 : decode b_Op_ofOne 450 = .ok (.bipush 70, 2) := by decide +kernel
theorem d_Op_ofOne_452 : decode b_Op_ofOne 452 = .ok (.ireturn, 1) := by decide +kernel
theorem d_Op_ofOne_453 : decode b_Op_ofOne 453 = .ok (.iconst 0, 1) := by decide +kernel
theorem d_Op_ofOne_454 : decode b_Op_ofOne 454 = .ok (.ireturn, 1) := by decide +kernel
theorem d_Rs_kindOf_0 : decode b_Rs_kindOf 0 = .ok (.iconst 0, 1) := by decide +kernel
theorem d_Rs_kindOf_1 : decode b_Rs_kindOf 1 = .ok (.istore_n 2, 1) := by decide +kernel
theorem d_Rs_kindOf_2 : decode b_Rs_kindOf 2 = .ok (.iload_n 2, 1) := by decide +kernel
theorem d_Rs_kindOf_3 : decode b_Rs_kindOf 3 = .ok (.getstatic 7, 3) := by decide +kernel
theorem d_Rs_kindOf_6 : decode b_Rs_kindOf 6 = .ok (.arraylength, 1) := by decide +kernel
theorem d_Rs_kindOf_7 : decode b_Rs_kindOf 7 = .ok (.if_icmp .ge 24, 3) := by decide +kernel
theorem d_Rs_kindOf_10 : decode b_Rs_kindOf 10 = .ok (.getstatic 7, 3) := by decide +kernel
theorem d_Rs_kindOf_13 : decode b_Rs_kindOf 13 = .ok (.iload_n 2, 1) := by decide +kernel
theorem d_Rs_kindOf_14 : decode b_Rs_kindOf 14 = .ok (.laload, 1) := by decide +kernel
theorem d_Rs_kindOf_15 : decode b_Rs_kindOf 15 = .ok (.lload_n 0, 1) := by decide +kernel
theorem d_Rs_kindOf_16 : decode b_Rs_kindOf 16 = .ok (.lcmp, 1) := by decide +kernel
theorem d_Rs_kindOf_17 : decode b_Rs_kindOf 17 = .ok (.ifCond .ne 8, 3) := by decide +kernel
theorem d_Rs_kindOf_20 : decode b_Rs_kindOf 20 = .ok (.bipush 10, 2) := by decide +kernel
theorem d_Rs_kindOf_22 : decode b_Rs_kindOf 22 = .ok (.iload_n 2, 1) := by decide +kernel
theorem d_Rs_kindOf_23 : decode b_Rs_kindOf 23 = .ok (.iadd, 1) := by decide +kernel
theorem d_Rs_kindOf_24 : decode b_Rs_kindOf 24 = .ok (.ireturn, 1) := by decide +kernel
theorem d_Rs_kindOf_25 : decode b_Rs_kindOf 25 = .ok (.iinc 2 1, 3) := by decide +kernel
theorem d_Rs_kindOf_28 : decode b_Rs_kindOf 28 = .ok (.goto (-26), 3) := by decide +kernel
theorem d_Rs_kindOf_31 : decode b_Rs_kindOf 31 = .ok (.iconst 0, 1) := by decide +kernel
theorem d_Rs_kindOf_32 : decode b_Rs_kindOf 32 = .ok (.ireturn, 1) := by decide +kernel
theorem d_Op_ofThree_0 : decode b_Op_ofThree 0 = .ok (.iload_n 0, 1) := by decide +kernel
theorem d_Op_ofThree_1 : decode b_Op_ofThree 1 = .ok (.bipush 46, 2) := by decide +kernel
theorem d_Op_ofThree_3 : decode b_Op_ofThree 3 = .ok (.if_icmp .ne 20, 3) := by decide +kernel
theorem d_Op_ofThree_6 : decode b_Op_ofThree 6 = .ok (.iload_n 1, 1) := by decide +kernel
theorem d_Op_ofThree_7 : decode b_Op_ofThree 7 = .ok (.bipush 46, 2) := by decide +kernel
theorem d_Op_ofThree_9 : decode b_Op_ofThree 9 = .ok (.if_icmp .ne 14, 3) := by decide +kernel
theorem d_Op_ofThree_12 : decode b_Op_ofThree 12 = .ok (.iload_n 2, 1) := by decide +kernel
theorem d_Op_ofThree_13 : decode b_Op_ofThree 13 = .ok (.bipush 46, 2) := by decide +kernel
theorem d_Op_ofThree_15 : decode b_Op_ofThree 15 = .ok (.if_icmp .ne 8, 3) := by decide +kernel
theorem d_Op_ofThree_18 : decode b_Op_ofThree 18 = .ok (.bipush 72, 2) := by decide +kernel
theorem d_Op_ofThree_20 : decode b_Op_ofThree 20 = .ok (.goto 4, 3) := by decide +kernel
theorem d_Op_ofThree_23 : decode b_Op_ofThree 23 = .ok (.iconst 0, 1) := by decide +kernel
theorem d_Op_ofThree_24 : decode b_Op_ofThree 24 = .ok (.ireturn, 1) := by decide +kernel
theorem d_Op_ofTwice_0 : decode b_Op_ofTwice 0 = .ok (.iload_n 0, 1) := by decide +kernel
theorem d_Op_ofTwice_1 : decode b_Op_ofTwice 1 = .ok (.tableswitch 101 46 62 #[98, 89, 101, 101, 101, 101, 101, 101, 101, 101, 101, 101, 95, 101, 83, 92, 86], 83) := by decide +kernel
theorem d_Op_ofTwice_84 : decode b_Op_ofTwice 84 = .ok (.bipush 50, 2) := by decide +kernel
theorem d_Op_ofTwice_86 : decode b_Op_ofTwice 86 = .ok (.ireturn, 1) := by decide +kernel
theorem d_Op_ofTwice_87 : decode b_Op_ofTwice 87 = .ok (.bipush 51, 2) := by decide +kernel
theorem d_Op_ofTwice_89 : decode b_Op_ofTwice 89 = .ok (.ireturn, 1) := by decide +kernel
theorem d_Op_ofTwice_90 : decode b_Op_ofTwice 90 = .ok (.bipush 52, 2) := by decide +kernel
theorem d_Op_ofTwice_92 : decode b_Op_ofTwice 92 = .ok (.ireturn, 1) := by decide +kernel
theorem d_Op_ofTwice_93 : decode b_Op_ofTwice 93 = .ok (.bipush 53, 2) := by decide +kernel
theorem d_Op_ofTwice_95 : decode b_Op_ofTwice 95 = .ok (.ireturn, 1) := by decide +kernel
theorem d_Op_ofTwice_96 : decode b_Op_ofTwice 96 = .ok (.bipush 66, 2) := by decide +kernel
theorem d_Op_ofTwice_98 : decode b_Op_ofTwice 98 = .ok (.ireturn, 1) := by decide +kernel
theorem d_Op_ofTwice_99 : decode b_Op_ofTwice 99 = .ok (.bipush 71, 2) := by decide +kernel
theorem d_Op_ofTwice_101 : decode b_Op_ofTwice 101 = .ok (.ireturn, 1) := by decide +kernel
theorem d_Op_ofTwice_102 : decode b_Op_ofTwice 102 = .ok (.iconst 0, 1) := by decide +kernel
theorem d_Op_ofTwice_103 : decode b_Op_ofTwice 103 = .ok (.ireturn, 1) := by decide +kernel
theorem d_Op_ofTwo_0 : decode b_Op_ofTwo 0 = .ok (.iload_n 0, 1) := by decide +kernel
theorem d_Op_ofTwo_1 : decode b_Op_ofTwo 1 = .ok (.iload_n 1, 1) := by decide +kernel
theorem d_Op_ofTwo_2 : decode b_Op_ofTwo 2 = .ok (.if_icmp .ne 8, 3) := by decide +kernel
theorem d_Op_ofTwo_5 : decode b_Op_ofTwo 5 = .ok (.iload_n 0, 1) := by decide +kernel
theorem d_Op_ofTwo_6 : decode b_Op_ofTwo 6 = .ok (.invokestatic 7, 3) := by decide +kernel
theorem d_Op_ofTwo_9 : decode b_Op_ofTwo 9 = .ok (.ireturn, 1) := by decide +kernel
theorem d_Op_ofTwo_10 : decode b_Op_ofTwo 10 = .ok (.iload_n 1, 1) := by decide +kernel
theorem d_Op_ofTwo_11 : decode b_Op_ofTwo 11 = .ok (.bipush 61, 2) := by decide +kernel
theorem d_Op_ofTwo_13 : decode b_Op_ofTwo 13 = .ok (.if_icmp .eq 5, 3) := by decide +kernel
theorem d_Op_ofTwo_16 : decode b_Op_ofTwo 16 = .ok (.iconst 0, 1) := by decide +kernel
theorem d_Op_ofTwo_17 : decode b_Op_ofTwo 17 = .ok (.ireturn, 1) := by decide +kernel
theorem d_Op_ofTwo_18 : decode b_Op_ofTwo 18 = .ok (.iload_n 0, 1) := by decide +kernel
theorem d_Op_ofTwo_19 : decode b_Op_ofTwo 19 = .ok (.lookupswitch 42 #[(60, 36), (62, 39), (126, 33)], 33) := by decide +kernel
theorem d_Op_ofTwo_52 : decode b_Op_ofTwo 52 = .ok (.bipush 54, 2) := by decide +kernel
theorem d_Op_ofTwo_54 : decode b_Op_ofTwo 54 = .ok (.ireturn, 1) := by decide +kernel
theorem d_Op_ofTwo_55 : decode b_Op_ofTwo 55 = .ok (.bipush 55, 2) := by decide +kernel
theorem d_Op_ofTwo_57 : decode b_Op_ofTwo 57 = .ok (.ireturn, 1) := by decide +kernel
theorem d_Op_ofTwo_58 : decode b_Op_ofTwo 58 = .ok (.bipush 56, 2) := by decide +kernel
theorem d_Op_ofTwo_60 : decode b_Op_ofTwo 60 = .ok (.ireturn, 1) := by decide +kernel
theorem d_Op_ofTwo_61 : decode b_Op_ofTwo 61 = .ok (.iconst 0, 1) := by decide +kernel
theorem d_Op_ofTwo_62 : decode b_Op_ofTwo 62 = .ok (.ireturn, 1) := by decide +kernel
