theorem dFF_init_0 : decode cFF_init 0 = .ok (.aload_n 0, 1) := by decide +kernel
theorem dFF_init_1 : decode cFF_init 1 = .ok (.invokespecial 3, 3) := by decide +kernel
theorem dFF_init_4 : decode cFF_init 4 = .ok (.aload_n 0, 1) := by decide +kernel
theorem dFF_init_5 : decode cFF_init 5 = .ok (.new 9, 3) := by decide +kernel
theorem dFF_init_8 : decode cFF_init 8 = .ok (.dup, 1) := by decide +kernel
theorem dFF_init_9 : decode cFF_init 9 = .ok (.invokespecial 11, 3) := by decide +kernel
theorem dFF_init_12 : decode cFF_init 12 = .ok (.putfield 12, 3) := by decide +kernel
theorem dFF_init_15 : decode cFF_init 15 = .ok (.aload_n 0, 1) := by decide +kernel
theorem dFF_init_16 : decode cFF_init 16 = .ok (.new 16, 3) := by decide +kernel
theorem dFF_init_19 : decode cFF_init 19 = .ok (.dup, 1) := by decide +kernel
theorem dFF_init_20 : decode cFF_init 20 = .ok (.invokespecial 18, 3) := by decide +kernel
theorem dFF_init_23 : decode cFF_init 23 = .ok (.putfield 19, 3) := by decide +kernel
theorem dFF_init_26 : decode cFF_init 26 = .ok (.aload_n 0, 1) := by decide +kernel
theorem dFF_init_27 : decode cFF_init 27 = .ok (.new 23, 3) := by decide +kernel
theorem dFF_init_30 : decode cFF_init 30 = .ok (.dup, 1) := by decide +kernel
theorem dFF_init_31 : decode cFF_init 31 = .ok (.invokespecial 25, 3) := by decide +kernel
theorem dFF_init_34 : decode cFF_init 34 = .ok (.putfield 26, 3) := by decide +kernel
theorem dFF_init_37 : decode cFF_init 37 = .ok (.aload_n 0, 1) := by decide +kernel
theorem dFF_init_38 : decode cFF_init 38 = .ok (.new 30, 3) := by decide +kernel
theorem dFF_init_41 : decode cFF_init 41 = .ok (.dup, 1) := by decide +kernel
theorem dFF_init_42 : decode cFF_init 42 = .ok (.invokespecial 32, 3) := by decide +kernel
theorem dFF_init_45 : decode cFF_init 45 = .ok (.putfield 33, 3) := by decide +kernel
theorem dFF_init_48 : decode cFF_init 48 = .ok (.aload_n 0, 1) := by decide +kernel
theorem dFF_init_49 : decode cFF_init 49 = .ok (.new 37, 3) := by decide +kernel
theorem dFF_init_52 : decode cFF_init 52 = .ok (.dup, 1) := by decide +kernel
theorem dFF_init_53 : decode cFF_init 53 = .ok (.invokespecial 39, 3) := by decide +kernel
theorem dFF_init_56 : decode cFF_init 56 = .ok (.putfield 40, 3) := by decide +kernel
theorem dFF_init_59 : decode cFF_init 59 = .ok (.return_, 1) := by decide +kernel
theorem dFD_init_0 : decode cFD_init 0 = .ok (.aload_n 0, 1) := by decide +kernel
theorem dFD_init_1 : decode cFD_init 1 = .ok (.invokespecial 3, 3) := by decide +kernel
theorem dFD_init_4 : decode cFD_init 4 = .ok (.aload_n 0, 1) := by decide +kernel
theorem dFD_init_5 : decode cFD_init 5 = .ok (.bipush 17, 2) := by decide +kernel
theorem dFD_init_7 : decode cFD_init 7 = .ok (.newarray .int, 2) := by decide +kernel
theorem dFD_init_9 : decode cFD_init 9 = .ok (.putfield 9, 3) := by decide +kernel
theorem dFD_init_12 : decode cFD_init 12 = .ok (.aload_n 0, 1) := by decide +kernel
theorem dFD_init_13 : decode cFD_init 13 = .ok (.sipush 256, 3) := by decide +kernel
theorem dFD_init_16 : decode cFD_init 16 = .ok (.newarray .int, 2) := by decide +kernel
theorem dFD_init_18 : decode cFD_init 18 = .ok (.putfield 15, 3) := by decide +kernel
theorem dFD_init_21 : decode cFD_init 21 = .ok (.aload_n 0, 1) := by decide +kernel
theorem dFD_init_22 : decode cFD_init 22 = .ok (.sipush 256, 3) := by decide +kernel
theorem dFD_init_25 : decode cFD_init 25 = .ok (.newarray .boolean, 2) := by decide +kernel
theorem dFD_init_27 : decode cFD_init 27 = .ok (.putfield 18, 3) := by decide +kernel
theorem dFD_init_30 : decode cFD_init 30 = .ok (.return_, 1) := by decide +kernel
theorem dFT_init_0 : decode cFT_init 0 = .ok (.aload_n 0, 1) := by decide +kernel
theorem dFT_init_1 : decode cFT_init 1 = .ok (.invokespecial 3, 3) := by decide +kernel
theorem dFT_init_4 : decode cFT_init 4 = .ok (.aload_n 0, 1) := by decide +kernel
theorem dFT_init_5 : decode cFT_init 5 = .ok (.bipush 17, 2) := by decide +kernel
theorem dFT_init_7 : decode cFT_init 7 = .ok (.newarray .int, 2) := by decide +kernel
theorem dFT_init_9 : decode cFT_init 9 = .ok (.putfield 9, 3) := by decide +kernel
theorem dFT_init_12 : decode cFT_init 12 = .ok (.aload_n 0, 1) := by decide +kernel
theorem dFT_init_13 : decode cFT_init 13 = .ok (.sipush 256, 3) := by decide +kernel
theorem dFT_init_16 : decode cFT_init 16 = .ok (.newarray .int, 2) := by decide +kernel
theorem dFT_init_18 : decode cFT_init 18 = .ok (.putfield 15, 3) := by decide +kernel
theorem dFT_init_21 : decode cFT_init 21 = .ok (.aload_n 0, 1) := by decide +kernel
theorem dFT_init_22 : decode cFT_init 22 = .ok (.sipush 256, 3) := by decide +kernel
theorem dFT_init_25 : decode cFT_init 25 = .ok (.newarray .int, 2) := by decide +kernel
theorem dFT_init_27 : decode cFT_init 27 = .ok (.putfield 18, 3) := by decide +kernel
theorem dFT_init_30 : decode cFT_init 30 = .ok (.aload_n 0, 1) := by decide +kernel
theorem dFT_init_31 : decode cFT_init 31 = .ok (.sipush 256, 3) := by decide +kernel
theorem dFT_init_34 : decode cFT_init 34 = .ok (.newarray .int, 2) := by decide +kernel
theorem dFT_init_36 : decode cFT_init 36 = .ok (.putfield 21, 3) := by decide +kernel
theorem dFT_init_39 : decode cFT_init 39 = .ok (.return_, 1) := by decide +kernel
theorem dFY_init_0 : decode cFY_init 0 = .ok (.aload_n 0, 1) := by decide +kernel
theorem dFY_init_1 : decode cFY_init 1 = .ok (.invokespecial 3, 3) := by decide +kernel
theorem dFY_init_4 : decode cFY_init 4 = .ok (.aload_n 0, 1) := by decide +kernel
theorem dFY_init_5 : decode cFY_init 5 = .ok (.sipush 256, 3) := by decide +kernel
theorem dFY_init_8 : decode cFY_init 8 = .ok (.newarray .int, 2) := by decide +kernel
theorem dFY_init_10 : decode cFY_init 10 = .ok (.putfield 9, 3) := by decide +kernel
theorem dFY_init_13 : decode cFY_init 13 = .ok (.return_, 1) := by decide +kernel
theorem dFB_init_0 : decode cFB_init 0 = .ok (.aload_n 0, 1) := by decide +kernel
theorem dFB_init_1 : decode cFB_init 1 = .ok (.invokespecial 3, 3) := by decide +kernel
theorem dFB_init_4 : decode cFB_init 4 = .ok (.aload_n 0, 1) := by decide +kernel
theorem dFB_init_5 : decode cFB_init 5 = .ok (.sipush 257, 3) := by decide +kernel
theorem dFB_init_8 : decode cFB_init 8 = .ok (.newarray .int, 2) := by decide +kernel
theorem dFB_init_10 : decode cFB_init 10 = .ok (.putfield 9, 3) := by decide +kernel
theorem dFB_init_13 : decode cFB_init 13 = .ok (.aload_n 0, 1) := by decide +kernel
theorem dFB_init_14 : decode cFB_init 14 = .ok (.sipush 256, 3) := by decide +kernel
theorem dFB_init_17 : decode cFB_init 17 = .ok (.newarray .int, 2) := by decide +kernel
theorem dFB_init_19 : decode cFB_init 19 = .ok (.putfield 15, 3) := by decide +kernel
theorem dFB_init_22 : decode cFB_init 22 = .ok (.aload_n 0, 1) := by decide +kernel
theorem dFB_init_23 : decode cFB_init 23 = .ok (.sipush 257, 3) := by decide +kernel
theorem dFB_init_26 : decode cFB_init 26 = .ok (.newarray .int, 2) := by decide +kernel
theorem dFB_init_28 : decode cFB_init 28 = .ok (.putfield 18, 3) := by decide +kernel
theorem dFB_init_31 : decode cFB_init 31 = .ok (.aload_n 0, 1) := by decide +kernel
theorem dFB_init_32 : decode cFB_init 32 = .ok (.sipush 257, 3) := by decide +kernel
theorem dFB_init_35 : decode cFB_init 35 = .ok (.newarray .int, 2) := by decide +kernel
theorem dFB_init_37 : decode cFB_init 37 = .ok (.putfield 21, 3) := by decide +kernel
theorem dFB_init_40 : decode cFB_init 40 = .ok (.aload_n 0, 1) := by decide +kernel
theorem dFB_init_41 : decode cFB_init 41 = .ok (.sipush 257, 3) := by decide +kernel
theorem dFB_init_44 : decode cFB_init 44 = .ok (.newarray .int, 2) := by decide +kernel
theorem dFB_init_46 : decode cFB_init 46 = .ok (.putfield 24, 3) := by decide +kernel
theorem dFB_init_49 : decode cFB_init 49 = .ok (.aload_n 0, 1) := by decide +kernel
theorem dFB_init_50 : decode cFB_init 50 = .ok (.sipush 513, 3) := by decide +kernel
theorem dFB_init_53 : decode cFB_init 53 = .ok (.newarray .int, 2) := by decide +kernel
theorem dFB_init_55 : decode cFB_init 55 = .ok (.putfield 27, 3) := by decide +kernel
theorem dFB_init_58 : decode cFB_init 58 = .ok (.aload_n 0, 1) := by decide +kernel
theorem dFB_init_59 : decode cFB_init 59 = .ok (.sipush 513, 3) := by decide +kernel
theorem dFB_init_62 : decode cFB_init 62 = .ok (.newarray .int, 2) := by decide +kernel
theorem dFB_init_64 : decode cFB_init 64 = .ok (.putfield 30, 3) := by decide +kernel
theorem dFB_init_67 : decode cFB_init 67 = .ok (.return_, 1) := by decide +kernel
theorem dFR_init_0 : decode cFR_init 0 = .ok (.aload_n 0, 1) := by decide +kernel
theorem dFR_init_1 : decode cFR_init 1 = .ok (.invokespecial 3, 3) := by decide +kernel
theorem dFR_init_4 : decode cFR_init 4 = .ok (.aload_n 0, 1) := by decide +kernel
theorem dFR_init_5 : decode cFR_init 5 = .ok (.sipush 2048, 3) := by decide +kernel
theorem dFR_init_8 : decode cFR_init 8 = .ok (.newarray .int, 2) := by decide +kernel
theorem dFR_init_10 : decode cFR_init 10 = .ok (.putfield 9, 3) := by decide +kernel
theorem dFR_init_13 : decode cFR_init 13 = .ok (.return_, 1) := by decide +kernel
theorem dFF_count_0 : decode cFF_count 0 = .ok (.iload_n 1, 1) := by decide +kernel
theorem dFF_count_1 : decode cFF_count 1 = .ok (.invokestatic 44, 3) := by decide +kernel
theorem dFF_count_4 : decode cFF_count 4 = .ok (.ifCond .eq 14, 3) := by decide +kernel
theorem dFF_count_7 : decode cFF_count 7 = .ok (.iload_n 2, 1) := by decide +kernel
theorem dFF_count_8 : decode cFF_count 8 = .ok (.ifCond .lt 10, 3) := by decide +kernel
theorem dFF_count_11 : decode cFF_count 11 = .ok (.iload_n 2, 1) := by decide +kernel
theorem dFF_count_12 : decode cFF_count 12 = .ok (.sipush 255, 3) := by decide +kernel
theorem dFF_count_15 : decode cFF_count 15 = .ok (.if_icmp .le 5, 3) := by decide +kernel
theorem dFF_count_18 : decode cFF_count 18 = .ok (.iconst 0, 1) := by decide +kernel
theorem dFF_count_19 : decode cFF_count 19 = .ok (.ireturn, 1) := by decide +kernel
theorem dFF_count_20 : decode cFF_count 20 = .ok (.aload_n 0, 1) := by decide +kernel
theorem dFF_count_21 : decode cFF_count 21 = .ok (.getfield 12, 3) := by decide +kernel
theorem dFF_count_24 : decode cFF_count 24 = .ok (.getfield 48, 3) := by decide +kernel
theorem dFF_count_27 : decode cFF_count 27 = .ok (.iload_n 1, 1) := by decide +kernel
theorem dFF_count_28 : decode cFF_count 28 = .ok (.iload_n 2, 1) := by decide +kernel
theorem dFF_count_29 : decode cFF_count 29 = .ok (.iastore, 1) := by decide +kernel
theorem dFF_count_30 : decode cFF_count 30 = .ok (.iconst 1, 1) := by decide +kernel
theorem dFF_count_31 : decode cFF_count 31 = .ok (.ireturn, 1) := by decide +kernel
theorem dFF_isWordLength_0 : decode cFF_isWordLength 0 = .ok (.iload_n 0, 1) := by decide +kernel
theorem dFF_isWordLength_1 : decode cFF_isWordLength 1 = .ok (.iconst 1, 1) := by decide +kernel
theorem dFF_isWordLength_2 : decode cFF_isWordLength 2 = .ok (.if_icmp .lt 13, 3) := by decide +kernel
theorem dFF_isWordLength_5 : decode cFF_isWordLength 5 = .ok (.iload_n 0, 1) := by decide +kernel
theorem dFF_isWordLength_6 : decode cFF_isWordLength 6 = .ok (.bipush 16, 2) := by decide +kernel
theorem dFF_isWordLength_8 : decode cFF_isWordLength 8 = .ok (.if_icmp .gt 7, 3) := by decide +kernel
theorem dFF_isWordLength_11 : decode cFF_isWordLength 11 = .ok (.iconst 1, 1) := by decide +kernel
theorem dFF_isWordLength_12 : decode cFF_isWordLength 12 = .ok (.goto 4, 3) := by decide +kernel
theorem dFF_isWordLength_15 : decode cFF_isWordLength 15 = .ok (.iconst 0, 1) := by decide +kernel
theorem dFF_isWordLength_16 : decode cFF_isWordLength 16 = .ok (.ireturn, 1) := by decide +kernel
theorem dFF_symbol_0 : decode cFF_symbol 0 = .ok (.iload_n 1, 1) := by decide +kernel
theorem dFF_symbol_1 : decode cFF_symbol 1 = .ok (.invokestatic 52, 3) := by decide +kernel
theorem dFF_symbol_4 : decode cFF_symbol 4 = .ok (.ifCond .eq 16, 3) := by decide +kernel
theorem dFF_symbol_7 : decode cFF_symbol 7 = .ok (.aload_n 0, 1) := by decide +kernel
theorem dFF_symbol_8 : decode cFF_symbol 8 = .ok (.getfield 12, 3) := by decide +kernel
theorem dFF_symbol_11 : decode cFF_symbol 11 = .ok (.getfield 55, 3) := by decide +kernel
theorem dFF_symbol_14 : decode cFF_symbol 14 = .ok (.sipush 256, 3) := by decide +kernel
theorem dFF_symbol_17 : decode cFF_symbol 17 = .ok (.if_icmp .lt 5, 3) := by decide +kernel
theorem dFF_symbol_20 : decode cFF_symbol 20 = .ok (.iconst (-1), 1) := by decide +kernel
theorem dFF_symbol_21 : decode cFF_symbol 21 = .ok (.ireturn, 1) := by decide +kernel
theorem dFF_symbol_22 : decode cFF_symbol 22 = .ok (.aload_n 0, 1) := by decide +kernel
theorem dFF_symbol_23 : decode cFF_symbol 23 = .ok (.getfield 12, 3) := by decide +kernel
theorem dFF_symbol_26 : decode cFF_symbol 26 = .ok (.getfield 59, 3) := by decide +kernel
theorem dFF_symbol_29 : decode cFF_symbol 29 = .ok (.aload_n 0, 1) := by decide +kernel
theorem dFF_symbol_30 : decode cFF_symbol 30 = .ok (.getfield 12, 3) := by decide +kernel
theorem dFF_symbol_33 : decode cFF_symbol 33 = .ok (.getfield 55, 3) := by decide +kernel
theorem dFF_symbol_36 : decode cFF_symbol 36 = .ok (.iload_n 1, 1) := by decide +kernel
theorem dFF_symbol_37 : decode cFF_symbol 37 = .ok (.iastore, 1) := by decide +kernel
theorem dFF_symbol_38 : decode cFF_symbol 38 = .ok (.aload_n 0, 1) := by decide +kernel
theorem dFF_symbol_39 : decode cFF_symbol 39 = .ok (.getfield 12, 3) := by decide +kernel
theorem dFF_symbol_42 : decode cFF_symbol 42 = .ok (.dup, 1) := by decide +kernel
theorem dFF_symbol_43 : decode cFF_symbol 43 = .ok (.getfield 55, 3) := by decide +kernel
theorem dFF_symbol_46 : decode cFF_symbol 46 = .ok (.iconst 1, 1) := by decide +kernel
theorem dFF_symbol_47 : decode cFF_symbol 47 = .ok (.iadd, 1) := by decide +kernel
theorem dFF_symbol_48 : decode cFF_symbol 48 = .ok (.putfield 55, 3) := by decide +kernel
theorem dFF_symbol_51 : decode cFF_symbol 51 = .ok (.aload_n 0, 1) := by decide +kernel
theorem dFF_symbol_52 : decode cFF_symbol 52 = .ok (.getfield 12, 3) := by decide +kernel
theorem dFF_symbol_55 : decode cFF_symbol 55 = .ok (.getfield 55, 3) := by decide +kernel
theorem dFF_symbol_58 : decode cFF_symbol 58 = .ok (.ireturn, 1) := by decide +kernel
theorem dFF_isSymbol_0 : decode cFF_isSymbol 0 = .ok (.iload_n 0, 1) := by decide +kernel
theorem dFF_isSymbol_1 : decode cFF_isSymbol 1 = .ok (.ifCond .lt 14, 3) := by decide +kernel
theorem dFF_isSymbol_4 : decode cFF_isSymbol 4 = .ok (.iload_n 0, 1) := by decide +kernel
theorem dFF_isSymbol_5 : decode cFF_isSymbol 5 = .ok (.sipush 256, 3) := by decide +kernel
theorem dFF_isSymbol_8 : decode cFF_isSymbol 8 = .ok (.if_icmp .ge 7, 3) := by decide +kernel
theorem dFF_isSymbol_11 : decode cFF_isSymbol 11 = .ok (.iconst 1, 1) := by decide +kernel
theorem dFF_isSymbol_12 : decode cFF_isSymbol 12 = .ok (.goto 4, 3) := by decide +kernel
theorem dFF_isSymbol_15 : decode cFF_isSymbol 15 = .ok (.iconst 0, 1) := by decide +kernel
theorem dFF_isSymbol_16 : decode cFF_isSymbol 16 = .ok (.ireturn, 1) := by decide +kernel
theorem dFF_wipe_0 : decode cFF_wipe 0 = .ok (.aload_n 0, 1) := by decide +kernel
theorem dFF_wipe_1 : decode cFF_wipe 1 = .ok (.getfield 12, 3) := by decide +kernel
theorem dFF_wipe_4 : decode cFF_wipe 4 = .ok (.invokevirtual 62, 3) := by decide +kernel
theorem dFF_wipe_7 : decode cFF_wipe 7 = .ok (.return_, 1) := by decide +kernel
theorem dFD_clear_0 : decode cFD_clear 0 = .ok (.aload_n 0, 1) := by decide +kernel
theorem dFD_clear_1 : decode cFD_clear 1 = .ok (.getfield 9, 3) := by decide +kernel
theorem dFD_clear_4 : decode cFD_clear 4 = .ok (.iconst 0, 1) := by decide +kernel
theorem dFD_clear_5 : decode cFD_clear 5 = .ok (.invokestatic 22, 3) := by decide +kernel
theorem dFD_clear_8 : decode cFD_clear 8 = .ok (.aload_n 0, 1) := by decide +kernel
theorem dFD_clear_9 : decode cFD_clear 9 = .ok (.iconst 0, 1) := by decide +kernel
theorem dFD_clear_10 : decode cFD_clear 10 = .ok (.putfield 28, 3) := by decide +kernel
theorem dFD_clear_13 : decode cFD_clear 13 = .ok (.return_, 1) := by decide +kernel
theorem dJA_fill_0 : decode cJA_fill 0 = .ok (.iconst 0, 1) := by decide +kernel
theorem dJA_fill_1 : decode cJA_fill 1 = .ok (.istore_n 2, 1) := by decide +kernel
theorem dJA_fill_2 : decode cJA_fill 2 = .ok (.aload_n 0, 1) := by decide +kernel
theorem dJA_fill_3 : decode cJA_fill 3 = .ok (.arraylength, 1) := by decide +kernel
theorem dJA_fill_4 : decode cJA_fill 4 = .ok (.istore_n 3, 1) := by decide +kernel
theorem dJA_fill_5 : decode cJA_fill 5 = .ok (.iload_n 2, 1) := by decide +kernel
theorem dJA_fill_6 : decode cJA_fill 6 = .ok (.iload_n 3, 1) := by decide +kernel
theorem dJA_fill_7 : decode cJA_fill 7 = .ok (.if_icmp .ge 13, 3) := by decide +kernel
theorem dJA_fill_10 : decode cJA_fill 10 = .ok (.aload_n 0, 1) := by decide +kernel
theorem dJA_fill_11 : decode cJA_fill 11 = .ok (.iload_n 2, 1) := by decide +kernel
theorem dJA_fill_12 : decode cJA_fill 12 = .ok (.iload_n 1, 1) := by decide +kernel
theorem dJA_fill_13 : decode cJA_fill 13 = .ok (.iastore, 1) := by decide +kernel
theorem dJA_fill_14 : decode cJA_fill 14 = .ok (.iinc 2 1, 3) := by decide +kernel
theorem dJA_fill_17 : decode cJA_fill 17 = .ok (.goto (-12), 3) := by decide +kernel
theorem dJA_fill_20 : decode cJA_fill 20 = .ok (.return_, 1) := by decide +kernel
theorem dFF_make_0 : decode cFF_make 0 = .ok (.aload_n 0, 1) := by decide +kernel
theorem dFF_make_1 : decode cFF_make 1 = .ok (.getfield 12, 3) := by decide +kernel
theorem dFF_make_4 : decode cFF_make 4 = .ok (.invokevirtual 65, 3) := by decide +kernel
theorem dFF_make_7 : decode cFF_make 7 = .ok (.istore_n 1, 1) := by decide +kernel
theorem dFF_make_8 : decode cFF_make 8 = .ok (.iload_n 1, 1) := by decide +kernel
theorem dFF_make_9 : decode cFF_make 9 = .ok (.ifCond .eq 5, 3) := by decide +kernel
theorem dFF_make_12 : decode cFF_make 12 = .ok (.iload_n 1, 1) := by decide +kernel
theorem dFF_make_13 : decode cFF_make 13 = .ok (.ireturn, 1) := by decide +kernel
theorem dFF_make_14 : decode cFF_make 14 = .ok (.aload_n 0, 1) := by decide +kernel
theorem dFF_make_15 : decode cFF_make 15 = .ok (.getfield 19, 3) := by decide +kernel
theorem dFF_make_18 : decode cFF_make 18 = .ok (.aload_n 0, 1) := by decide +kernel
theorem dFF_make_19 : decode cFF_make 19 = .ok (.getfield 12, 3) := by decide +kernel
theorem dFF_make_22 : decode cFF_make 22 = .ok (.getfield 48, 3) := by decide +kernel
theorem dFF_make_25 : decode cFF_make 25 = .ok (.aload_n 0, 1) := by decide +kernel
theorem dFF_make_26 : decode cFF_make 26 = .ok (.getfield 12, 3) := by decide +kernel
theorem dFF_make_29 : decode cFF_make 29 = .ok (.getfield 59, 3) := by decide +kernel
theorem dFF_make_32 : decode cFF_make 32 = .ok (.invokevirtual 69, 3) := by decide +kernel
theorem dFF_make_35 : decode cFF_make 35 = .ok (.aload_n 0, 1) := by decide +kernel
theorem dFF_make_36 : decode cFF_make 36 = .ok (.getfield 19, 3) := by decide +kernel
theorem dFF_make_39 : decode cFF_make 39 = .ok (.getfield 73, 3) := by decide +kernel
theorem dFF_make_42 : decode cFF_make 42 = .ok (.ireturn, 1) := by decide +kernel
theorem dFD_fault_0 : decode cFD_fault 0 = .ok (.aload_n 0, 1) := by decide +kernel
theorem dFD_fault_1 : decode cFD_fault 1 = .ok (.invokevirtual 32, 3) := by decide +kernel
theorem dFD_fault_4 : decode cFD_fault 4 = .ok (.aload_n 0, 1) := by decide +kernel
theorem dFD_fault_5 : decode cFD_fault 5 = .ok (.getfield 28, 3) := by decide +kernel
theorem dFD_fault_8 : decode cFD_fault 8 = .ok (.if_icmp .eq 5, 3) := by decide +kernel
theorem dFD_fault_11 : decode cFD_fault 11 = .ok (.iconst (-1), 1) := by decide +kernel
theorem dFD_fault_12 : decode cFD_fault 12 = .ok (.ireturn, 1) := by decide +kernel
theorem dFD_fault_13 : decode cFD_fault 13 = .ok (.aload_n 0, 1) := by decide +kernel
theorem dFD_fault_14 : decode cFD_fault 14 = .ok (.invokevirtual 36, 3) := by decide +kernel
theorem dFD_fault_17 : decode cFD_fault 17 = .ok (.ifCond .eq 6, 3) := by decide +kernel
theorem dFD_fault_20 : decode cFD_fault 20 = .ok (.bipush (-2), 2) := by decide +kernel
theorem dFD_fault_22 : decode cFD_fault 22 = .ok (.ireturn, 1) := by decide +kernel
theorem dFD_fault_23 : decode cFD_fault 23 = .ok (.aload_n 0, 1) := by decide +kernel
theorem dFD_fault_24 : decode cFD_fault 24 = .ok (.invokevirtual 40, 3) := by decide +kernel
theorem dFD_fault_27 : decode cFD_fault 27 = .ok (.ifCond .eq 8, 3) := by decide +kernel
theorem dFD_fault_30 : decode cFD_fault 30 = .ok (.bipush (-3), 2) := by decide +kernel
theorem dFD_fault_32 : decode cFD_fault 32 = .ok (.goto 4, 3) := by decide +kernel
theorem dFD_fault_35 : decode cFD_fault 35 = .ok (.iconst 0, 1) := by decide +kernel
theorem dFD_fault_36 : decode cFD_fault 36 = .ok (.ireturn, 1) := by decide +kernel
theorem dFD_sumOfCounts_0 : decode cFD_sumOfCounts 0 = .ok (.iconst 0, 1) := by decide +kernel
theorem dFD_sumOfCounts_1 : decode cFD_sumOfCounts 1 = .ok (.istore_n 1, 1) := by decide +kernel
theorem dFD_sumOfCounts_2 : decode cFD_sumOfCounts 2 = .ok (.iconst 1, 1) := by decide +kernel
theorem dFD_sumOfCounts_3 : decode cFD_sumOfCounts 3 = .ok (.istore_n 2, 1) := by decide +kernel
theorem dFD_sumOfCounts_4 : decode cFD_sumOfCounts 4 = .ok (.iload_n 2, 1) := by decide +kernel
theorem dFD_sumOfCounts_5 : decode cFD_sumOfCounts 5 = .ok (.bipush 16, 2) := by decide +kernel
theorem dFD_sumOfCounts_7 : decode cFD_sumOfCounts 7 = .ok (.if_icmp .gt 18, 3) := by decide +kernel
theorem dFD_sumOfCounts_10 : decode cFD_sumOfCounts 10 = .ok (.iload_n 1, 1) := by decide +kernel
theorem dFD_sumOfCounts_11 : decode cFD_sumOfCounts 11 = .ok (.aload_n 0, 1) := by decide +kernel
theorem dFD_sumOfCounts_12 : decode cFD_sumOfCounts 12 = .ok (.getfield 9, 3) := by decide +kernel
theorem dFD_sumOfCounts_15 : decode cFD_sumOfCounts 15 = .ok (.iload_n 2, 1) := by decide +kernel
theorem dFD_sumOfCounts_16 : decode cFD_sumOfCounts 16 = .ok (.iaload, 1) := by decide +kernel
theorem dFD_sumOfCounts_17 : decode cFD_sumOfCounts 17 = .ok (.iadd, 1) := by decide +kernel
theorem dFD_sumOfCounts_18 : decode cFD_sumOfCounts 18 = .ok (.istore_n 1, 1) := by decide +kernel
theorem dFD_sumOfCounts_19 : decode cFD_sumOfCounts 19 = .ok (.iinc 2 1, 3) := by decide +kernel
theorem dFD_sumOfCounts_22 : decode cFD_sumOfCounts 22 = .ok (.goto (-18), 3) := by decide +kernel
theorem dFD_sumOfCounts_25 : decode cFD_sumOfCounts 25 = .ok (.iload_n 1, 1) := by decide +kernel
theorem dFD_sumOfCounts_26 : decode cFD_sumOfCounts 26 = .ok (.ireturn, 1) := by decide +kernel
theorem dFD_hasSymbolTwice_0 : decode cFD_hasSymbolTwice 0 = .ok (.iconst 0, 1) := by decide +kernel
theorem dFD_hasSymbolTwice_1 : decode cFD_hasSymbolTwice 1 = .ok (.istore_n 1, 1) := by decide +kernel
theorem dFD_hasSymbolTwice_2 : decode cFD_hasSymbolTwice 2 = .ok (.iload_n 1, 1) := by decide +kernel
theorem dFD_hasSymbolTwice_3 : decode cFD_hasSymbolTwice 3 = .ok (.sipush 256, 3) := by decide +kernel
theorem dFD_hasSymbolTwice_6 : decode cFD_hasSymbolTwice 6 = .ok (.if_icmp .ge 16, 3) := by decide +kernel
theorem dFD_hasSymbolTwice_9 : decode cFD_hasSymbolTwice 9 = .ok (.aload_n 0, 1) := by decide +kernel
theorem dFD_hasSymbolTwice_10 : decode cFD_hasSymbolTwice 10 = .ok (.getfield 18, 3) := by decide +kernel
theorem dFD_hasSymbolTwice_13 : decode cFD_hasSymbolTwice 13 = .ok (.iload_n 1, 1) := by decide +kernel
theorem dFD_hasSymbolTwice_14 : decode cFD_hasSymbolTwice 14 = .ok (.iconst 0, 1) := by decide +kernel
theorem dFD_hasSymbolTwice_15 : decode cFD_hasSymbolTwice 15 = .ok (.bastore, 1) := by decide +kernel
theorem dFD_hasSymbolTwice_16 : decode cFD_hasSymbolTwice 16 = .ok (.iinc 1 1, 3) := by decide +kernel
theorem dFD_hasSymbolTwice_19 : decode cFD_hasSymbolTwice 19 = .ok (.goto (-17), 3) := by decide +kernel
theorem dFD_hasSymbolTwice_22 : decode cFD_hasSymbolTwice 22 = .ok (.iconst 0, 1) := by decide +kernel
theorem dFD_hasSymbolTwice_23 : decode cFD_hasSymbolTwice 23 = .ok (.istore_n 1, 1) := by decide +kernel
theorem dFD_hasSymbolTwice_24 : decode cFD_hasSymbolTwice 24 = .ok (.iload_n 1, 1) := by decide +kernel
theorem dFD_hasSymbolTwice_25 : decode cFD_hasSymbolTwice 25 = .ok (.aload_n 0, 1) := by decide +kernel
theorem dFD_hasSymbolTwice_26 : decode cFD_hasSymbolTwice 26 = .ok (.getfield 28, 3) := by decide +kernel
theorem dFD_hasSymbolTwice_29 : decode cFD_hasSymbolTwice 29 = .ok (.if_icmp .ge 37, 3) := by decide +kernel
theorem dFD_hasSymbolTwice_32 : decode cFD_hasSymbolTwice 32 = .ok (.aload_n 0, 1) := by decide +kernel
theorem dFD_hasSymbolTwice_33 : decode cFD_hasSymbolTwice 33 = .ok (.getfield 18, 3) := by decide +kernel
theorem dFD_hasSymbolTwice_36 : decode cFD_hasSymbolTwice 36 = .ok (.aload_n 0, 1) := by decide +kernel
theorem dFD_hasSymbolTwice_37 : decode cFD_hasSymbolTwice 37 = .ok (.getfield 15, 3) := by decide +kernel
theorem dFD_hasSymbolTwice_40 : decode cFD_hasSymbolTwice 40 = .ok (.iload_n 1, 1) := by decide +kernel
theorem dFD_hasSymbolTwice_41 : decode cFD_hasSymbolTwice 41 = .ok (.iaload, 1) := by decide +kernel
theorem dFD_hasSymbolTwice_42 : decode cFD_hasSymbolTwice 42 = .ok (.baload, 1) := by decide +kernel
theorem dFD_hasSymbolTwice_43 : decode cFD_hasSymbolTwice 43 = .ok (.ifCond .eq 5, 3) := by decide +kernel
theorem dFD_hasSymbolTwice_46 : decode cFD_hasSymbolTwice 46 = .ok (.iconst 1, 1) := by decide +kernel
theorem dFD_hasSymbolTwice_47 : decode cFD_hasSymbolTwice 47 = .ok (.ireturn, 1) := by decide +kernel
theorem dFD_hasSymbolTwice_48 : decode cFD_hasSymbolTwice 48 = .ok (.aload_n 0, 1) := by decide +kernel
theorem dFD_hasSymbolTwice_49 : decode cFD_hasSymbolTwice 49 = .ok (.getfield 18, 3) := by decide +kernel
theorem dFD_hasSymbolTwice_52 : decode cFD_hasSymbolTwice 52 = .ok (.aload_n 0, 1) := by decide +kernel
theorem dFD_hasSymbolTwice_53 : decode cFD_hasSymbolTwice 53 = .ok (.getfield 15, 3) := by decide +kernel
theorem dFD_hasSymbolTwice_56 : decode cFD_hasSymbolTwice 56 = .ok (.iload_n 1, 1) := by decide +kernel
theorem dFD_hasSymbolTwice_57 : decode cFD_hasSymbolTwice 57 = .ok (.iaload, 1) := by decide +kernel
theorem dFD_hasSymbolTwice_58 : decode cFD_hasSymbolTwice 58 = .ok (.iconst 1, 1) := by decide +kernel
theorem dFD_hasSymbolTwice_59 : decode cFD_hasSymbolTwice 59 = .ok (.bastore, 1) := by decide +kernel
theorem dFD_hasSymbolTwice_60 : decode cFD_hasSymbolTwice 60 = .ok (.iinc 1 1, 3) := by decide +kernel
theorem dFD_hasSymbolTwice_63 : decode cFD_hasSymbolTwice 63 = .ok (.goto (-39), 3) := by decide +kernel
theorem dFD_hasSymbolTwice_66 : decode cFD_hasSymbolTwice 66 = .ok (.iconst 0, 1) := by decide +kernel
theorem dFD_hasSymbolTwice_67 : decode cFD_hasSymbolTwice 67 = .ok (.ireturn, 1) := by decide +kernel
theorem dFD_hasWordTooGreat_0 : decode cFD_hasWordTooGreat 0 = .ok (.iconst 0, 1) := by decide +kernel
theorem dFD_hasWordTooGreat_1 : decode cFD_hasWordTooGreat 1 = .ok (.istore_n 1, 1) := by decide +kernel
theorem dFD_hasWordTooGreat_2 : decode cFD_hasWordTooGreat 2 = .ok (.iconst 1, 1) := by decide +kernel
theorem dFD_hasWordTooGreat_3 : decode cFD_hasWordTooGreat 3 = .ok (.istore_n 2, 1) := by decide +kernel
theorem dFD_hasWordTooGreat_4 : decode cFD_hasWordTooGreat 4 = .ok (.iload_n 2, 1) := by decide +kernel
theorem dFD_hasWordTooGreat_5 : decode cFD_hasWordTooGreat 5 = .ok (.bipush 16, 2) := by decide +kernel
theorem dFD_hasWordTooGreat_7 : decode cFD_hasWordTooGreat 7 = .ok (.if_icmp .gt 29, 3) := by decide +kernel
theorem dFD_hasWordTooGreat_10 : decode cFD_hasWordTooGreat 10 = .ok (.iconst 2, 1) := by decide +kernel
theorem dFD_hasWordTooGreat_11 : decode cFD_hasWordTooGreat 11 = .ok (.iload_n 1, 1) := by decide +kernel
theorem dFD_hasWordTooGreat_12 : decode cFD_hasWordTooGreat 12 = .ok (.imul, 1) := by decide +kernel
theorem dFD_hasWordTooGreat_13 : decode cFD_hasWordTooGreat 13 = .ok (.aload_n 0, 1) := by decide +kernel
theorem dFD_hasWordTooGreat_14 : decode cFD_hasWordTooGreat 14 = .ok (.getfield 9, 3) := by decide +kernel
theorem dFD_hasWordTooGreat_17 : decode cFD_hasWordTooGreat 17 = .ok (.iload_n 2, 1) := by decide +kernel
theorem dFD_hasWordTooGreat_18 : decode cFD_hasWordTooGreat 18 = .ok (.iaload, 1) := by decide +kernel
theorem dFD_hasWordTooGreat_19 : decode cFD_hasWordTooGreat 19 = .ok (.iadd, 1) := by decide +kernel
theorem dFD_hasWordTooGreat_20 : decode cFD_hasWordTooGreat 20 = .ok (.istore_n 1, 1) := by decide +kernel
theorem dFD_hasWordTooGreat_21 : decode cFD_hasWordTooGreat 21 = .ok (.iload_n 1, 1) := by decide +kernel
theorem dFD_hasWordTooGreat_22 : decode cFD_hasWordTooGreat 22 = .ok (.iconst 1, 1) := by decide +kernel
theorem dFD_hasWordTooGreat_23 : decode cFD_hasWordTooGreat 23 = .ok (.iload_n 2, 1) := by decide +kernel
theorem dFD_hasWordTooGreat_24 : decode cFD_hasWordTooGreat 24 = .ok (.ishl, 1) := by decide +kernel
theorem dFD_hasWordTooGreat_25 : decode cFD_hasWordTooGreat 25 = .ok (.if_icmp .lt 5, 3) := by decide +kernel
theorem dFD_hasWordTooGreat_28 : decode cFD_hasWordTooGreat 28 = .ok (.iconst 1, 1) := by decide +kernel
theorem dFD_hasWordTooGreat_29 : decode cFD_hasWordTooGreat 29 = .ok (.ireturn, 1) := by decide +kernel
theorem dFD_hasWordTooGreat_30 : decode cFD_hasWordTooGreat 30 = .ok (.iinc 2 1, 3) := by decide +kernel
theorem dFD_hasWordTooGreat_33 : decode cFD_hasWordTooGreat 33 = .ok (.goto (-29), 3) := by decide +kernel
theorem dFD_hasWordTooGreat_36 : decode cFD_hasWordTooGreat 36 = .ok (.iconst 0, 1) := by decide +kernel
theorem dFD_hasWordTooGreat_37 : decode cFD_hasWordTooGreat 37 = .ok (.ireturn, 1) := by decide +kernel
theorem dFT_become_0 : decode cFT_become 0 = .ok (.aload_n 0, 1) := by decide +kernel
theorem dFT_become_1 : decode cFT_become 1 = .ok (.getfield 18, 3) := by decide +kernel
theorem dFT_become_4 : decode cFT_become 4 = .ok (.iconst 0, 1) := by decide +kernel
theorem dFT_become_5 : decode cFT_become 5 = .ok (.invokestatic 24, 3) := by decide +kernel
theorem dFT_become_8 : decode cFT_become 8 = .ok (.aload_n 0, 1) := by decide +kernel
theorem dFT_become_9 : decode cFT_become 9 = .ok (.iconst 0, 1) := by decide +kernel
theorem dFT_become_10 : decode cFT_become 10 = .ok (.putfield 30, 3) := by decide +kernel
theorem dFT_become_13 : decode cFT_become 13 = .ok (.iconst 0, 1) := by decide +kernel
theorem dFT_become_14 : decode cFT_become 14 = .ok (.istore_n 3, 1) := by decide +kernel
theorem dFT_become_15 : decode cFT_become 15 = .ok (.iconst 1, 1) := by decide +kernel
theorem dFT_become_16 : decode cFT_become 16 = .ok (.istore 4, 2) := by decide +kernel
theorem dFT_become_18 : decode cFT_become 18 = .ok (.iload 4, 2) := by decide +kernel
theorem dFT_become_20 : decode cFT_become 20 = .ok (.bipush 16, 2) := by decide +kernel
theorem dFT_become_22 : decode cFT_become 22 = .ok (.if_icmp .gt 71, 3) := by decide +kernel
theorem dFT_become_25 : decode cFT_become 25 = .ok (.aload_n 0, 1) := by decide +kernel
theorem dFT_become_26 : decode cFT_become 26 = .ok (.getfield 9, 3) := by decide +kernel
theorem dFT_become_29 : decode cFT_become 29 = .ok (.iload 4, 2) := by decide +kernel
theorem dFT_become_31 : decode cFT_become 31 = .ok (.aload_n 1, 1) := by decide +kernel
theorem dFT_become_32 : decode cFT_become 32 = .ok (.iload 4, 2) := by decide +kernel
theorem dFT_become_34 : decode cFT_become 34 = .ok (.iaload, 1) := by decide +kernel
theorem dFT_become_35 : decode cFT_become 35 = .ok (.iastore, 1) := by decide +kernel
theorem dFT_become_36 : decode cFT_become 36 = .ok (.iconst 2, 1) := by decide +kernel
theorem dFT_become_37 : decode cFT_become 37 = .ok (.iload_n 3, 1) := by decide +kernel
theorem dFT_become_38 : decode cFT_become 38 = .ok (.imul, 1) := by decide +kernel
theorem dFT_become_39 : decode cFT_become 39 = .ok (.istore_n 3, 1) := by decide +kernel
theorem dFT_become_40 : decode cFT_become 40 = .ok (.iconst 0, 1) := by decide +kernel
theorem dFT_become_41 : decode cFT_become 41 = .ok (.istore 5, 2) := by decide +kernel
theorem dFT_become_43 : decode cFT_become 43 = .ok (.iload 5, 2) := by decide +kernel
theorem dFT_become_45 : decode cFT_become 45 = .ok (.aload_n 0, 1) := by decide +kernel
theorem dFT_become_46 : decode cFT_become 46 = .ok (.getfield 9, 3) := by decide +kernel
theorem dFT_become_49 : decode cFT_become 49 = .ok (.iload 4, 2) := by decide +kernel
theorem dFT_become_51 : decode cFT_become 51 = .ok (.iaload, 1) := by decide +kernel
theorem dFT_become_52 : decode cFT_become 52 = .ok (.if_icmp .ge 35, 3) := by decide +kernel
theorem dFT_become_55 : decode cFT_become 55 = .ok (.aload_n 0, 1) := by decide +kernel
theorem dFT_become_56 : decode cFT_become 56 = .ok (.getfield 30, 3) := by decide +kernel
theorem dFT_become_59 : decode cFT_become 59 = .ok (.sipush 256, 3) := by decide +kernel
theorem dFT_become_62 : decode cFT_become 62 = .ok (.if_icmp .ge 25, 3) := by decide +kernel
theorem dFT_become_65 : decode cFT_become 65 = .ok (.aload_n 0, 1) := by decide +kernel
theorem dFT_become_66 : decode cFT_become 66 = .ok (.aload_n 2, 1) := by decide +kernel
theorem dFT_become_67 : decode cFT_become 67 = .ok (.aload_n 0, 1) := by decide +kernel
theorem dFT_become_68 : decode cFT_become 68 = .ok (.getfield 30, 3) := by decide +kernel
theorem dFT_become_71 : decode cFT_become 71 = .ok (.iaload, 1) := by decide +kernel
theorem dFT_become_72 : decode cFT_become 72 = .ok (.iload 4, 2) := by decide +kernel
theorem dFT_become_74 : decode cFT_become 74 = .ok (.iload_n 3, 1) := by decide +kernel
theorem dFT_become_75 : decode cFT_become 75 = .ok (.invokevirtual 34, 3) := by decide +kernel
theorem dFT_become_78 : decode cFT_become 78 = .ok (.iinc 3 1, 3) := by decide +kernel
theorem dFT_become_81 : decode cFT_become 81 = .ok (.iinc 5 1, 3) := by decide +kernel
theorem dFT_become_84 : decode cFT_become 84 = .ok (.goto (-41), 3) := by decide +kernel
theorem dFT_become_87 : decode cFT_become 87 = .ok (.iinc 4 1, 3) := by decide +kernel
theorem dFT_become_90 : decode cFT_become 90 = .ok (.goto (-72), 3) := by decide +kernel
theorem dFT_become_93 : decode cFT_become 93 = .ok (.return_, 1) := by decide +kernel
theorem dFT_addWord_0 : decode cFT_addWord 0 = .ok (.aload_n 0, 1) := by decide +kernel
theorem dFT_addWord_1 : decode cFT_addWord 1 = .ok (.getfield 15, 3) := by decide +kernel
theorem dFT_addWord_4 : decode cFT_addWord 4 = .ok (.aload_n 0, 1) := by decide +kernel
theorem dFT_addWord_5 : decode cFT_addWord 5 = .ok (.getfield 30, 3) := by decide +kernel
theorem dFT_addWord_8 : decode cFT_addWord 8 = .ok (.iload_n 1, 1) := by decide +kernel
theorem dFT_addWord_9 : decode cFT_addWord 9 = .ok (.iastore, 1) := by decide +kernel
theorem dFT_addWord_10 : decode cFT_addWord 10 = .ok (.aload_n 0, 1) := by decide +kernel
theorem dFT_addWord_11 : decode cFT_addWord 11 = .ok (.getfield 18, 3) := by decide +kernel
theorem dFT_addWord_14 : decode cFT_addWord 14 = .ok (.iload_n 1, 1) := by decide +kernel
theorem dFT_addWord_15 : decode cFT_addWord 15 = .ok (.iload_n 2, 1) := by decide +kernel
theorem dFT_addWord_16 : decode cFT_addWord 16 = .ok (.iastore, 1) := by decide +kernel
theorem dFT_addWord_17 : decode cFT_addWord 17 = .ok (.aload_n 0, 1) := by decide +kernel
theorem dFT_addWord_18 : decode cFT_addWord 18 = .ok (.getfield 21, 3) := by decide +kernel
theorem dFT_addWord_21 : decode cFT_addWord 21 = .ok (.iload_n 1, 1) := by decide +kernel
theorem dFT_addWord_22 : decode cFT_addWord 22 = .ok (.iload_n 3, 1) := by decide +kernel
theorem dFT_addWord_23 : decode cFT_addWord 23 = .ok (.iastore, 1) := by decide +kernel
theorem dFT_addWord_24 : decode cFT_addWord 24 = .ok (.aload_n 0, 1) := by decide +kernel
theorem dFT_addWord_25 : decode cFT_addWord 25 = .ok (.dup, 1) := by decide +kernel
theorem dFT_addWord_26 : decode cFT_addWord 26 = .ok (.getfield 30, 3) := by decide +kernel
theorem dFT_addWord_29 : decode cFT_addWord 29 = .ok (.iconst 1, 1) := by decide +kernel
theorem dFT_addWord_30 : decode cFT_addWord 30 = .ok (.iadd, 1) := by decide +kernel
theorem dFT_addWord_31 : decode cFT_addWord 31 = .ok (.putfield 30, 3) := by decide +kernel
theorem dFT_addWord_34 : decode cFT_addWord 34 = .ok (.return_, 1) := by decide +kernel
theorem dFF_forget_0 : decode cFF_forget 0 = .ok (.aload_n 0, 1) := by decide +kernel
theorem dFF_forget_1 : decode cFF_forget 1 = .ok (.getfield 26, 3) := by decide +kernel
theorem dFF_forget_4 : decode cFF_forget 4 = .ok (.invokevirtual 99, 3) := by decide +kernel
theorem dFF_forget_7 : decode cFF_forget 7 = .ok (.return_, 1) := by decide +kernel
theorem dFY_clear_0 : decode cFY_clear 0 = .ok (.aload_n 0, 1) := by decide +kernel
theorem dFY_clear_1 : decode cFY_clear 1 = .ok (.getfield 9, 3) := by decide +kernel
theorem dFY_clear_4 : decode cFY_clear 4 = .ok (.iconst 0, 1) := by decide +kernel
theorem dFY_clear_5 : decode cFY_clear 5 = .ok (.invokestatic 19, 3) := by decide +kernel
theorem dFY_clear_8 : decode cFY_clear 8 = .ok (.aload_n 0, 1) := by decide +kernel
theorem dFY_clear_9 : decode cFY_clear 9 = .ok (.iconst 0, 1) := by decide +kernel
theorem dFY_clear_10 : decode cFY_clear 10 = .ok (.putfield 15, 3) := by decide +kernel
theorem dFY_clear_13 : decode cFY_clear 13 = .ok (.return_, 1) := by decide +kernel
theorem dFF_best_0 : decode cFF_best 0 = .ok (.aload_n 0, 1) := by decide +kernel
theorem dFF_best_1 : decode cFF_best 1 = .ok (.getfield 33, 3) := by decide +kernel
theorem dFF_best_4 : decode cFF_best 4 = .ok (.aload_n 0, 1) := by decide +kernel
theorem dFF_best_5 : decode cFF_best 5 = .ok (.getfield 26, 3) := by decide +kernel
theorem dFF_best_8 : decode cFF_best 8 = .ok (.getfield 96, 3) := by decide +kernel
theorem dFF_best_11 : decode cFF_best 11 = .ok (.invokevirtual 100, 3) := by decide +kernel
theorem dFF_best_14 : decode cFF_best 14 = .ok (.aload_n 0, 1) := by decide +kernel
theorem dFF_best_15 : decode cFF_best 15 = .ok (.getfield 19, 3) := by decide +kernel
theorem dFF_best_18 : decode cFF_best 18 = .ok (.aload_n 0, 1) := by decide +kernel
theorem dFF_best_19 : decode cFF_best 19 = .ok (.getfield 33, 3) := by decide +kernel
theorem dFF_best_22 : decode cFF_best 22 = .ok (.getfield 104, 3) := by decide +kernel
theorem dFF_best_25 : decode cFF_best 25 = .ok (.aload_n 0, 1) := by decide +kernel
theorem dFF_best_26 : decode cFF_best 26 = .ok (.getfield 33, 3) := by decide +kernel
theorem dFF_best_29 : decode cFF_best 29 = .ok (.getfield 105, 3) := by decide +kernel
theorem dFF_best_32 : decode cFF_best 32 = .ok (.invokevirtual 69, 3) := by decide +kernel
theorem dFF_best_35 : decode cFF_best 35 = .ok (.aload_n 0, 1) := by decide +kernel
theorem dFF_best_36 : decode cFF_best 36 = .ok (.getfield 19, 3) := by decide +kernel
theorem dFF_best_39 : decode cFF_best 39 = .ok (.aload_n 0, 1) := by decide +kernel
theorem dFF_best_40 : decode cFF_best 40 = .ok (.getfield 26, 3) := by decide +kernel
theorem dFF_best_43 : decode cFF_best 43 = .ok (.getfield 96, 3) := by decide +kernel
theorem dFF_best_46 : decode cFF_best 46 = .ok (.invokevirtual 106, 3) := by decide +kernel
theorem dFF_best_49 : decode cFF_best 49 = .ok (.lreturn, 1) := by decide +kernel
theorem dFB_find_0 : decode cFB_find 0 = .ok (.aload_n 0, 1) := by decide +kernel
theorem dFB_find_1 : decode cFB_find 1 = .ok (.getfield 9, 3) := by decide +kernel
theorem dFB_find_4 : decode cFB_find 4 = .ok (.iconst 0, 1) := by decide +kernel
theorem dFB_find_5 : decode cFB_find 5 = .ok (.invokestatic 33, 3) := by decide +kernel
theorem dFB_find_8 : decode cFB_find 8 = .ok (.aload_n 0, 1) := by decide +kernel
theorem dFB_find_9 : decode cFB_find 9 = .ok (.aload_n 1, 1) := by decide +kernel
theorem dFB_find_10 : decode cFB_find 10 = .ok (.invokevirtual 39, 3) := by decide +kernel
theorem dFB_find_13 : decode cFB_find 13 = .ok (.aload_n 0, 1) := by decide +kernel
theorem dFB_find_14 : decode cFB_find 14 = .ok (.getfield 43, 3) := by decide +kernel
theorem dFB_find_17 : decode cFB_find 17 = .ok (.iconst 2, 1) := by decide +kernel
theorem dFB_find_18 : decode cFB_find 18 = .ok (.if_icmp .ge 4, 3) := by decide +kernel
theorem dFB_find_21 : decode cFB_find 21 = .ok (.return_, 1) := by decide +kernel
theorem dFB_find_22 : decode cFB_find 22 = .ok (.aload_n 0, 1) := by decide +kernel
theorem dFB_find_23 : decode cFB_find 23 = .ok (.invokevirtual 47, 3) := by decide +kernel
theorem dFB_find_26 : decode cFB_find 26 = .ok (.aload_n 0, 1) := by decide +kernel
theorem dFB_find_27 : decode cFB_find 27 = .ok (.invokevirtual 50, 3) := by decide +kernel
theorem dFB_find_30 : decode cFB_find 30 = .ok (.aload_n 0, 1) := by decide +kernel
theorem dFB_find_31 : decode cFB_find 31 = .ok (.invokevirtual 53, 3) := by decide +kernel
theorem dFB_find_34 : decode cFB_find 34 = .ok (.aload_n 0, 1) := by decide +kernel
theorem dFB_find_35 : decode cFB_find 35 = .ok (.invokevirtual 56, 3) := by decide +kernel
theorem dFB_find_38 : decode cFB_find 38 = .ok (.aload_n 0, 1) := by decide +kernel
theorem dFB_find_39 : decode cFB_find 39 = .ok (.invokevirtual 59, 3) := by decide +kernel
theorem dFB_find_42 : decode cFB_find 42 = .ok (.aload_n 0, 1) := by decide +kernel
theorem dFB_find_43 : decode cFB_find 43 = .ok (.invokevirtual 62, 3) := by decide +kernel
theorem dFB_find_46 : decode cFB_find 46 = .ok (.return_, 1) := by decide +kernel
theorem dFB_startGroups_0 : decode cFB_startGroups 0 = .ok (.aload_n 0, 1) := by decide +kernel
theorem dFB_startGroups_1 : decode cFB_startGroups 1 = .ok (.iconst 0, 1) := by decide +kernel
theorem dFB_startGroups_2 : decode cFB_startGroups 2 = .ok (.putfield 43, 3) := by decide +kernel
theorem dFB_startGroups_5 : decode cFB_startGroups 5 = .ok (.iconst 0, 1) := by decide +kernel
theorem dFB_startGroups_6 : decode cFB_startGroups 6 = .ok (.istore_n 2, 1) := by decide +kernel
theorem dFB_startGroups_7 : decode cFB_startGroups 7 = .ok (.iload_n 2, 1) := by decide +kernel
theorem dFB_startGroups_8 : decode cFB_startGroups 8 = .ok (.sipush 257, 3) := by decide +kernel
theorem dFB_startGroups_11 : decode cFB_startGroups 11 = .ok (.if_icmp .ge 72, 3) := by decide +kernel
theorem dFB_startGroups_14 : decode cFB_startGroups 14 = .ok (.aload_n 0, 1) := by decide +kernel
theorem dFB_startGroups_15 : decode cFB_startGroups 15 = .ok (.getfield 18, 3) := by decide +kernel
theorem dFB_startGroups_18 : decode cFB_startGroups 18 = .ok (.iload_n 2, 1) := by decide +kernel
theorem dFB_startGroups_19 : decode cFB_startGroups 19 = .ok (.iload_n 2, 1) := by decide +kernel
theorem dFB_startGroups_20 : decode cFB_startGroups 20 = .ok (.sipush 256, 3) := by decide +kernel
theorem dFB_startGroups_23 : decode cFB_startGroups 23 = .ok (.if_icmp .ne 7, 3) := by decide +kernel
theorem dFB_startGroups_26 : decode cFB_startGroups 26 = .ok (.iconst 1, 1) := by decide +kernel
theorem dFB_startGroups_27 : decode cFB_startGroups 27 = .ok (.goto 6, 3) := by decide +kernel
theorem dFB_startGroups_30 : decode cFB_startGroups 30 = .ok (.aload_n 1, 1) := by decide +kernel
theorem dFB_startGroups_31 : decode cFB_startGroups 31 = .ok (.iload_n 2, 1) := by decide +kernel
theorem dFB_startGroups_32 : decode cFB_startGroups 32 = .ok (.iaload, 1) := by decide +kernel
theorem dFB_startGroups_33 : decode cFB_startGroups 33 = .ok (.iastore, 1) := by decide +kernel
theorem dFB_startGroups_34 : decode cFB_startGroups 34 = .ok (.aload_n 0, 1) := by decide +kernel
theorem dFB_startGroups_35 : decode cFB_startGroups 35 = .ok (.getfield 24, 3) := by decide +kernel
theorem dFB_startGroups_38 : decode cFB_startGroups 38 = .ok (.iload_n 2, 1) := by decide +kernel
theorem dFB_startGroups_39 : decode cFB_startGroups 39 = .ok (.iload_n 2, 1) := by decide +kernel
theorem dFB_startGroups_40 : decode cFB_startGroups 40 = .ok (.iastore, 1) := by decide +kernel
theorem dFB_startGroups_41 : decode cFB_startGroups 41 = .ok (.aload_n 0, 1) := by decide +kernel
theorem dFB_startGroups_42 : decode cFB_startGroups 42 = .ok (.getfield 30, 3) := by decide +kernel
theorem dFB_startGroups_45 : decode cFB_startGroups 45 = .ok (.iload_n 2, 1) := by decide +kernel
theorem dFB_startGroups_46 : decode cFB_startGroups 46 = .ok (.iconst 0, 1) := by decide +kernel
theorem dFB_startGroups_47 : decode cFB_startGroups 47 = .ok (.iastore, 1) := by decide +kernel
theorem dFB_startGroups_48 : decode cFB_startGroups 48 = .ok (.aload_n 0, 1) := by decide +kernel
theorem dFB_startGroups_49 : decode cFB_startGroups 49 = .ok (.getfield 18, 3) := by decide +kernel
theorem dFB_startGroups_52 : decode cFB_startGroups 52 = .ok (.iload_n 2, 1) := by decide +kernel
theorem dFB_startGroups_53 : decode cFB_startGroups 53 = .ok (.iaload, 1) := by decide +kernel
theorem dFB_startGroups_54 : decode cFB_startGroups 54 = .ok (.ifCond .le 23, 3) := by decide +kernel
theorem dFB_startGroups_57 : decode cFB_startGroups 57 = .ok (.aload_n 0, 1) := by decide +kernel
theorem dFB_startGroups_58 : decode cFB_startGroups 58 = .ok (.getfield 21, 3) := by decide +kernel
theorem dFB_startGroups_61 : decode cFB_startGroups 61 = .ok (.aload_n 0, 1) := by decide +kernel
theorem dFB_startGroups_62 : decode cFB_startGroups 62 = .ok (.getfield 43, 3) := by decide +kernel
theorem dFB_startGroups_65 : decode cFB_startGroups 65 = .ok (.iload_n 2, 1) := by decide +kernel
theorem dFB_startGroups_66 : decode cFB_startGroups 66 = .ok (.iastore, 1) := by decide +kernel
theorem dFB_startGroups_67 : decode cFB_startGroups 67 = .ok (.aload_n 0, 1) := by decide +kernel
theorem dFB_startGroups_68 : decode cFB_startGroups 68 = .ok (.dup, 1) := by decide +kernel
theorem dFB_startGroups_69 : decode cFB_startGroups 69 = .ok (.getfield 43, 3) := by decide +kernel
theorem dFB_startGroups_72 : decode cFB_startGroups 72 = .ok (.iconst 1, 1) := by decide +kernel
theorem dFB_startGroups_73 : decode cFB_startGroups 73 = .ok (.iadd, 1) := by decide +kernel
theorem dFB_startGroups_74 : decode cFB_startGroups 74 = .ok (.putfield 43, 3) := by decide +kernel
theorem dFB_startGroups_77 : decode cFB_startGroups 77 = .ok (.iinc 2 1, 3) := by decide +kernel
theorem dFB_startGroups_80 : decode cFB_startGroups 80 = .ok (.goto (-73), 3) := by decide +kernel
theorem dFB_startGroups_83 : decode cFB_startGroups 83 = .ok (.aload_n 0, 1) := by decide +kernel
theorem dFB_startGroups_84 : decode cFB_startGroups 84 = .ok (.sipush 257, 3) := by decide +kernel
theorem dFB_startGroups_87 : decode cFB_startGroups 87 = .ok (.putfield 65, 3) := by decide +kernel
theorem dFB_startGroups_90 : decode cFB_startGroups 90 = .ok (.return_, 1) := by decide +kernel
theorem dFB_joinGroups_0 : decode cFB_joinGroups 0 = .ok (.iconst 0, 1) := by decide +kernel
theorem dFB_joinGroups_1 : decode cFB_joinGroups 1 = .ok (.istore_n 1, 1) := by decide +kernel
theorem dFB_joinGroups_2 : decode cFB_joinGroups 2 = .ok (.iload_n 1, 1) := by decide +kernel
theorem dFB_joinGroups_3 : decode cFB_joinGroups 3 = .ok (.sipush 256, 3) := by decide +kernel
theorem dFB_joinGroups_6 : decode cFB_joinGroups 6 = .ok (.if_icmp .ge 112, 3) := by decide +kernel
theorem dFB_joinGroups_9 : decode cFB_joinGroups 9 = .ok (.aload_n 0, 1) := by decide +kernel
theorem dFB_joinGroups_10 : decode cFB_joinGroups 10 = .ok (.getfield 43, 3) := by decide +kernel
theorem dFB_joinGroups_13 : decode cFB_joinGroups 13 = .ok (.iconst 1, 1) := by decide +kernel
theorem dFB_joinGroups_14 : decode cFB_joinGroups 14 = .ok (.if_icmp .le 104, 3) := by decide +kernel
theorem dFB_joinGroups_17 : decode cFB_joinGroups 17 = .ok (.aload_n 0, 1) := by decide +kernel
theorem dFB_joinGroups_18 : decode cFB_joinGroups 18 = .ok (.invokevirtual 68, 3) := by decide +kernel
theorem dFB_joinGroups_21 : decode cFB_joinGroups 21 = .ok (.istore_n 2, 1) := by decide +kernel
theorem dFB_joinGroups_22 : decode cFB_joinGroups 22 = .ok (.aload_n 0, 1) := by decide +kernel
theorem dFB_joinGroups_23 : decode cFB_joinGroups 23 = .ok (.invokevirtual 68, 3) := by decide +kernel
theorem dFB_joinGroups_26 : decode cFB_joinGroups 26 = .ok (.istore_n 3, 1) := by decide +kernel
theorem dFB_joinGroups_27 : decode cFB_joinGroups 27 = .ok (.aload_n 0, 1) := by decide +kernel
theorem dFB_joinGroups_28 : decode cFB_joinGroups 28 = .ok (.getfield 27, 3) := by decide +kernel
theorem dFB_joinGroups_31 : decode cFB_joinGroups 31 = .ok (.aload_n 0, 1) := by decide +kernel
theorem dFB_joinGroups_32 : decode cFB_joinGroups 32 = .ok (.getfield 24, 3) := by decide +kernel
theorem dFB_joinGroups_35 : decode cFB_joinGroups 35 = .ok (.iload_n 2, 1) := by decide +kernel
theorem dFB_joinGroups_36 : decode cFB_joinGroups 36 = .ok (.iaload, 1) := by decide +kernel
theorem dFB_joinGroups_37 : decode cFB_joinGroups 37 = .ok (.aload_n 0, 1) := by decide +kernel
theorem dFB_joinGroups_38 : decode cFB_joinGroups 38 = .ok (.getfield 65, 3) := by decide +kernel
theorem dFB_joinGroups_41 : decode cFB_joinGroups 41 = .ok (.iastore, 1) := by decide +kernel
theorem dFB_joinGroups_42 : decode cFB_joinGroups 42 = .ok (.aload_n 0, 1) := by decide +kernel
theorem dFB_joinGroups_43 : decode cFB_joinGroups 43 = .ok (.getfield 27, 3) := by decide +kernel
theorem dFB_joinGroups_46 : decode cFB_joinGroups 46 = .ok (.aload_n 0, 1) := by decide +kernel
theorem dFB_joinGroups_47 : decode cFB_joinGroups 47 = .ok (.getfield 24, 3) := by decide +kernel
theorem dFB_joinGroups_50 : decode cFB_joinGroups 50 = .ok (.iload_n 3, 1) := by decide +kernel
theorem dFB_joinGroups_51 : decode cFB_joinGroups 51 = .ok (.iaload, 1) := by decide +kernel
theorem dFB_joinGroups_52 : decode cFB_joinGroups 52 = .ok (.aload_n 0, 1) := by decide +kernel
theorem dFB_joinGroups_53 : decode cFB_joinGroups 53 = .ok (.getfield 65, 3) := by decide +kernel
theorem dFB_joinGroups_56 : decode cFB_joinGroups 56 = .ok (.iastore, 1) := by decide +kernel
theorem dFB_joinGroups_57 : decode cFB_joinGroups 57 = .ok (.aload_n 0, 1) := by decide +kernel
theorem dFB_joinGroups_58 : decode cFB_joinGroups 58 = .ok (.getfield 24, 3) := by decide +kernel
theorem dFB_joinGroups_61 : decode cFB_joinGroups 61 = .ok (.iload_n 2, 1) := by decide +kernel
theorem dFB_joinGroups_62 : decode cFB_joinGroups 62 = .ok (.aload_n 0, 1) := by decide +kernel
theorem dFB_joinGroups_63 : decode cFB_joinGroups 63 = .ok (.getfield 65, 3) := by decide +kernel
theorem dFB_joinGroups_66 : decode cFB_joinGroups 66 = .ok (.iastore, 1) := by decide +kernel
theorem dFB_joinGroups_67 : decode cFB_joinGroups 67 = .ok (.aload_n 0, 1) := by decide +kernel
theorem dFB_joinGroups_68 : decode cFB_joinGroups 68 = .ok (.dup, 1) := by decide +kernel
theorem dFB_joinGroups_69 : decode cFB_joinGroups 69 = .ok (.getfield 65, 3) := by decide +kernel
theorem dFB_joinGroups_72 : decode cFB_joinGroups 72 = .ok (.iconst 1, 1) := by decide +kernel
theorem dFB_joinGroups_73 : decode cFB_joinGroups 73 = .ok (.iadd, 1) := by decide +kernel
theorem dFB_joinGroups_74 : decode cFB_joinGroups 74 = .ok (.putfield 65, 3) := by decide +kernel
theorem dFB_joinGroups_77 : decode cFB_joinGroups 77 = .ok (.aload_n 0, 1) := by decide +kernel
theorem dFB_joinGroups_78 : decode cFB_joinGroups 78 = .ok (.getfield 18, 3) := by decide +kernel
theorem dFB_joinGroups_81 : decode cFB_joinGroups 81 = .ok (.iload_n 2, 1) := by decide +kernel
theorem dFB_joinGroups_82 : decode cFB_joinGroups 82 = .ok (.dup2, 1) := by decide +kernel
theorem dFB_joinGroups_83 : decode cFB_joinGroups 83 = .ok (.iaload, 1) := by decide +kernel
theorem dFB_joinGroups_84 : decode cFB_joinGroups 84 = .ok (.aload_n 0, 1) := by decide +kernel
theorem dFB_joinGroups_85 : decode cFB_joinGroups 85 = .ok (.getfield 18, 3) := by decide +kernel
theorem dFB_joinGroups_88 : decode cFB_joinGroups 88 = .ok (.iload_n 3, 1) := by decide +kernel
theorem dFB_joinGroups_89 : decode cFB_joinGroups 89 = .ok (.iaload, 1) := by decide +kernel
theorem dFB_joinGroups_90 : decode cFB_joinGroups 90 = .ok (.iadd, 1) := by decide +kernel
theorem dFB_joinGroups_91 : decode cFB_joinGroups 91 = .ok (.iastore, 1) := by decide +kernel
theorem dFB_joinGroups_92 : decode cFB_joinGroups 92 = .ok (.aload_n 0, 1) := by decide +kernel
theorem dFB_joinGroups_93 : decode cFB_joinGroups 93 = .ok (.getfield 21, 3) := by decide +kernel
theorem dFB_joinGroups_96 : decode cFB_joinGroups 96 = .ok (.aload_n 0, 1) := by decide +kernel
theorem dFB_joinGroups_97 : decode cFB_joinGroups 97 = .ok (.getfield 43, 3) := by decide +kernel
theorem dFB_joinGroups_100 : decode cFB_joinGroups 100 = .ok (.iload_n 2, 1) := by decide +kernel
theorem dFB_joinGroups_101 : decode cFB_joinGroups 101 = .ok (.iastore, 1) := by decide +kernel
theorem dFB_joinGroups_102 : decode cFB_joinGroups 102 = .ok (.aload_n 0, 1) := by decide +kernel
theorem dFB_joinGroups_103 : decode cFB_joinGroups 103 = .ok (.dup, 1) := by decide +kernel
theorem dFB_joinGroups_104 : decode cFB_joinGroups 104 = .ok (.getfield 43, 3) := by decide +kernel
theorem dFB_joinGroups_107 : decode cFB_joinGroups 107 = .ok (.iconst 1, 1) := by decide +kernel
theorem dFB_joinGroups_108 : decode cFB_joinGroups 108 = .ok (.iadd, 1) := by decide +kernel
theorem dFB_joinGroups_109 : decode cFB_joinGroups 109 = .ok (.putfield 43, 3) := by decide +kernel
theorem dFB_joinGroups_112 : decode cFB_joinGroups 112 = .ok (.iinc 1 1, 3) := by decide +kernel
theorem dFB_joinGroups_115 : decode cFB_joinGroups 115 = .ok (.goto (-113), 3) := by decide +kernel
theorem dFB_joinGroups_118 : decode cFB_joinGroups 118 = .ok (.return_, 1) := by decide +kernel
theorem dFB_takeLeastGroup_0 : decode cFB_takeLeastGroup 0 = .ok (.iconst 0, 1) := by decide +kernel
theorem dFB_takeLeastGroup_1 : decode cFB_takeLeastGroup 1 = .ok (.istore_n 1, 1) := by decide +kernel
theorem dFB_takeLeastGroup_2 : decode cFB_takeLeastGroup 2 = .ok (.iconst 1, 1) := by decide +kernel
theorem dFB_takeLeastGroup_3 : decode cFB_takeLeastGroup 3 = .ok (.istore_n 2, 1) := by decide +kernel
theorem dFB_takeLeastGroup_4 : decode cFB_takeLeastGroup 4 = .ok (.iload_n 2, 1) := by decide +kernel
theorem dFB_takeLeastGroup_5 : decode cFB_takeLeastGroup 5 = .ok (.aload_n 0, 1) := by decide +kernel
theorem dFB_takeLeastGroup_6 : decode cFB_takeLeastGroup 6 = .ok (.getfield 43, 3) := by decide +kernel
theorem dFB_takeLeastGroup_9 : decode cFB_takeLeastGroup 9 = .ok (.if_icmp .ge 30, 3) := by decide +kernel
theorem dFB_takeLeastGroup_12 : decode cFB_takeLeastGroup 12 = .ok (.aload_n 0, 1) := by decide +kernel
theorem dFB_takeLeastGroup_13 : decode cFB_takeLeastGroup 13 = .ok (.aload_n 0, 1) := by decide +kernel
theorem dFB_takeLeastGroup_14 : decode cFB_takeLeastGroup 14 = .ok (.getfield 21, 3) := by decide +kernel
theorem dFB_takeLeastGroup_17 : decode cFB_takeLeastGroup 17 = .ok (.iload_n 2, 1) := by decide +kernel
theorem dFB_takeLeastGroup_18 : decode cFB_takeLeastGroup 18 = .ok (.iaload, 1) := by decide +kernel
theorem dFB_takeLeastGroup_19 : decode cFB_takeLeastGroup 19 = .ok (.aload_n 0, 1) := by decide +kernel
theorem dFB_takeLeastGroup_20 : decode cFB_takeLeastGroup 20 = .ok (.getfield 21, 3) := by decide +kernel
theorem dFB_takeLeastGroup_23 : decode cFB_takeLeastGroup 23 = .ok (.iload_n 1, 1) := by decide +kernel
theorem dFB_takeLeastGroup_24 : decode cFB_takeLeastGroup 24 = .ok (.iaload, 1) := by decide +kernel
theorem dFB_takeLeastGroup_25 : decode cFB_takeLeastGroup 25 = .ok (.invokevirtual 72, 3) := by decide +kernel
theorem dFB_takeLeastGroup_28 : decode cFB_takeLeastGroup 28 = .ok (.ifCond .eq 5, 3) := by decide +kernel
theorem dFB_takeLeastGroup_31 : decode cFB_takeLeastGroup 31 = .ok (.iload_n 2, 1) := by decide +kernel
theorem dFB_takeLeastGroup_32 : decode cFB_takeLeastGroup 32 = .ok (.istore_n 1, 1) := by decide +kernel
theorem dFB_takeLeastGroup_33 : decode cFB_takeLeastGroup 33 = .ok (.iinc 2 1, 3) := by decide +kernel
theorem dFB_takeLeastGroup_36 : decode cFB_takeLeastGroup 36 = .ok (.goto (-32), 3) := by decide +kernel
theorem dFB_takeLeastGroup_39 : decode cFB_takeLeastGroup 39 = .ok (.aload_n 0, 1) := by decide +kernel
theorem dFB_takeLeastGroup_40 : decode cFB_takeLeastGroup 40 = .ok (.getfield 21, 3) := by decide +kernel
theorem dFB_takeLeastGroup_43 : decode cFB_takeLeastGroup 43 = .ok (.iload_n 1, 1) := by decide +kernel
theorem dFB_takeLeastGroup_44 : decode cFB_takeLeastGroup 44 = .ok (.iaload, 1) := by decide +kernel
theorem dFB_takeLeastGroup_45 : decode cFB_takeLeastGroup 45 = .ok (.istore_n 2, 1) := by decide +kernel
theorem dFB_takeLeastGroup_46 : decode cFB_takeLeastGroup 46 = .ok (.aload_n 0, 1) := by decide +kernel
theorem dFB_takeLeastGroup_47 : decode cFB_takeLeastGroup 47 = .ok (.dup, 1) := by decide +kernel
theorem dFB_takeLeastGroup_48 : decode cFB_takeLeastGroup 48 = .ok (.getfield 43, 3) := by decide +kernel
theorem dFB_takeLeastGroup_51 : decode cFB_takeLeastGroup 51 = .ok (.iconst 1, 1) := by decide +kernel
theorem dFB_takeLeastGroup_52 : decode cFB_takeLeastGroup 52 = .ok (.isub, 1) := by decide +kernel
theorem dFB_takeLeastGroup_53 : decode cFB_takeLeastGroup 53 = .ok (.putfield 43, 3) := by decide +kernel
theorem dFB_takeLeastGroup_56 : decode cFB_takeLeastGroup 56 = .ok (.aload_n 0, 1) := by decide +kernel
theorem dFB_takeLeastGroup_57 : decode cFB_takeLeastGroup 57 = .ok (.getfield 21, 3) := by decide +kernel
theorem dFB_takeLeastGroup_60 : decode cFB_takeLeastGroup 60 = .ok (.iload_n 1, 1) := by decide +kernel
theorem dFB_takeLeastGroup_61 : decode cFB_takeLeastGroup 61 = .ok (.aload_n 0, 1) := by decide +kernel
theorem dFB_takeLeastGroup_62 : decode cFB_takeLeastGroup 62 = .ok (.getfield 21, 3) := by decide +kernel
theorem dFB_takeLeastGroup_65 : decode cFB_takeLeastGroup 65 = .ok (.aload_n 0, 1) := by decide +kernel
theorem dFB_takeLeastGroup_66 : decode cFB_takeLeastGroup 66 = .ok (.getfield 43, 3) := by decide +kernel
theorem dFB_takeLeastGroup_69 : decode cFB_takeLeastGroup 69 = .ok (.iaload, 1) := by decide +kernel
theorem dFB_takeLeastGroup_70 : decode cFB_takeLeastGroup 70 = .ok (.iastore, 1) := by decide +kernel
theorem dFB_takeLeastGroup_71 : decode cFB_takeLeastGroup 71 = .ok (.iload_n 2, 1) := by decide +kernel
theorem dFB_takeLeastGroup_72 : decode cFB_takeLeastGroup 72 = .ok (.ireturn, 1) := by decide +kernel
theorem dFB_comesBefore_0 : decode cFB_comesBefore 0 = .ok (.aload_n 0, 1) := by decide +kernel
theorem dFB_comesBefore_1 : decode cFB_comesBefore 1 = .ok (.getfield 18, 3) := by decide +kernel
theorem dFB_comesBefore_4 : decode cFB_comesBefore 4 = .ok (.iload_n 1, 1) := by decide +kernel
theorem dFB_comesBefore_5 : decode cFB_comesBefore 5 = .ok (.iaload, 1) := by decide +kernel
theorem dFB_comesBefore_6 : decode cFB_comesBefore 6 = .ok (.aload_n 0, 1) := by decide +kernel
theorem dFB_comesBefore_7 : decode cFB_comesBefore 7 = .ok (.getfield 18, 3) := by decide +kernel
theorem dFB_comesBefore_10 : decode cFB_comesBefore 10 = .ok (.iload_n 2, 1) := by decide +kernel
theorem dFB_comesBefore_11 : decode cFB_comesBefore 11 = .ok (.iaload, 1) := by decide +kernel
theorem dFB_comesBefore_12 : decode cFB_comesBefore 12 = .ok (.if_icmp .lt 23, 3) := by decide +kernel
theorem dFB_comesBefore_15 : decode cFB_comesBefore 15 = .ok (.aload_n 0, 1) := by decide +kernel
theorem dFB_comesBefore_16 : decode cFB_comesBefore 16 = .ok (.getfield 18, 3) := by decide +kernel
theorem dFB_comesBefore_19 : decode cFB_comesBefore 19 = .ok (.iload_n 1, 1) := by decide +kernel
theorem dFB_comesBefore_20 : decode cFB_comesBefore 20 = .ok (.iaload, 1) := by decide +kernel
theorem dFB_comesBefore_21 : decode cFB_comesBefore 21 = .ok (.aload_n 0, 1) := by decide +kernel
theorem dFB_comesBefore_22 : decode cFB_comesBefore 22 = .ok (.getfield 18, 3) := by decide +kernel
theorem dFB_comesBefore_25 : decode cFB_comesBefore 25 = .ok (.iload_n 2, 1) := by decide +kernel
theorem dFB_comesBefore_26 : decode cFB_comesBefore 26 = .ok (.iaload, 1) := by decide +kernel
theorem dFB_comesBefore_27 : decode cFB_comesBefore 27 = .ok (.if_icmp .ne 12, 3) := by decide +kernel
theorem dFB_comesBefore_30 : decode cFB_comesBefore 30 = .ok (.iload_n 1, 1) := by decide +kernel
theorem dFB_comesBefore_31 : decode cFB_comesBefore 31 = .ok (.iload_n 2, 1) := by decide +kernel
theorem dFB_comesBefore_32 : decode cFB_comesBefore 32 = .ok (.if_icmp .le 7, 3) := by decide +kernel
theorem dFB_comesBefore_35 : decode cFB_comesBefore 35 = .ok (.iconst 1, 1) := by decide +kernel
theorem dFB_comesBefore_36 : decode cFB_comesBefore 36 = .ok (.goto 4, 3) := by decide +kernel
theorem dFB_comesBefore_39 : decode cFB_comesBefore 39 = .ok (.iconst 0, 1) := by decide +kernel
theorem dFB_comesBefore_40 : decode cFB_comesBefore 40 = .ok (.ireturn, 1) := by decide +kernel
theorem dFB_measureDepths_0 : decode cFB_measureDepths 0 = .ok (.aload_n 0, 1) := by decide +kernel
theorem dFB_measureDepths_1 : decode cFB_measureDepths 1 = .ok (.getfield 30, 3) := by decide +kernel
theorem dFB_measureDepths_4 : decode cFB_measureDepths 4 = .ok (.aload_n 0, 1) := by decide +kernel
theorem dFB_measureDepths_5 : decode cFB_measureDepths 5 = .ok (.getfield 65, 3) := by decide +kernel
theorem dFB_measureDepths_8 : decode cFB_measureDepths 8 = .ok (.iconst 1, 1) := by decide +kernel
theorem dFB_measureDepths_9 : decode cFB_measureDepths 9 = .ok (.isub, 1) := by decide +kernel
theorem dFB_measureDepths_10 : decode cFB_measureDepths 10 = .ok (.iconst 0, 1) := by decide +kernel
theorem dFB_measureDepths_11 : decode cFB_measureDepths 11 = .ok (.iastore, 1) := by decide +kernel
theorem dFB_measureDepths_12 : decode cFB_measureDepths 12 = .ok (.aload_n 0, 1) := by decide +kernel
theorem dFB_measureDepths_13 : decode cFB_measureDepths 13 = .ok (.getfield 65, 3) := by decide +kernel
theorem dFB_measureDepths_16 : decode cFB_measureDepths 16 = .ok (.iconst 2, 1) := by decide +kernel
theorem dFB_measureDepths_17 : decode cFB_measureDepths 17 = .ok (.isub, 1) := by decide +kernel
theorem dFB_measureDepths_18 : decode cFB_measureDepths 18 = .ok (.istore_n 1, 1) := by decide +kernel
theorem dFB_measureDepths_19 : decode cFB_measureDepths 19 = .ok (.iload_n 1, 1) := by decide +kernel
theorem dFB_measureDepths_20 : decode cFB_measureDepths 20 = .ok (.ifCond .lt 44, 3) := by decide +kernel
theorem dFB_measureDepths_23 : decode cFB_measureDepths 23 = .ok (.iload_n 1, 1) := by decide +kernel
theorem dFB_measureDepths_24 : decode cFB_measureDepths 24 = .ok (.sipush 257, 3) := by decide +kernel
theorem dFB_measureDepths_27 : decode cFB_measureDepths 27 = .ok (.if_icmp .ge 12, 3) := by decide +kernel
theorem dFB_measureDepths_30 : decode cFB_measureDepths 30 = .ok (.aload_n 0, 1) := by decide +kernel
theorem dFB_measureDepths_31 : decode cFB_measureDepths 31 = .ok (.getfield 18, 3) := by decide +kernel
theorem dFB_measureDepths_34 : decode cFB_measureDepths 34 = .ok (.iload_n 1, 1) := by decide +kernel
theorem dFB_measureDepths_35 : decode cFB_measureDepths 35 = .ok (.iaload, 1) := by decide +kernel
theorem dFB_measureDepths_36 : decode cFB_measureDepths 36 = .ok (.ifCond .le 22, 3) := by decide +kernel
theorem dFB_measureDepths_39 : decode cFB_measureDepths 39 = .ok (.aload_n 0, 1) := by decide +kernel
theorem dFB_measureDepths_40 : decode cFB_measureDepths 40 = .ok (.getfield 30, 3) := by decide +kernel
theorem dFB_measureDepths_43 : decode cFB_measureDepths 43 = .ok (.iload_n 1, 1) := by decide +kernel
theorem dFB_measureDepths_44 : decode cFB_measureDepths 44 = .ok (.aload_n 0, 1) := by decide +kernel
theorem dFB_measureDepths_45 : decode cFB_measureDepths 45 = .ok (.getfield 30, 3) := by decide +kernel
theorem dFB_measureDepths_48 : decode cFB_measureDepths 48 = .ok (.aload_n 0, 1) := by decide +kernel
theorem dFB_measureDepths_49 : decode cFB_measureDepths 49 = .ok (.getfield 27, 3) := by decide +kernel
theorem dFB_measureDepths_52 : decode cFB_measureDepths 52 = .ok (.iload_n 1, 1) := by decide +kernel
theorem dFB_measureDepths_53 : decode cFB_measureDepths 53 = .ok (.iaload, 1) := by decide +kernel
theorem dFB_measureDepths_54 : decode cFB_measureDepths 54 = .ok (.iaload, 1) := by decide +kernel
theorem dFB_measureDepths_55 : decode cFB_measureDepths 55 = .ok (.iconst 1, 1) := by decide +kernel
theorem dFB_measureDepths_56 : decode cFB_measureDepths 56 = .ok (.iadd, 1) := by decide +kernel
theorem dFB_measureDepths_57 : decode cFB_measureDepths 57 = .ok (.iastore, 1) := by decide +kernel
theorem dFB_measureDepths_58 : decode cFB_measureDepths 58 = .ok (.iinc 1 (-1), 3) := by decide +kernel
theorem dFB_measureDepths_61 : decode cFB_measureDepths 61 = .ok (.goto (-42), 3) := by decide +kernel
theorem dFB_measureDepths_64 : decode cFB_measureDepths 64 = .ok (.return_, 1) := by decide +kernel
