theorem dLL_raw_0 : decode cLL_raw 0 = .ok (.aload_n 3, 1) := by decide +kernel
theorem dLL_raw_1 : decode cLL_raw 1 = .ok (.iconst 0, 1) := by decide +kernel
theorem dLL_raw_2 : decode cLL_raw 2 = .ok (.aload_n 0, 1) := by decide +kernel
theorem dLL_raw_3 : decode cLL_raw 3 = .ok (.iload_n 1, 1) := by decide +kernel
theorem dLL_raw_4 : decode cLL_raw 4 = .ok (.iload_n 2, 1) := by decide +kernel
theorem dLL_raw_5 : decode cLL_raw 5 = .ok (.invokevirtual 21, 3) := by decide +kernel
theorem dLL_raw_8 : decode cLL_raw 8 = .ok (.i2l, 1) := by decide +kernel
theorem dLL_raw_9 : decode cLL_raw 9 = .ok (.lastore, 1) := by decide +kernel
theorem dLL_raw_10 : decode cLL_raw 10 = .ok (.goto 11, 3) := by decide +kernel
theorem dLL_raw_13 : decode cLL_raw 13 = .ok (.astore 4, 2) := by decide +kernel
theorem dLL_raw_15 : decode cLL_raw 15 = .ok (.iconst 1, 1) := by decide +kernel
theorem dLL_raw_16 : decode cLL_raw 16 = .ok (.ireturn, 1) := by decide +kernel
theorem dLL_raw_17 : decode cLL_raw 17 = .ok (.astore 4, 2) := by decide +kernel
theorem dLL_raw_19 : decode cLL_raw 19 = .ok (.iconst 2, 1) := by decide +kernel
theorem dLL_raw_20 : decode cLL_raw 20 = .ok (.ireturn, 1) := by decide +kernel
theorem dLL_raw_21 : decode cLL_raw 21 = .ok (.iconst 0, 1) := by decide +kernel
theorem dLL_raw_22 : decode cLL_raw 22 = .ok (.ireturn, 1) := by decide +kernel
theorem dFF_raw_0 : decode cFF_raw 0 = .ok (.iload_n 2, 1) := by decide +kernel
theorem dFF_raw_1 : decode cFF_raw 1 = .ok (.invokestatic 132, 3) := by decide +kernel
theorem dFF_raw_4 : decode cFF_raw 4 = .ok (.ifCond .ne 13, 3) := by decide +kernel
theorem dFF_raw_7 : decode cFF_raw 7 = .ok (.new 74, 3) := by decide +kernel
theorem dFF_raw_10 : decode cFF_raw 10 = .ok (.dup, 1) := by decide +kernel
theorem dFF_raw_11 : decode cFF_raw 11 = .ok (.ldc 135, 2) := by decide +kernel
theorem dFF_raw_13 : decode cFF_raw 13 = .ok (.invokespecial 78, 3) := by decide +kernel
theorem dFF_raw_16 : decode cFF_raw 16 = .ok (.athrow, 1) := by decide +kernel
theorem dFF_raw_17 : decode cFF_raw 17 = .ok (.aload_n 0, 1) := by decide +kernel
theorem dFF_raw_18 : decode cFF_raw 18 = .ok (.getfield 40, 3) := by decide +kernel
theorem dFF_raw_21 : decode cFF_raw 21 = .ok (.iload_n 2, 1) := by decide +kernel
theorem dFF_raw_22 : decode cFF_raw 22 = .ok (.invokevirtual 123, 3) := by decide +kernel
theorem dFF_raw_25 : decode cFF_raw 25 = .ok (.ifCond .ne 13, 3) := by decide +kernel
theorem dFF_raw_28 : decode cFF_raw 28 = .ok (.new 87, 3) := by decide +kernel
theorem dFF_raw_31 : decode cFF_raw 31 = .ok (.dup, 1) := by decide +kernel
theorem dFF_raw_32 : decode cFF_raw 32 = .ok (.ldc 137, 2) := by decide +kernel
theorem dFF_raw_34 : decode cFF_raw 34 = .ok (.invokespecial 91, 3) := by decide +kernel
theorem dFF_raw_37 : decode cFF_raw 37 = .ok (.athrow, 1) := by decide +kernel
theorem dFF_raw_38 : decode cFF_raw 38 = .ok (.aload_n 0, 1) := by decide +kernel
theorem dFF_raw_39 : decode cFF_raw 39 = .ok (.getfield 40, 3) := by decide +kernel
theorem dFF_raw_42 : decode cFF_raw 42 = .ok (.iload_n 1, 1) := by decide +kernel
theorem dFF_raw_43 : decode cFF_raw 43 = .ok (.iload_n 2, 1) := by decide +kernel
theorem dFF_raw_44 : decode cFF_raw 44 = .ok (.invokevirtual 128, 3) := by decide +kernel
theorem dFF_raw_47 : decode cFF_raw 47 = .ok (.aload_n 0, 1) := by decide +kernel
theorem dFF_raw_48 : decode cFF_raw 48 = .ok (.getfield 40, 3) := by decide +kernel
theorem dFF_raw_51 : decode cFF_raw 51 = .ok (.getfield 131, 3) := by decide +kernel
theorem dFF_raw_54 : decode cFF_raw 54 = .ok (.ireturn, 1) := by decide +kernel
theorem dMM_init_0 : decode cMM_init 0 = .ok (.aload_n 0, 1) := by decide +kernel
theorem dMM_init_1 : decode cMM_init 1 = .ok (.invokespecial 1, 3) := by decide +kernel
theorem dMM_init_4 : decode cMM_init 4 = .ok (.aload_n 0, 1) := by decide +kernel
theorem dMM_init_5 : decode cMM_init 5 = .ok (.bipush 17, 2) := by decide +kernel
theorem dMM_init_7 : decode cMM_init 7 = .ok (.newarray .int, 2) := by decide +kernel
theorem dMM_init_9 : decode cMM_init 9 = .ok (.putfield 7, 3) := by decide +kernel
theorem dMM_init_12 : decode cMM_init 12 = .ok (.aload_n 0, 1) := by decide +kernel
theorem dMM_init_13 : decode cMM_init 13 = .ok (.sipush 256, 3) := by decide +kernel
theorem dMM_init_16 : decode cMM_init 16 = .ok (.newarray .int, 2) := by decide +kernel
theorem dMM_init_18 : decode cMM_init 18 = .ok (.putfield 13, 3) := by decide +kernel
theorem dMM_init_21 : decode cMM_init 21 = .ok (.aload_n 0, 1) := by decide +kernel
theorem dMM_init_22 : decode cMM_init 22 = .ok (.bipush 17, 2) := by decide +kernel
theorem dMM_init_24 : decode cMM_init 24 = .ok (.newarray .int, 2) := by decide +kernel
theorem dMM_init_26 : decode cMM_init 26 = .ok (.putfield 16, 3) := by decide +kernel
theorem dMM_init_29 : decode cMM_init 29 = .ok (.aload_n 0, 1) := by decide +kernel
theorem dMM_init_30 : decode cMM_init 30 = .ok (.sipush 256, 3) := by decide +kernel
theorem dMM_init_33 : decode cMM_init 33 = .ok (.newarray .int, 2) := by decide +kernel
theorem dMM_init_35 : decode cMM_init 35 = .ok (.putfield 19, 3) := by decide +kernel
theorem dMM_init_38 : decode cMM_init 38 = .ok (.aload_n 0, 1) := by decide +kernel
theorem dMM_init_39 : decode cMM_init 39 = .ok (.sipush 256, 3) := by decide +kernel
theorem dMM_init_42 : decode cMM_init 42 = .ok (.newarray .int, 2) := by decide +kernel
theorem dMM_init_44 : decode cMM_init 44 = .ok (.putfield 22, 3) := by decide +kernel
theorem dMM_init_47 : decode cMM_init 47 = .ok (.aload_n 0, 1) := by decide +kernel
theorem dMM_init_48 : decode cMM_init 48 = .ok (.sipush 256, 3) := by decide +kernel
theorem dMM_init_51 : decode cMM_init 51 = .ok (.newarray .int, 2) := by decide +kernel
theorem dMM_init_53 : decode cMM_init 53 = .ok (.putfield 25, 3) := by decide +kernel
theorem dMM_init_56 : decode cMM_init 56 = .ok (.aload_n 0, 1) := by decide +kernel
theorem dMM_init_57 : decode cMM_init 57 = .ok (.sipush 256, 3) := by decide +kernel
theorem dMM_init_60 : decode cMM_init 60 = .ok (.newarray .int, 2) := by decide +kernel
theorem dMM_init_62 : decode cMM_init 62 = .ok (.putfield 28, 3) := by decide +kernel
theorem dMM_init_65 : decode cMM_init 65 = .ok (.aload_n 0, 1) := by decide +kernel
theorem dMM_init_66 : decode cMM_init 66 = .ok (.ldc 31, 2) := by decide +kernel
theorem dMM_init_68 : decode cMM_init 68 = .ok (.newarray .byte, 2) := by decide +kernel
theorem dMM_init_70 : decode cMM_init 70 = .ok (.putfield 32, 3) := by decide +kernel
theorem dMM_init_73 : decode cMM_init 73 = .ok (.aload_n 0, 1) := by decide +kernel
theorem dMM_init_74 : decode cMM_init 74 = .ok (.sipush 257, 3) := by decide +kernel
theorem dMM_init_77 : decode cMM_init 77 = .ok (.newarray .int, 2) := by decide +kernel
theorem dMM_init_79 : decode cMM_init 79 = .ok (.putfield 36, 3) := by decide +kernel
theorem dMM_init_82 : decode cMM_init 82 = .ok (.aload_n 0, 1) := by decide +kernel
theorem dMM_init_83 : decode cMM_init 83 = .ok (.sipush 257, 3) := by decide +kernel
theorem dMM_init_86 : decode cMM_init 86 = .ok (.newarray .int, 2) := by decide +kernel
theorem dMM_init_88 : decode cMM_init 88 = .ok (.putfield 39, 3) := by decide +kernel
theorem dMM_init_91 : decode cMM_init 91 = .ok (.aload_n 0, 1) := by decide +kernel
theorem dMM_init_92 : decode cMM_init 92 = .ok (.sipush 257, 3) := by decide +kernel
theorem dMM_init_95 : decode cMM_init 95 = .ok (.newarray .int, 2) := by decide +kernel
theorem dMM_init_97 : decode cMM_init 97 = .ok (.putfield 42, 3) := by decide +kernel
theorem dMM_init_100 : decode cMM_init 100 = .ok (.aload_n 0, 1) := by decide +kernel
theorem dMM_init_101 : decode cMM_init 101 = .ok (.sipush 300, 3) := by decide +kernel
theorem dMM_init_104 : decode cMM_init 104 = .ok (.newarray .int, 2) := by decide +kernel
theorem dMM_init_106 : decode cMM_init 106 = .ok (.putfield 45, 3) := by decide +kernel
theorem dMM_init_109 : decode cMM_init 109 = .ok (.return_, 1) := by decide +kernel
theorem dMM_thrown_0 : decode cMM_thrown 0 = .ok (.aload_n 0, 1) := by decide +kernel
theorem dMM_thrown_1 : decode cMM_thrown 1 = .ok (.getfield 48, 3) := by decide +kernel
theorem dMM_thrown_4 : decode cMM_thrown 4 = .ok (.ireturn, 1) := by decide +kernel
theorem dMM_count_0 : decode cMM_count 0 = .ok (.aload_n 0, 1) := by decide +kernel
theorem dMM_count_1 : decode cMM_count 1 = .ok (.iconst 0, 1) := by decide +kernel
theorem dMM_count_2 : decode cMM_count 2 = .ok (.putfield 48, 3) := by decide +kernel
theorem dMM_count_5 : decode cMM_count 5 = .ok (.iload_n 1, 1) := by decide +kernel
theorem dMM_count_6 : decode cMM_count 6 = .ok (.iconst 1, 1) := by decide +kernel
theorem dMM_count_7 : decode cMM_count 7 = .ok (.if_icmp .lt 20, 3) := by decide +kernel
theorem dMM_count_10 : decode cMM_count 10 = .ok (.iload_n 1, 1) := by decide +kernel
theorem dMM_count_11 : decode cMM_count 11 = .ok (.bipush 16, 2) := by decide +kernel
theorem dMM_count_13 : decode cMM_count 13 = .ok (.if_icmp .gt 14, 3) := by decide +kernel
theorem dMM_count_16 : decode cMM_count 16 = .ok (.iload_n 2, 1) := by decide +kernel
theorem dMM_count_17 : decode cMM_count 17 = .ok (.ifCond .lt 10, 3) := by decide +kernel
theorem dMM_count_20 : decode cMM_count 20 = .ok (.iload_n 2, 1) := by decide +kernel
theorem dMM_count_21 : decode cMM_count 21 = .ok (.sipush 255, 3) := by decide +kernel
theorem dMM_count_24 : decode cMM_count 24 = .ok (.if_icmp .le 5, 3) := by decide +kernel
theorem dMM_count_27 : decode cMM_count 27 = .ok (.iconst 0, 1) := by decide +kernel
theorem dMM_count_28 : decode cMM_count 28 = .ok (.ireturn, 1) := by decide +kernel
theorem dMM_count_29 : decode cMM_count 29 = .ok (.aload_n 0, 1) := by decide +kernel
theorem dMM_count_30 : decode cMM_count 30 = .ok (.getfield 7, 3) := by decide +kernel
theorem dMM_count_33 : decode cMM_count 33 = .ok (.iload_n 1, 1) := by decide +kernel
theorem dMM_count_34 : decode cMM_count 34 = .ok (.iload_n 2, 1) := by decide +kernel
theorem dMM_count_35 : decode cMM_count 35 = .ok (.iastore, 1) := by decide +kernel
theorem dMM_count_36 : decode cMM_count 36 = .ok (.iconst 1, 1) := by decide +kernel
theorem dMM_count_37 : decode cMM_count 37 = .ok (.ireturn, 1) := by decide +kernel
theorem dMM_symbol_0 : decode cMM_symbol 0 = .ok (.aload_n 0, 1) := by decide +kernel
theorem dMM_symbol_1 : decode cMM_symbol 1 = .ok (.iconst 0, 1) := by decide +kernel
theorem dMM_symbol_2 : decode cMM_symbol 2 = .ok (.putfield 48, 3) := by decide +kernel
theorem dMM_symbol_5 : decode cMM_symbol 5 = .ok (.iload_n 1, 1) := by decide +kernel
theorem dMM_symbol_6 : decode cMM_symbol 6 = .ok (.invokestatic 52, 3) := by decide +kernel
theorem dMM_symbol_9 : decode cMM_symbol 9 = .ok (.ifCond .eq 13, 3) := by decide +kernel
theorem dMM_symbol_12 : decode cMM_symbol 12 = .ok (.aload_n 0, 1) := by decide +kernel
theorem dMM_symbol_13 : decode cMM_symbol 13 = .ok (.getfield 56, 3) := by decide +kernel
theorem dMM_symbol_16 : decode cMM_symbol 16 = .ok (.sipush 256, 3) := by decide +kernel
theorem dMM_symbol_19 : decode cMM_symbol 19 = .ok (.if_icmp .ne 5, 3) := by decide +kernel
theorem dMM_symbol_22 : decode cMM_symbol 22 = .ok (.iconst (-1), 1) := by decide +kernel
theorem dMM_symbol_23 : decode cMM_symbol 23 = .ok (.ireturn, 1) := by decide +kernel
theorem dMM_symbol_24 : decode cMM_symbol 24 = .ok (.aload_n 0, 1) := by decide +kernel
theorem dMM_symbol_25 : decode cMM_symbol 25 = .ok (.getfield 13, 3) := by decide +kernel
theorem dMM_symbol_28 : decode cMM_symbol 28 = .ok (.aload_n 0, 1) := by decide +kernel
theorem dMM_symbol_29 : decode cMM_symbol 29 = .ok (.getfield 56, 3) := by decide +kernel
theorem dMM_symbol_32 : decode cMM_symbol 32 = .ok (.iload_n 1, 1) := by decide +kernel
theorem dMM_symbol_33 : decode cMM_symbol 33 = .ok (.iastore, 1) := by decide +kernel
theorem dMM_symbol_34 : decode cMM_symbol 34 = .ok (.aload_n 0, 1) := by decide +kernel
theorem dMM_symbol_35 : decode cMM_symbol 35 = .ok (.dup, 1) := by decide +kernel
theorem dMM_symbol_36 : decode cMM_symbol 36 = .ok (.getfield 56, 3) := by decide +kernel
theorem dMM_symbol_39 : decode cMM_symbol 39 = .ok (.iconst 1, 1) := by decide +kernel
theorem dMM_symbol_40 : decode cMM_symbol 40 = .ok (.iadd, 1) := by decide +kernel
theorem dMM_symbol_41 : decode cMM_symbol 41 = .ok (.putfield 56, 3) := by decide +kernel
theorem dMM_symbol_44 : decode cMM_symbol 44 = .ok (.aload_n 0, 1) := by decide +kernel
theorem dMM_symbol_45 : decode cMM_symbol 45 = .ok (.getfield 56, 3) := by decide +kernel
theorem dMM_symbol_48 : decode cMM_symbol 48 = .ok (.ireturn, 1) := by decide +kernel
theorem dMM_isSymbol_0 : decode cMM_isSymbol 0 = .ok (.iload_n 0, 1) := by decide +kernel
theorem dMM_isSymbol_1 : decode cMM_isSymbol 1 = .ok (.ifCond .lt 14, 3) := by decide +kernel
theorem dMM_isSymbol_4 : decode cMM_isSymbol 4 = .ok (.iload_n 0, 1) := by decide +kernel
theorem dMM_isSymbol_5 : decode cMM_isSymbol 5 = .ok (.sipush 256, 3) := by decide +kernel
theorem dMM_isSymbol_8 : decode cMM_isSymbol 8 = .ok (.if_icmp .ge 7, 3) := by decide +kernel
theorem dMM_isSymbol_11 : decode cMM_isSymbol 11 = .ok (.iconst 1, 1) := by decide +kernel
theorem dMM_isSymbol_12 : decode cMM_isSymbol 12 = .ok (.goto 4, 3) := by decide +kernel
theorem dMM_isSymbol_15 : decode cMM_isSymbol 15 = .ok (.iconst 0, 1) := by decide +kernel
theorem dMM_isSymbol_16 : decode cMM_isSymbol 16 = .ok (.ireturn, 1) := by decide +kernel
theorem dMM_wipe_0 : decode cMM_wipe 0 = .ok (.aload_n 0, 1) := by decide +kernel
theorem dMM_wipe_1 : decode cMM_wipe 1 = .ok (.iconst 0, 1) := by decide +kernel
theorem dMM_wipe_2 : decode cMM_wipe 2 = .ok (.putfield 48, 3) := by decide +kernel
theorem dMM_wipe_5 : decode cMM_wipe 5 = .ok (.aload_n 0, 1) := by decide +kernel
theorem dMM_wipe_6 : decode cMM_wipe 6 = .ok (.iconst 0, 1) := by decide +kernel
theorem dMM_wipe_7 : decode cMM_wipe 7 = .ok (.putfield 56, 3) := by decide +kernel
theorem dMM_wipe_10 : decode cMM_wipe 10 = .ok (.iconst 0, 1) := by decide +kernel
theorem dMM_wipe_11 : decode cMM_wipe 11 = .ok (.istore_n 1, 1) := by decide +kernel
theorem dMM_wipe_12 : decode cMM_wipe 12 = .ok (.iload_n 1, 1) := by decide +kernel
theorem dMM_wipe_13 : decode cMM_wipe 13 = .ok (.bipush 17, 2) := by decide +kernel
theorem dMM_wipe_15 : decode cMM_wipe 15 = .ok (.if_icmp .ge 16, 3) := by decide +kernel
theorem dMM_wipe_18 : decode cMM_wipe 18 = .ok (.aload_n 0, 1) := by decide +kernel
theorem dMM_wipe_19 : decode cMM_wipe 19 = .ok (.getfield 7, 3) := by decide +kernel
theorem dMM_wipe_22 : decode cMM_wipe 22 = .ok (.iload_n 1, 1) := by decide +kernel
theorem dMM_wipe_23 : decode cMM_wipe 23 = .ok (.iconst 0, 1) := by decide +kernel
theorem dMM_wipe_24 : decode cMM_wipe 24 = .ok (.iastore, 1) := by decide +kernel
theorem dMM_wipe_25 : decode cMM_wipe 25 = .ok (.iinc 1 1, 3) := by decide +kernel
theorem dMM_wipe_28 : decode cMM_wipe 28 = .ok (.goto (-16), 3) := by decide +kernel
theorem dMM_wipe_31 : decode cMM_wipe 31 = .ok (.return_, 1) := by decide +kernel
theorem dMM_make_0 : decode cMM_make 0 = .ok (.aload_n 0, 1) := by decide +kernel
theorem dMM_make_1 : decode cMM_make 1 = .ok (.iconst 0, 1) := by decide +kernel
theorem dMM_make_2 : decode cMM_make 2 = .ok (.putfield 48, 3) := by decide +kernel
theorem dMM_make_5 : decode cMM_make 5 = .ok (.aload_n 0, 1) := by decide +kernel
theorem dMM_make_6 : decode cMM_make 6 = .ok (.invokevirtual 61, 3) := by decide +kernel
theorem dMM_make_9 : decode cMM_make 9 = .ok (.istore_n 1, 1) := by decide +kernel
theorem dMM_make_10 : decode cMM_make 10 = .ok (.iload_n 1, 1) := by decide +kernel
theorem dMM_make_11 : decode cMM_make 11 = .ok (.ifCond .ge 5, 3) := by decide +kernel
theorem dMM_make_14 : decode cMM_make 14 = .ok (.iload_n 1, 1) := by decide +kernel
theorem dMM_make_15 : decode cMM_make 15 = .ok (.ireturn, 1) := by decide +kernel
theorem dMM_make_16 : decode cMM_make 16 = .ok (.aload_n 0, 1) := by decide +kernel
theorem dMM_make_17 : decode cMM_make 17 = .ok (.aload_n 0, 1) := by decide +kernel
theorem dMM_make_18 : decode cMM_make 18 = .ok (.getfield 56, 3) := by decide +kernel
theorem dMM_make_21 : decode cMM_make 21 = .ok (.putfield 65, 3) := by decide +kernel
theorem dMM_make_24 : decode cMM_make 24 = .ok (.iconst 0, 1) := by decide +kernel
theorem dMM_make_25 : decode cMM_make 25 = .ok (.istore_n 2, 1) := by decide +kernel
theorem dMM_make_26 : decode cMM_make 26 = .ok (.iload_n 2, 1) := by decide +kernel
theorem dMM_make_27 : decode cMM_make 27 = .ok (.bipush 17, 2) := by decide +kernel
theorem dMM_make_29 : decode cMM_make 29 = .ok (.if_icmp .ge 21, 3) := by decide +kernel
theorem dMM_make_32 : decode cMM_make 32 = .ok (.aload_n 0, 1) := by decide +kernel
theorem dMM_make_33 : decode cMM_make 33 = .ok (.getfield 16, 3) := by decide +kernel
theorem dMM_make_36 : decode cMM_make 36 = .ok (.iload_n 2, 1) := by decide +kernel
theorem dMM_make_37 : decode cMM_make 37 = .ok (.aload_n 0, 1) := by decide +kernel
theorem dMM_make_38 : decode cMM_make 38 = .ok (.getfield 7, 3) := by decide +kernel
theorem dMM_make_41 : decode cMM_make 41 = .ok (.iload_n 2, 1) := by decide +kernel
theorem dMM_make_42 : decode cMM_make 42 = .ok (.iaload, 1) := by decide +kernel
theorem dMM_make_43 : decode cMM_make 43 = .ok (.iastore, 1) := by decide +kernel
theorem dMM_make_44 : decode cMM_make 44 = .ok (.iinc 2 1, 3) := by decide +kernel
theorem dMM_make_47 : decode cMM_make 47 = .ok (.goto (-21), 3) := by decide +kernel
theorem dMM_make_50 : decode cMM_make 50 = .ok (.iconst 0, 1) := by decide +kernel
theorem dMM_make_51 : decode cMM_make 51 = .ok (.istore_n 2, 1) := by decide +kernel
theorem dMM_make_52 : decode cMM_make 52 = .ok (.iload_n 2, 1) := by decide +kernel
theorem dMM_make_53 : decode cMM_make 53 = .ok (.aload_n 0, 1) := by decide +kernel
theorem dMM_make_54 : decode cMM_make 54 = .ok (.getfield 56, 3) := by decide +kernel
theorem dMM_make_57 : decode cMM_make 57 = .ok (.if_icmp .ge 21, 3) := by decide +kernel
theorem dMM_make_60 : decode cMM_make 60 = .ok (.aload_n 0, 1) := by decide +kernel
theorem dMM_make_61 : decode cMM_make 61 = .ok (.getfield 19, 3) := by decide +kernel
theorem dMM_make_64 : decode cMM_make 64 = .ok (.iload_n 2, 1) := by decide +kernel
theorem dMM_make_65 : decode cMM_make 65 = .ok (.aload_n 0, 1) := by decide +kernel
theorem dMM_make_66 : decode cMM_make 66 = .ok (.getfield 13, 3) := by decide +kernel
theorem dMM_make_69 : decode cMM_make 69 = .ok (.iload_n 2, 1) := by decide +kernel
theorem dMM_make_70 : decode cMM_make 70 = .ok (.iaload, 1) := by decide +kernel
theorem dMM_make_71 : decode cMM_make 71 = .ok (.iastore, 1) := by decide +kernel
theorem dMM_make_72 : decode cMM_make 72 = .ok (.iinc 2 1, 3) := by decide +kernel
theorem dMM_make_75 : decode cMM_make 75 = .ok (.goto (-23), 3) := by decide +kernel
theorem dMM_make_78 : decode cMM_make 78 = .ok (.aload_n 0, 1) := by decide +kernel
theorem dMM_make_79 : decode cMM_make 79 = .ok (.invokevirtual 68, 3) := by decide +kernel
theorem dMM_make_82 : decode cMM_make 82 = .ok (.aload_n 0, 1) := by decide +kernel
theorem dMM_make_83 : decode cMM_make 83 = .ok (.getfield 65, 3) := by decide +kernel
theorem dMM_make_86 : decode cMM_make 86 = .ok (.ireturn, 1) := by decide +kernel
theorem dMM_wrong_0 : decode cMM_wrong 0 = .ok (.iconst 0, 1) := by decide +kernel
theorem dMM_wrong_1 : decode cMM_wrong 1 = .ok (.istore_n 1, 1) := by decide +kernel
theorem dMM_wrong_2 : decode cMM_wrong 2 = .ok (.iconst 1, 1) := by decide +kernel
theorem dMM_wrong_3 : decode cMM_wrong 3 = .ok (.istore_n 2, 1) := by decide +kernel
theorem dMM_wrong_4 : decode cMM_wrong 4 = .ok (.iload_n 2, 1) := by decide +kernel
theorem dMM_wrong_5 : decode cMM_wrong 5 = .ok (.bipush 16, 2) := by decide +kernel
theorem dMM_wrong_7 : decode cMM_wrong 7 = .ok (.if_icmp .gt 18, 3) := by decide +kernel
theorem dMM_wrong_10 : decode cMM_wrong 10 = .ok (.iload_n 1, 1) := by decide +kernel
theorem dMM_wrong_11 : decode cMM_wrong 11 = .ok (.aload_n 0, 1) := by decide +kernel
theorem dMM_wrong_12 : decode cMM_wrong 12 = .ok (.getfield 7, 3) := by decide +kernel
theorem dMM_wrong_15 : decode cMM_wrong 15 = .ok (.iload_n 2, 1) := by decide +kernel
theorem dMM_wrong_16 : decode cMM_wrong 16 = .ok (.iaload, 1) := by decide +kernel
theorem dMM_wrong_17 : decode cMM_wrong 17 = .ok (.iadd, 1) := by decide +kernel
theorem dMM_wrong_18 : decode cMM_wrong 18 = .ok (.istore_n 1, 1) := by decide +kernel
theorem dMM_wrong_19 : decode cMM_wrong 19 = .ok (.iinc 2 1, 3) := by decide +kernel
theorem dMM_wrong_22 : decode cMM_wrong 22 = .ok (.goto (-18), 3) := by decide +kernel
theorem dMM_wrong_25 : decode cMM_wrong 25 = .ok (.iload_n 1, 1) := by decide +kernel
theorem dMM_wrong_26 : decode cMM_wrong 26 = .ok (.aload_n 0, 1) := by decide +kernel
theorem dMM_wrong_27 : decode cMM_wrong 27 = .ok (.getfield 56, 3) := by decide +kernel
theorem dMM_wrong_30 : decode cMM_wrong 30 = .ok (.if_icmp .eq 5, 3) := by decide +kernel
theorem dMM_wrong_33 : decode cMM_wrong 33 = .ok (.iconst (-1), 1) := by decide +kernel
theorem dMM_wrong_34 : decode cMM_wrong 34 = .ok (.ireturn, 1) := by decide +kernel
theorem dMM_wrong_35 : decode cMM_wrong 35 = .ok (.iconst 0, 1) := by decide +kernel
theorem dMM_wrong_36 : decode cMM_wrong 36 = .ok (.istore_n 2, 1) := by decide +kernel
theorem dMM_wrong_37 : decode cMM_wrong 37 = .ok (.iload_n 2, 1) := by decide +kernel
theorem dMM_wrong_38 : decode cMM_wrong 38 = .ok (.aload_n 0, 1) := by decide +kernel
theorem dMM_wrong_39 : decode cMM_wrong 39 = .ok (.getfield 56, 3) := by decide +kernel
theorem dMM_wrong_42 : decode cMM_wrong 42 = .ok (.if_icmp .ge 40, 3) := by decide +kernel
theorem dMM_wrong_45 : decode cMM_wrong 45 = .ok (.iconst 0, 1) := by decide +kernel
theorem dMM_wrong_46 : decode cMM_wrong 46 = .ok (.istore_n 3, 1) := by decide +kernel
theorem dMM_wrong_47 : decode cMM_wrong 47 = .ok (.iload_n 3, 1) := by decide +kernel
theorem dMM_wrong_48 : decode cMM_wrong 48 = .ok (.iload_n 2, 1) := by decide +kernel
theorem dMM_wrong_49 : decode cMM_wrong 49 = .ok (.if_icmp .ge 27, 3) := by decide +kernel
theorem dMM_wrong_52 : decode cMM_wrong 52 = .ok (.aload_n 0, 1) := by decide +kernel
theorem dMM_wrong_53 : decode cMM_wrong 53 = .ok (.getfield 13, 3) := by decide +kernel
theorem dMM_wrong_56 : decode cMM_wrong 56 = .ok (.iload_n 2, 1) := by decide +kernel
theorem dMM_wrong_57 : decode cMM_wrong 57 = .ok (.iaload, 1) := by decide +kernel
theorem dMM_wrong_58 : decode cMM_wrong 58 = .ok (.aload_n 0, 1) := by decide +kernel
theorem dMM_wrong_59 : decode cMM_wrong 59 = .ok (.getfield 13, 3) := by decide +kernel
theorem dMM_wrong_62 : decode cMM_wrong 62 = .ok (.iload_n 3, 1) := by decide +kernel
theorem dMM_wrong_63 : decode cMM_wrong 63 = .ok (.iaload, 1) := by decide +kernel
theorem dMM_wrong_64 : decode cMM_wrong 64 = .ok (.if_icmp .ne 6, 3) := by decide +kernel
theorem dMM_wrong_67 : decode cMM_wrong 67 = .ok (.bipush (-2), 2) := by decide +kernel
theorem dMM_wrong_69 : decode cMM_wrong 69 = .ok (.ireturn, 1) := by decide +kernel
theorem dMM_wrong_70 : decode cMM_wrong 70 = .ok (.iinc 3 1, 3) := by decide +kernel
theorem dMM_wrong_73 : decode cMM_wrong 73 = .ok (.goto (-26), 3) := by decide +kernel
theorem dMM_wrong_76 : decode cMM_wrong 76 = .ok (.iinc 2 1, 3) := by decide +kernel
theorem dMM_wrong_79 : decode cMM_wrong 79 = .ok (.goto (-42), 3) := by decide +kernel
theorem dMM_wrong_82 : decode cMM_wrong 82 = .ok (.lconst 0, 1) := by decide +kernel
theorem dMM_wrong_83 : decode cMM_wrong 83 = .ok (.lstore_n 2, 1) := by decide +kernel
theorem dMM_wrong_84 : decode cMM_wrong 84 = .ok (.iconst 1, 1) := by decide +kernel
theorem dMM_wrong_85 : decode cMM_wrong 85 = .ok (.istore 4, 2) := by decide +kernel
theorem dMM_wrong_87 : decode cMM_wrong 87 = .ok (.iload 4, 2) := by decide +kernel
theorem dMM_wrong_89 : decode cMM_wrong 89 = .ok (.bipush 16, 2) := by decide +kernel
theorem dMM_wrong_91 : decode cMM_wrong 91 = .ok (.if_icmp .gt 54, 3) := by decide +kernel
theorem dMM_wrong_94 : decode cMM_wrong 94 = .ok (.lload_n 2, 1) := by decide +kernel
theorem dMM_wrong_95 : decode cMM_wrong 95 = .ok (.ldc2_w 59, 3) := by decide +kernel
theorem dMM_wrong_98 : decode cMM_wrong 98 = .ok (.lmul, 1) := by decide +kernel
theorem dMM_wrong_99 : decode cMM_wrong 99 = .ok (.lstore_n 2, 1) := by decide +kernel
theorem dMM_wrong_100 : decode cMM_wrong 100 = .ok (.iconst 0, 1) := by decide +kernel
theorem dMM_wrong_101 : decode cMM_wrong 101 = .ok (.istore 5, 2) := by decide +kernel
theorem dMM_wrong_103 : decode cMM_wrong 103 = .ok (.iload 5, 2) := by decide +kernel
theorem dMM_wrong_105 : decode cMM_wrong 105 = .ok (.aload_n 0, 1) := by decide +kernel
theorem dMM_wrong_106 : decode cMM_wrong 106 = .ok (.getfield 7, 3) := by decide +kernel
theorem dMM_wrong_109 : decode cMM_wrong 109 = .ok (.iload 4, 2) := by decide +kernel
theorem dMM_wrong_111 : decode cMM_wrong 111 = .ok (.iaload, 1) := by decide +kernel
theorem dMM_wrong_112 : decode cMM_wrong 112 = .ok (.if_icmp .ge 27, 3) := by decide +kernel
theorem dMM_wrong_115 : decode cMM_wrong 115 = .ok (.lload_n 2, 1) := by decide +kernel
theorem dMM_wrong_116 : decode cMM_wrong 116 = .ok (.lconst 1, 1) := by decide +kernel
theorem dMM_wrong_117 : decode cMM_wrong 117 = .ok (.iload 4, 2) := by decide +kernel
theorem dMM_wrong_119 : decode cMM_wrong 119 = .ok (.lshl, 1) := by decide +kernel
theorem dMM_wrong_120 : decode cMM_wrong 120 = .ok (.lconst 1, 1) := by decide +kernel
theorem dMM_wrong_121 : decode cMM_wrong 121 = .ok (.lsub, 1) := by decide +kernel
theorem dMM_wrong_122 : decode cMM_wrong 122 = .ok (.lcmp, 1) := by decide +kernel
theorem dMM_wrong_123 : decode cMM_wrong 123 = .ok (.ifCond .lt 6, 3) := by decide +kernel
theorem dMM_wrong_126 : decode cMM_wrong 126 = .ok (.bipush (-3), 2) := by decide +kernel
theorem dMM_wrong_128 : decode cMM_wrong 128 = .ok (.ireturn, 1) := by decide +kernel
theorem dMM_wrong_129 : decode cMM_wrong 129 = .ok (.lload_n 2, 1) := by decide +kernel
theorem dMM_wrong_130 : decode cMM_wrong 130 = .ok (.lconst 1, 1) := by decide +kernel
theorem dMM_wrong_131 : decode cMM_wrong 131 = .ok (.ladd, 1) := by decide +kernel
theorem dMM_wrong_132 : decode cMM_wrong 132 = .ok (.lstore_n 2, 1) := by decide +kernel
theorem dMM_wrong_133 : decode cMM_wrong 133 = .ok (.iinc 5 1, 3) := by decide +kernel
theorem dMM_wrong_136 : decode cMM_wrong 136 = .ok (.goto (-33), 3) := by decide +kernel
theorem dMM_wrong_139 : decode cMM_wrong 139 = .ok (.iinc 4 1, 3) := by decide +kernel
theorem dMM_wrong_142 : decode cMM_wrong 142 = .ok (.goto (-55), 3) := by decide +kernel
theorem dMM_wrong_145 : decode cMM_wrong 145 = .ok (.iconst 0, 1) := by decide +kernel
theorem dMM_wrong_146 : decode cMM_wrong 146 = .ok (.ireturn, 1) := by decide +kernel
theorem dMM_giveWords_0 : decode cMM_giveWords 0 = .ok (.iconst 0, 1) := by decide +kernel
theorem dMM_giveWords_1 : decode cMM_giveWords 1 = .ok (.istore_n 1, 1) := by decide +kernel
theorem dMM_giveWords_2 : decode cMM_giveWords 2 = .ok (.iload_n 1, 1) := by decide +kernel
theorem dMM_giveWords_3 : decode cMM_giveWords 3 = .ok (.sipush 256, 3) := by decide +kernel
theorem dMM_giveWords_6 : decode cMM_giveWords 6 = .ok (.if_icmp .ge 23, 3) := by decide +kernel
theorem dMM_giveWords_9 : decode cMM_giveWords 9 = .ok (.aload_n 0, 1) := by decide +kernel
theorem dMM_giveWords_10 : decode cMM_giveWords 10 = .ok (.getfield 22, 3) := by decide +kernel
theorem dMM_giveWords_13 : decode cMM_giveWords 13 = .ok (.iload_n 1, 1) := by decide +kernel
theorem dMM_giveWords_14 : decode cMM_giveWords 14 = .ok (.iconst 0, 1) := by decide +kernel
theorem dMM_giveWords_15 : decode cMM_giveWords 15 = .ok (.iastore, 1) := by decide +kernel
theorem dMM_giveWords_16 : decode cMM_giveWords 16 = .ok (.aload_n 0, 1) := by decide +kernel
theorem dMM_giveWords_17 : decode cMM_giveWords 17 = .ok (.getfield 25, 3) := by decide +kernel
theorem dMM_giveWords_20 : decode cMM_giveWords 20 = .ok (.iload_n 1, 1) := by decide +kernel
theorem dMM_giveWords_21 : decode cMM_giveWords 21 = .ok (.iconst (-1), 1) := by decide +kernel
theorem dMM_giveWords_22 : decode cMM_giveWords 22 = .ok (.iastore, 1) := by decide +kernel
theorem dMM_giveWords_23 : decode cMM_giveWords 23 = .ok (.iinc 1 1, 3) := by decide +kernel
theorem dMM_giveWords_26 : decode cMM_giveWords 26 = .ok (.goto (-24), 3) := by decide +kernel
theorem dMM_giveWords_29 : decode cMM_giveWords 29 = .ok (.iconst 0, 1) := by decide +kernel
theorem dMM_giveWords_30 : decode cMM_giveWords 30 = .ok (.istore_n 1, 1) := by decide +kernel
theorem dMM_giveWords_31 : decode cMM_giveWords 31 = .ok (.iconst 0, 1) := by decide +kernel
theorem dMM_giveWords_32 : decode cMM_giveWords 32 = .ok (.istore_n 2, 1) := by decide +kernel
theorem dMM_giveWords_33 : decode cMM_giveWords 33 = .ok (.iconst 1, 1) := by decide +kernel
theorem dMM_giveWords_34 : decode cMM_giveWords 34 = .ok (.istore_n 3, 1) := by decide +kernel
theorem dMM_giveWords_35 : decode cMM_giveWords 35 = .ok (.iload_n 3, 1) := by decide +kernel
theorem dMM_giveWords_36 : decode cMM_giveWords 36 = .ok (.bipush 16, 2) := by decide +kernel
theorem dMM_giveWords_38 : decode cMM_giveWords 38 = .ok (.if_icmp .gt 63, 3) := by decide +kernel
theorem dMM_giveWords_41 : decode cMM_giveWords 41 = .ok (.iload_n 1, 1) := by decide +kernel
theorem dMM_giveWords_42 : decode cMM_giveWords 42 = .ok (.iconst 2, 1) := by decide +kernel
theorem dMM_giveWords_43 : decode cMM_giveWords 43 = .ok (.imul, 1) := by decide +kernel
theorem dMM_giveWords_44 : decode cMM_giveWords 44 = .ok (.istore_n 1, 1) := by decide +kernel
theorem dMM_giveWords_45 : decode cMM_giveWords 45 = .ok (.iconst 0, 1) := by decide +kernel
theorem dMM_giveWords_46 : decode cMM_giveWords 46 = .ok (.istore 4, 2) := by decide +kernel
theorem dMM_giveWords_48 : decode cMM_giveWords 48 = .ok (.iload 4, 2) := by decide +kernel
theorem dMM_giveWords_50 : decode cMM_giveWords 50 = .ok (.aload_n 0, 1) := by decide +kernel
theorem dMM_giveWords_51 : decode cMM_giveWords 51 = .ok (.getfield 16, 3) := by decide +kernel
theorem dMM_giveWords_54 : decode cMM_giveWords 54 = .ok (.iload_n 3, 1) := by decide +kernel
theorem dMM_giveWords_55 : decode cMM_giveWords 55 = .ok (.iaload, 1) := by decide +kernel
theorem dMM_giveWords_56 : decode cMM_giveWords 56 = .ok (.if_icmp .ge 39, 3) := by decide +kernel
theorem dMM_giveWords_59 : decode cMM_giveWords 59 = .ok (.aload_n 0, 1) := by decide +kernel
theorem dMM_giveWords_60 : decode cMM_giveWords 60 = .ok (.getfield 22, 3) := by decide +kernel
theorem dMM_giveWords_63 : decode cMM_giveWords 63 = .ok (.aload_n 0, 1) := by decide +kernel
theorem dMM_giveWords_64 : decode cMM_giveWords 64 = .ok (.getfield 19, 3) := by decide +kernel
theorem dMM_giveWords_67 : decode cMM_giveWords 67 = .ok (.iload_n 2, 1) := by decide +kernel
theorem dMM_giveWords_68 : decode cMM_giveWords 68 = .ok (.iaload, 1) := by decide +kernel
theorem dMM_giveWords_69 : decode cMM_giveWords 69 = .ok (.iload_n 3, 1) := by decide +kernel
theorem dMM_giveWords_70 : decode cMM_giveWords 70 = .ok (.iastore, 1) := by decide +kernel
theorem dMM_giveWords_71 : decode cMM_giveWords 71 = .ok (.aload_n 0, 1) := by decide +kernel
theorem dMM_giveWords_72 : decode cMM_giveWords 72 = .ok (.getfield 25, 3) := by decide +kernel
theorem dMM_giveWords_75 : decode cMM_giveWords 75 = .ok (.aload_n 0, 1) := by decide +kernel
theorem dMM_giveWords_76 : decode cMM_giveWords 76 = .ok (.getfield 19, 3) := by decide +kernel
theorem dMM_giveWords_79 : decode cMM_giveWords 79 = .ok (.iload_n 2, 1) := by decide +kernel
theorem dMM_giveWords_80 : decode cMM_giveWords 80 = .ok (.iaload, 1) := by decide +kernel
theorem dMM_giveWords_81 : decode cMM_giveWords 81 = .ok (.iload_n 1, 1) := by decide +kernel
theorem dMM_giveWords_82 : decode cMM_giveWords 82 = .ok (.iastore, 1) := by decide +kernel
theorem dMM_giveWords_83 : decode cMM_giveWords 83 = .ok (.iinc 1 1, 3) := by decide +kernel
theorem dMM_giveWords_86 : decode cMM_giveWords 86 = .ok (.iinc 2 1, 3) := by decide +kernel
theorem dMM_giveWords_89 : decode cMM_giveWords 89 = .ok (.iinc 4 1, 3) := by decide +kernel
theorem dMM_giveWords_92 : decode cMM_giveWords 92 = .ok (.goto (-44), 3) := by decide +kernel
theorem dMM_giveWords_95 : decode cMM_giveWords 95 = .ok (.iinc 3 1, 3) := by decide +kernel
theorem dMM_giveWords_98 : decode cMM_giveWords 98 = .ok (.goto (-63), 3) := by decide +kernel
theorem dMM_giveWords_101 : decode cMM_giveWords 101 = .ok (.return_, 1) := by decide +kernel
theorem dMM_comes_0 : decode cMM_comes 0 = .ok (.aload_n 0, 1) := by decide +kernel
theorem dMM_comes_1 : decode cMM_comes 1 = .ok (.iload_n 1, 1) := by decide +kernel
theorem dMM_comes_2 : decode cMM_comes 2 = .ok (.invokestatic 52, 3) := by decide +kernel
theorem dMM_comes_5 : decode cMM_comes 5 = .ok (.ifCond .eq 7, 3) := by decide +kernel
theorem dMM_comes_8 : decode cMM_comes 8 = .ok (.iload_n 2, 1) := by decide +kernel
theorem dMM_comes_9 : decode cMM_comes 9 = .ok (.ifCond .ge 7, 3) := by decide +kernel
theorem dMM_comes_12 : decode cMM_comes 12 = .ok (.iconst 1, 1) := by decide +kernel
theorem dMM_comes_13 : decode cMM_comes 13 = .ok (.goto 19, 3) := by decide +kernel
theorem dMM_comes_16 : decode cMM_comes 16 = .ok (.iload_n 2, 1) := by decide +kernel
theorem dMM_comes_17 : decode cMM_comes 17 = .ok (.ldc 71, 2) := by decide +kernel
theorem dMM_comes_19 : decode cMM_comes 19 = .ok (.aload_n 0, 1) := by decide +kernel
theorem dMM_comes_20 : decode cMM_comes 20 = .ok (.getfield 72, 3) := by decide +kernel
theorem dMM_comes_23 : decode cMM_comes 23 = .ok (.isub, 1) := by decide +kernel
theorem dMM_comes_24 : decode cMM_comes 24 = .ok (.if_icmp .le 7, 3) := by decide +kernel
theorem dMM_comes_27 : decode cMM_comes 27 = .ok (.iconst 2, 1) := by decide +kernel
theorem dMM_comes_28 : decode cMM_comes 28 = .ok (.goto 4, 3) := by decide +kernel
theorem dMM_comes_31 : decode cMM_comes 31 = .ok (.iconst 0, 1) := by decide +kernel
theorem dMM_comes_32 : decode cMM_comes 32 = .ok (.putfield 48, 3) := by decide +kernel
theorem dMM_comes_35 : decode cMM_comes 35 = .ok (.aload_n 0, 1) := by decide +kernel
theorem dMM_comes_36 : decode cMM_comes 36 = .ok (.getfield 48, 3) := by decide +kernel
theorem dMM_comes_39 : decode cMM_comes 39 = .ok (.ifCond .le 5, 3) := by decide +kernel
theorem dMM_comes_42 : decode cMM_comes 42 = .ok (.iconst 0, 1) := by decide +kernel
theorem dMM_comes_43 : decode cMM_comes 43 = .ok (.ireturn, 1) := by decide +kernel
theorem dMM_comes_44 : decode cMM_comes 44 = .ok (.aload_n 0, 1) := by decide +kernel
theorem dMM_comes_45 : decode cMM_comes 45 = .ok (.getfield 28, 3) := by decide +kernel
theorem dMM_comes_48 : decode cMM_comes 48 = .ok (.iload_n 1, 1) := by decide +kernel
theorem dMM_comes_49 : decode cMM_comes 49 = .ok (.dup2, 1) := by decide +kernel
theorem dMM_comes_50 : decode cMM_comes 50 = .ok (.iaload, 1) := by decide +kernel
theorem dMM_comes_51 : decode cMM_comes 51 = .ok (.iload_n 2, 1) := by decide +kernel
theorem dMM_comes_52 : decode cMM_comes 52 = .ok (.iadd, 1) := by decide +kernel
theorem dMM_comes_53 : decode cMM_comes 53 = .ok (.iastore, 1) := by decide +kernel
theorem dMM_comes_54 : decode cMM_comes 54 = .ok (.aload_n 0, 1) := by decide +kernel
theorem dMM_comes_55 : decode cMM_comes 55 = .ok (.dup, 1) := by decide +kernel
theorem dMM_comes_56 : decode cMM_comes 56 = .ok (.getfield 72, 3) := by decide +kernel
theorem dMM_comes_59 : decode cMM_comes 59 = .ok (.iload_n 2, 1) := by decide +kernel
theorem dMM_comes_60 : decode cMM_comes 60 = .ok (.iadd, 1) := by decide +kernel
theorem dMM_comes_61 : decode cMM_comes 61 = .ok (.putfield 72, 3) := by decide +kernel
theorem dMM_comes_64 : decode cMM_comes 64 = .ok (.aload_n 0, 1) := by decide +kernel
theorem dMM_comes_65 : decode cMM_comes 65 = .ok (.getfield 28, 3) := by decide +kernel
theorem dMM_comes_68 : decode cMM_comes 68 = .ok (.iload_n 1, 1) := by decide +kernel
theorem dMM_comes_69 : decode cMM_comes 69 = .ok (.iaload, 1) := by decide +kernel
theorem dMM_comes_70 : decode cMM_comes 70 = .ok (.ireturn, 1) := by decide +kernel
theorem dMM_forget_0 : decode cMM_forget 0 = .ok (.aload_n 0, 1) := by decide +kernel
theorem dMM_forget_1 : decode cMM_forget 1 = .ok (.iconst 0, 1) := by decide +kernel
theorem dMM_forget_2 : decode cMM_forget 2 = .ok (.putfield 48, 3) := by decide +kernel
theorem dMM_forget_5 : decode cMM_forget 5 = .ok (.aload_n 0, 1) := by decide +kernel
theorem dMM_forget_6 : decode cMM_forget 6 = .ok (.iconst 0, 1) := by decide +kernel
theorem dMM_forget_7 : decode cMM_forget 7 = .ok (.putfield 72, 3) := by decide +kernel
theorem dMM_forget_10 : decode cMM_forget 10 = .ok (.iconst 0, 1) := by decide +kernel
theorem dMM_forget_11 : decode cMM_forget 11 = .ok (.istore_n 1, 1) := by decide +kernel
theorem dMM_forget_12 : decode cMM_forget 12 = .ok (.iload_n 1, 1) := by decide +kernel
theorem dMM_forget_13 : decode cMM_forget 13 = .ok (.sipush 256, 3) := by decide +kernel
theorem dMM_forget_16 : decode cMM_forget 16 = .ok (.if_icmp .ge 16, 3) := by decide +kernel
theorem dMM_forget_19 : decode cMM_forget 19 = .ok (.aload_n 0, 1) := by decide +kernel
theorem dMM_forget_20 : decode cMM_forget 20 = .ok (.getfield 28, 3) := by decide +kernel
theorem dMM_forget_23 : decode cMM_forget 23 = .ok (.iload_n 1, 1) := by decide +kernel
theorem dMM_forget_24 : decode cMM_forget 24 = .ok (.iconst 0, 1) := by decide +kernel
theorem dMM_forget_25 : decode cMM_forget 25 = .ok (.iastore, 1) := by decide +kernel
theorem dMM_forget_26 : decode cMM_forget 26 = .ok (.iinc 1 1, 3) := by decide +kernel
theorem dMM_forget_29 : decode cMM_forget 29 = .ok (.goto (-17), 3) := by decide +kernel
theorem dMM_forget_32 : decode cMM_forget 32 = .ok (.return_, 1) := by decide +kernel
theorem dMM_best_0 : decode cMM_best 0 = .ok (.aload_n 0, 1) := by decide +kernel
theorem dMM_best_1 : decode cMM_best 1 = .ok (.iconst 0, 1) := by decide +kernel
theorem dMM_best_2 : decode cMM_best 2 = .ok (.putfield 48, 3) := by decide +kernel
theorem dMM_best_5 : decode cMM_best 5 = .ok (.aload_n 0, 1) := by decide +kernel
theorem dMM_best_6 : decode cMM_best 6 = .ok (.iconst 0, 1) := by decide +kernel
theorem dMM_best_7 : decode cMM_best 7 = .ok (.putfield 65, 3) := by decide +kernel
theorem dMM_best_10 : decode cMM_best 10 = .ok (.iconst 0, 1) := by decide +kernel
theorem dMM_best_11 : decode cMM_best 11 = .ok (.istore_n 1, 1) := by decide +kernel
theorem dMM_best_12 : decode cMM_best 12 = .ok (.iload_n 1, 1) := by decide +kernel
theorem dMM_best_13 : decode cMM_best 13 = .ok (.bipush 17, 2) := by decide +kernel
theorem dMM_best_15 : decode cMM_best 15 = .ok (.if_icmp .ge 16, 3) := by decide +kernel
theorem dMM_best_18 : decode cMM_best 18 = .ok (.aload_n 0, 1) := by decide +kernel
theorem dMM_best_19 : decode cMM_best 19 = .ok (.getfield 16, 3) := by decide +kernel
theorem dMM_best_22 : decode cMM_best 22 = .ok (.iload_n 1, 1) := by decide +kernel
theorem dMM_best_23 : decode cMM_best 23 = .ok (.iconst 0, 1) := by decide +kernel
theorem dMM_best_24 : decode cMM_best 24 = .ok (.iastore, 1) := by decide +kernel
theorem dMM_best_25 : decode cMM_best 25 = .ok (.iinc 1 1, 3) := by decide +kernel
theorem dMM_best_28 : decode cMM_best 28 = .ok (.goto (-16), 3) := by decide +kernel
theorem dMM_best_31 : decode cMM_best 31 = .ok (.aload_n 0, 1) := by decide +kernel
theorem dMM_best_32 : decode cMM_best 32 = .ok (.getfield 72, 3) := by decide +kernel
theorem dMM_best_35 : decode cMM_best 35 = .ok (.ifCond .ne 9, 3) := by decide +kernel
theorem dMM_best_38 : decode cMM_best 38 = .ok (.aload_n 0, 1) := by decide +kernel
theorem dMM_best_39 : decode cMM_best 39 = .ok (.invokevirtual 68, 3) := by decide +kernel
theorem dMM_best_42 : decode cMM_best 42 = .ok (.lconst 0, 1) := by decide +kernel
theorem dMM_best_43 : decode cMM_best 43 = .ok (.lreturn, 1) := by decide +kernel
theorem dMM_best_44 : decode cMM_best 44 = .ok (.aload_n 0, 1) := by decide +kernel
theorem dMM_best_45 : decode cMM_best 45 = .ok (.invokevirtual 79, 3) := by decide +kernel
theorem dMM_best_48 : decode cMM_best 48 = .ok (.aload_n 0, 1) := by decide +kernel
theorem dMM_best_49 : decode cMM_best 49 = .ok (.invokevirtual 82, 3) := by decide +kernel
theorem dMM_best_52 : decode cMM_best 52 = .ok (.iconst 1, 1) := by decide +kernel
theorem dMM_best_53 : decode cMM_best 53 = .ok (.istore_n 1, 1) := by decide +kernel
theorem dMM_best_54 : decode cMM_best 54 = .ok (.iload_n 1, 1) := by decide +kernel
theorem dMM_best_55 : decode cMM_best 55 = .ok (.bipush 16, 2) := by decide +kernel
theorem dMM_best_57 : decode cMM_best 57 = .ok (.if_icmp .gt 21, 3) := by decide +kernel
theorem dMM_best_60 : decode cMM_best 60 = .ok (.aload_n 0, 1) := by decide +kernel
theorem dMM_best_61 : decode cMM_best 61 = .ok (.getfield 16, 3) := by decide +kernel
theorem dMM_best_64 : decode cMM_best 64 = .ok (.iload_n 1, 1) := by decide +kernel
theorem dMM_best_65 : decode cMM_best 65 = .ok (.aload_n 0, 1) := by decide +kernel
theorem dMM_best_66 : decode cMM_best 66 = .ok (.getfield 45, 3) := by decide +kernel
theorem dMM_best_69 : decode cMM_best 69 = .ok (.iload_n 1, 1) := by decide +kernel
theorem dMM_best_70 : decode cMM_best 70 = .ok (.iaload, 1) := by decide +kernel
theorem dMM_best_71 : decode cMM_best 71 = .ok (.iastore, 1) := by decide +kernel
theorem dMM_best_72 : decode cMM_best 72 = .ok (.iinc 1 1, 3) := by decide +kernel
theorem dMM_best_75 : decode cMM_best 75 = .ok (.goto (-21), 3) := by decide +kernel
theorem dMM_best_78 : decode cMM_best 78 = .ok (.iconst 1, 1) := by decide +kernel
theorem dMM_best_79 : decode cMM_best 79 = .ok (.istore_n 1, 1) := by decide +kernel
theorem dMM_best_80 : decode cMM_best 80 = .ok (.iload_n 1, 1) := by decide +kernel
theorem dMM_best_81 : decode cMM_best 81 = .ok (.sipush 300, 3) := by decide +kernel
theorem dMM_best_84 : decode cMM_best 84 = .ok (.if_icmp .ge 63, 3) := by decide +kernel
theorem dMM_best_87 : decode cMM_best 87 = .ok (.iconst 0, 1) := by decide +kernel
theorem dMM_best_88 : decode cMM_best 88 = .ok (.istore_n 2, 1) := by decide +kernel
theorem dMM_best_89 : decode cMM_best 89 = .ok (.iload_n 2, 1) := by decide +kernel
theorem dMM_best_90 : decode cMM_best 90 = .ok (.sipush 256, 3) := by decide +kernel
theorem dMM_best_93 : decode cMM_best 93 = .ok (.if_icmp .ge 48, 3) := by decide +kernel
theorem dMM_best_96 : decode cMM_best 96 = .ok (.aload_n 0, 1) := by decide +kernel
theorem dMM_best_97 : decode cMM_best 97 = .ok (.getfield 28, 3) := by decide +kernel
theorem dMM_best_100 : decode cMM_best 100 = .ok (.iload_n 2, 1) := by decide +kernel
theorem dMM_best_101 : decode cMM_best 101 = .ok (.iaload, 1) := by decide +kernel
theorem dMM_best_102 : decode cMM_best 102 = .ok (.ifCond .le 33, 3) := by decide +kernel
theorem dMM_best_105 : decode cMM_best 105 = .ok (.aload_n 0, 1) := by decide +kernel
theorem dMM_best_106 : decode cMM_best 106 = .ok (.getfield 42, 3) := by decide +kernel
theorem dMM_best_109 : decode cMM_best 109 = .ok (.iload_n 2, 1) := by decide +kernel
theorem dMM_best_110 : decode cMM_best 110 = .ok (.iaload, 1) := by decide +kernel
theorem dMM_best_111 : decode cMM_best 111 = .ok (.iload_n 1, 1) := by decide +kernel
theorem dMM_best_112 : decode cMM_best 112 = .ok (.if_icmp .ne 23, 3) := by decide +kernel
theorem dMM_best_115 : decode cMM_best 115 = .ok (.aload_n 0, 1) := by decide +kernel
theorem dMM_best_116 : decode cMM_best 116 = .ok (.getfield 19, 3) := by decide +kernel
theorem dMM_best_119 : decode cMM_best 119 = .ok (.aload_n 0, 1) := by decide +kernel
theorem dMM_best_120 : decode cMM_best 120 = .ok (.getfield 65, 3) := by decide +kernel
theorem dMM_best_123 : decode cMM_best 123 = .ok (.iload_n 2, 1) := by decide +kernel
theorem dMM_best_124 : decode cMM_best 124 = .ok (.iastore, 1) := by decide +kernel
theorem dMM_best_125 : decode cMM_best 125 = .ok (.aload_n 0, 1) := by decide +kernel
theorem dMM_best_126 : decode cMM_best 126 = .ok (.dup, 1) := by decide +kernel
theorem dMM_best_127 : decode cMM_best 127 = .ok (.getfield 65, 3) := by decide +kernel
theorem dMM_best_130 : decode cMM_best 130 = .ok (.iconst 1, 1) := by decide +kernel
theorem dMM_best_131 : decode cMM_best 131 = .ok (.iadd, 1) := by decide +kernel
theorem dMM_best_132 : decode cMM_best 132 = .ok (.putfield 65, 3) := by decide +kernel
theorem dMM_best_135 : decode cMM_best 135 = .ok (.iinc 2 1, 3) := by decide +kernel
theorem dMM_best_138 : decode cMM_best 138 = .ok (.goto (-49), 3) := by decide +kernel
theorem dMM_best_141 : decode cMM_best 141 = .ok (.iinc 1 1, 3) := by decide +kernel
theorem dMM_best_144 : decode cMM_best 144 = .ok (.goto (-64), 3) := by decide +kernel
theorem dMM_best_147 : decode cMM_best 147 = .ok (.aload_n 0, 1) := by decide +kernel
theorem dMM_best_148 : decode cMM_best 148 = .ok (.invokevirtual 68, 3) := by decide +kernel
theorem dMM_best_151 : decode cMM_best 151 = .ok (.lconst 0, 1) := by decide +kernel
theorem dMM_best_152 : decode cMM_best 152 = .ok (.lstore_n 1, 1) := by decide +kernel
theorem dMM_best_153 : decode cMM_best 153 = .ok (.iconst 0, 1) := by decide +kernel
theorem dMM_best_154 : decode cMM_best 154 = .ok (.istore_n 3, 1) := by decide +kernel
theorem dMM_best_155 : decode cMM_best 155 = .ok (.iload_n 3, 1) := by decide +kernel
theorem dMM_best_156 : decode cMM_best 156 = .ok (.sipush 256, 3) := by decide +kernel
theorem dMM_best_159 : decode cMM_best 159 = .ok (.if_icmp .ge 27, 3) := by decide +kernel
theorem dMM_best_162 : decode cMM_best 162 = .ok (.lload_n 1, 1) := by decide +kernel
theorem dMM_best_163 : decode cMM_best 163 = .ok (.aload_n 0, 1) := by decide +kernel
theorem dMM_best_164 : decode cMM_best 164 = .ok (.getfield 28, 3) := by decide +kernel
theorem dMM_best_167 : decode cMM_best 167 = .ok (.iload_n 3, 1) := by decide +kernel
theorem dMM_best_168 : decode cMM_best 168 = .ok (.iaload, 1) := by decide +kernel
theorem dMM_best_169 : decode cMM_best 169 = .ok (.i2l, 1) := by decide +kernel
theorem dMM_best_170 : decode cMM_best 170 = .ok (.aload_n 0, 1) := by decide +kernel
theorem dMM_best_171 : decode cMM_best 171 = .ok (.getfield 22, 3) := by decide +kernel
theorem dMM_best_174 : decode cMM_best 174 = .ok (.iload_n 3, 1) := by decide +kernel
theorem dMM_best_175 : decode cMM_best 175 = .ok (.iaload, 1) := by decide +kernel
theorem dMM_best_176 : decode cMM_best 176 = .ok (.i2l, 1) := by decide +kernel
theorem dMM_best_177 : decode cMM_best 177 = .ok (.lmul, 1) := by decide +kernel
theorem dMM_best_178 : decode cMM_best 178 = .ok (.ladd, 1) := by decide +kernel
theorem dMM_best_179 : decode cMM_best 179 = .ok (.lstore_n 1, 1) := by decide +kernel
theorem dMM_best_180 : decode cMM_best 180 = .ok (.iinc 3 1, 3) := by decide +kernel
theorem dMM_best_183 : decode cMM_best 183 = .ok (.goto (-28), 3) := by decide +kernel
theorem dMM_best_186 : decode cMM_best 186 = .ok (.lload_n 1, 1) := by decide +kernel
theorem dMM_best_187 : decode cMM_best 187 = .ok (.lreturn, 1) := by decide +kernel
theorem dMM_join_0 : decode cMM_join 0 = .ok (.iconst 0, 1) := by decide +kernel
theorem dMM_join_1 : decode cMM_join 1 = .ok (.istore_n 1, 1) := by decide +kernel
theorem dMM_join_2 : decode cMM_join 2 = .ok (.iload_n 1, 1) := by decide +kernel
theorem dMM_join_3 : decode cMM_join 3 = .ok (.sipush 256, 3) := by decide +kernel
theorem dMM_join_6 : decode cMM_join 6 = .ok (.if_icmp .gt 46, 3) := by decide +kernel
theorem dMM_join_9 : decode cMM_join 9 = .ok (.aload_n 0, 1) := by decide +kernel
theorem dMM_join_10 : decode cMM_join 10 = .ok (.getfield 36, 3) := by decide +kernel
theorem dMM_join_13 : decode cMM_join 13 = .ok (.iload_n 1, 1) := by decide +kernel
theorem dMM_join_14 : decode cMM_join 14 = .ok (.iload_n 1, 1) := by decide +kernel
theorem dMM_join_15 : decode cMM_join 15 = .ok (.sipush 256, 3) := by decide +kernel
theorem dMM_join_18 : decode cMM_join 18 = .ok (.if_icmp .ne 7, 3) := by decide +kernel
theorem dMM_join_21 : decode cMM_join 21 = .ok (.iconst 1, 1) := by decide +kernel
theorem dMM_join_22 : decode cMM_join 22 = .ok (.goto 9, 3) := by decide +kernel
theorem dMM_join_25 : decode cMM_join 25 = .ok (.aload_n 0, 1) := by decide +kernel
theorem dMM_join_26 : decode cMM_join 26 = .ok (.getfield 28, 3) := by decide +kernel
theorem dMM_join_29 : decode cMM_join 29 = .ok (.iload_n 1, 1) := by decide +kernel
theorem dMM_join_30 : decode cMM_join 30 = .ok (.iaload, 1) := by decide +kernel
theorem dMM_join_31 : decode cMM_join 31 = .ok (.iastore, 1) := by decide +kernel
theorem dMM_join_32 : decode cMM_join 32 = .ok (.aload_n 0, 1) := by decide +kernel
theorem dMM_join_33 : decode cMM_join 33 = .ok (.getfield 39, 3) := by decide +kernel
theorem dMM_join_36 : decode cMM_join 36 = .ok (.iload_n 1, 1) := by decide +kernel
theorem dMM_join_37 : decode cMM_join 37 = .ok (.iload_n 1, 1) := by decide +kernel
theorem dMM_join_38 : decode cMM_join 38 = .ok (.iastore, 1) := by decide +kernel
theorem dMM_join_39 : decode cMM_join 39 = .ok (.aload_n 0, 1) := by decide +kernel
theorem dMM_join_40 : decode cMM_join 40 = .ok (.getfield 42, 3) := by decide +kernel
theorem dMM_join_43 : decode cMM_join 43 = .ok (.iload_n 1, 1) := by decide +kernel
theorem dMM_join_44 : decode cMM_join 44 = .ok (.iconst 0, 1) := by decide +kernel
theorem dMM_join_45 : decode cMM_join 45 = .ok (.iastore, 1) := by decide +kernel
theorem dMM_join_46 : decode cMM_join 46 = .ok (.iinc 1 1, 3) := by decide +kernel
theorem dMM_join_49 : decode cMM_join 49 = .ok (.goto (-47), 3) := by decide +kernel
theorem dMM_join_52 : decode cMM_join 52 = .ok (.aload_n 0, 1) := by decide +kernel
theorem dMM_join_53 : decode cMM_join 53 = .ok (.iconst (-1), 1) := by decide +kernel
theorem dMM_join_54 : decode cMM_join 54 = .ok (.invokevirtual 75, 3) := by decide +kernel
theorem dMM_join_57 : decode cMM_join 57 = .ok (.istore_n 1, 1) := by decide +kernel
theorem dMM_join_58 : decode cMM_join 58 = .ok (.aload_n 0, 1) := by decide +kernel
theorem dMM_join_59 : decode cMM_join 59 = .ok (.iload_n 1, 1) := by decide +kernel
theorem dMM_join_60 : decode cMM_join 60 = .ok (.invokevirtual 75, 3) := by decide +kernel
theorem dMM_join_63 : decode cMM_join 63 = .ok (.istore_n 2, 1) := by decide +kernel
theorem dMM_join_64 : decode cMM_join 64 = .ok (.iload_n 2, 1) := by decide +kernel
theorem dMM_join_65 : decode cMM_join 65 = .ok (.ifCond .lt 92, 3) := by decide +kernel
theorem dMM_join_68 : decode cMM_join 68 = .ok (.iconst 0, 1) := by decide +kernel
theorem dMM_join_69 : decode cMM_join 69 = .ok (.istore_n 3, 1) := by decide +kernel
theorem dMM_join_70 : decode cMM_join 70 = .ok (.iload_n 3, 1) := by decide +kernel
theorem dMM_join_71 : decode cMM_join 71 = .ok (.sipush 256, 3) := by decide +kernel
theorem dMM_join_74 : decode cMM_join 74 = .ok (.if_icmp .gt 46, 3) := by decide +kernel
theorem dMM_join_77 : decode cMM_join 77 = .ok (.aload_n 0, 1) := by decide +kernel
theorem dMM_join_78 : decode cMM_join 78 = .ok (.getfield 39, 3) := by decide +kernel
theorem dMM_join_81 : decode cMM_join 81 = .ok (.iload_n 3, 1) := by decide +kernel
theorem dMM_join_82 : decode cMM_join 82 = .ok (.iaload, 1) := by decide +kernel
theorem dMM_join_83 : decode cMM_join 83 = .ok (.iload_n 1, 1) := by decide +kernel
theorem dMM_join_84 : decode cMM_join 84 = .ok (.if_icmp .eq 13, 3) := by decide +kernel
theorem dMM_join_87 : decode cMM_join 87 = .ok (.aload_n 0, 1) := by decide +kernel
theorem dMM_join_88 : decode cMM_join 88 = .ok (.getfield 39, 3) := by decide +kernel
theorem dMM_join_91 : decode cMM_join 91 = .ok (.iload_n 3, 1) := by decide +kernel
theorem dMM_join_92 : decode cMM_join 92 = .ok (.iaload, 1) := by decide +kernel
theorem dMM_join_93 : decode cMM_join 93 = .ok (.iload_n 2, 1) := by decide +kernel
theorem dMM_join_94 : decode cMM_join 94 = .ok (.if_icmp .ne 20, 3) := by decide +kernel
theorem dMM_join_97 : decode cMM_join 97 = .ok (.aload_n 0, 1) := by decide +kernel
theorem dMM_join_98 : decode cMM_join 98 = .ok (.getfield 42, 3) := by decide +kernel
theorem dMM_join_101 : decode cMM_join 101 = .ok (.iload_n 3, 1) := by decide +kernel
theorem dMM_join_102 : decode cMM_join 102 = .ok (.dup2, 1) := by decide +kernel
theorem dMM_join_103 : decode cMM_join 103 = .ok (.iaload, 1) := by decide +kernel
theorem dMM_join_104 : decode cMM_join 104 = .ok (.iconst 1, 1) := by decide +kernel
theorem dMM_join_105 : decode cMM_join 105 = .ok (.iadd, 1) := by decide +kernel
theorem dMM_join_106 : decode cMM_join 106 = .ok (.iastore, 1) := by decide +kernel
theorem dMM_join_107 : decode cMM_join 107 = .ok (.aload_n 0, 1) := by decide +kernel
theorem dMM_join_108 : decode cMM_join 108 = .ok (.getfield 39, 3) := by decide +kernel
theorem dMM_join_111 : decode cMM_join 111 = .ok (.iload_n 3, 1) := by decide +kernel
theorem dMM_join_112 : decode cMM_join 112 = .ok (.iload_n 1, 1) := by decide +kernel
theorem dMM_join_113 : decode cMM_join 113 = .ok (.iastore, 1) := by decide +kernel
theorem dMM_join_114 : decode cMM_join 114 = .ok (.iinc 3 1, 3) := by decide +kernel
theorem dMM_join_117 : decode cMM_join 117 = .ok (.goto (-47), 3) := by decide +kernel
theorem dMM_join_120 : decode cMM_join 120 = .ok (.aload_n 0, 1) := by decide +kernel
theorem dMM_join_121 : decode cMM_join 121 = .ok (.getfield 36, 3) := by decide +kernel
theorem dMM_join_124 : decode cMM_join 124 = .ok (.iload_n 1, 1) := by decide +kernel
theorem dMM_join_125 : decode cMM_join 125 = .ok (.dup2, 1) := by decide +kernel
theorem dMM_join_126 : decode cMM_join 126 = .ok (.iaload, 1) := by decide +kernel
theorem dMM_join_127 : decode cMM_join 127 = .ok (.aload_n 0, 1) := by decide +kernel
theorem dMM_join_128 : decode cMM_join 128 = .ok (.getfield 36, 3) := by decide +kernel
theorem dMM_join_131 : decode cMM_join 131 = .ok (.iload_n 2, 1) := by decide +kernel
theorem dMM_join_132 : decode cMM_join 132 = .ok (.iaload, 1) := by decide +kernel
theorem dMM_join_133 : decode cMM_join 133 = .ok (.iadd, 1) := by decide +kernel
theorem dMM_join_134 : decode cMM_join 134 = .ok (.iastore, 1) := by decide +kernel
theorem dMM_join_135 : decode cMM_join 135 = .ok (.aload_n 0, 1) := by decide +kernel
theorem dMM_join_136 : decode cMM_join 136 = .ok (.getfield 36, 3) := by decide +kernel
theorem dMM_join_139 : decode cMM_join 139 = .ok (.iload_n 2, 1) := by decide +kernel
theorem dMM_join_140 : decode cMM_join 140 = .ok (.iconst 0, 1) := by decide +kernel
theorem dMM_join_141 : decode cMM_join 141 = .ok (.iastore, 1) := by decide +kernel
theorem dMM_join_142 : decode cMM_join 142 = .ok (.aload_n 0, 1) := by decide +kernel
theorem dMM_join_143 : decode cMM_join 143 = .ok (.iconst (-1), 1) := by decide +kernel
theorem dMM_join_144 : decode cMM_join 144 = .ok (.invokevirtual 75, 3) := by decide +kernel
theorem dMM_join_147 : decode cMM_join 147 = .ok (.istore_n 1, 1) := by decide +kernel
theorem dMM_join_148 : decode cMM_join 148 = .ok (.aload_n 0, 1) := by decide +kernel
theorem dMM_join_149 : decode cMM_join 149 = .ok (.iload_n 1, 1) := by decide +kernel
theorem dMM_join_150 : decode cMM_join 150 = .ok (.invokevirtual 75, 3) := by decide +kernel
theorem dMM_join_153 : decode cMM_join 153 = .ok (.istore_n 2, 1) := by decide +kernel
theorem dMM_join_154 : decode cMM_join 154 = .ok (.goto (-90), 3) := by decide +kernel
theorem dMM_join_157 : decode cMM_join 157 = .ok (.return_, 1) := by decide +kernel
theorem dMM_least_0 : decode cMM_least 0 = .ok (.iconst (-1), 1) := by decide +kernel
theorem dMM_least_1 : decode cMM_least 1 = .ok (.istore_n 2, 1) := by decide +kernel
theorem dMM_least_2 : decode cMM_least 2 = .ok (.iconst 0, 1) := by decide +kernel
theorem dMM_least_3 : decode cMM_least 3 = .ok (.istore_n 3, 1) := by decide +kernel
theorem dMM_least_4 : decode cMM_least 4 = .ok (.iload_n 3, 1) := by decide +kernel
theorem dMM_least_5 : decode cMM_least 5 = .ok (.sipush 256, 3) := by decide +kernel
theorem dMM_least_8 : decode cMM_least 8 = .ok (.if_icmp .gt 52, 3) := by decide +kernel
theorem dMM_least_11 : decode cMM_least 11 = .ok (.iload_n 3, 1) := by decide +kernel
theorem dMM_least_12 : decode cMM_least 12 = .ok (.iload_n 1, 1) := by decide +kernel
theorem dMM_least_13 : decode cMM_least 13 = .ok (.if_icmp .eq 41, 3) := by decide +kernel
theorem dMM_least_16 : decode cMM_least 16 = .ok (.aload_n 0, 1) := by decide +kernel
theorem dMM_least_17 : decode cMM_least 17 = .ok (.getfield 36, 3) := by decide +kernel
theorem dMM_least_20 : decode cMM_least 20 = .ok (.iload_n 3, 1) := by decide +kernel
theorem dMM_least_21 : decode cMM_least 21 = .ok (.iaload, 1) := by decide +kernel
theorem dMM_least_22 : decode cMM_least 22 = .ok (.ifCond .le 32, 3) := by decide +kernel
theorem dMM_least_25 : decode cMM_least 25 = .ok (.iload_n 2, 1) := by decide +kernel
theorem dMM_least_26 : decode cMM_least 26 = .ok (.ifCond .lt 26, 3) := by decide +kernel
theorem dMM_least_29 : decode cMM_least 29 = .ok (.aload_n 0, 1) := by decide +kernel
theorem dMM_least_30 : decode cMM_least 30 = .ok (.getfield 36, 3) := by decide +kernel
theorem dMM_least_33 : decode cMM_least 33 = .ok (.iload_n 3, 1) := by decide +kernel
theorem dMM_least_34 : decode cMM_least 34 = .ok (.iaload, 1) := by decide +kernel
theorem dMM_least_35 : decode cMM_least 35 = .ok (.aload_n 0, 1) := by decide +kernel
theorem dMM_least_36 : decode cMM_least 36 = .ok (.getfield 36, 3) := by decide +kernel
theorem dMM_least_39 : decode cMM_least 39 = .ok (.iload_n 2, 1) := by decide +kernel
theorem dMM_least_40 : decode cMM_least 40 = .ok (.ifCond .ge 7, 3) := by decide +kernel
theorem dMM_least_43 : decode cMM_least 43 = .ok (.iconst 0, 1) := by decide +kernel
theorem dMM_least_44 : decode cMM_least 44 = .ok (.goto 4, 3) := by decide +kernel
theorem dMM_least_47 : decode cMM_least 47 = .ok (.iload_n 2, 1) := by decide +kernel
theorem dMM_least_48 : decode cMM_least 48 = .ok (.iaload, 1) := by decide +kernel
theorem dMM_least_49 : decode cMM_least 49 = .ok (.if_icmp .gt 5, 3) := by decide +kernel
theorem dMM_least_52 : decode cMM_least 52 = .ok (.iload_n 3, 1) := by decide +kernel
theorem dMM_least_53 : decode cMM_least 53 = .ok (.istore_n 2, 1) := by decide +kernel
theorem dMM_least_54 : decode cMM_least 54 = .ok (.iinc 3 1, 3) := by decide +kernel
theorem dMM_least_57 : decode cMM_least 57 = .ok (.goto (-53), 3) := by decide +kernel
theorem dMM_least_60 : decode cMM_least 60 = .ok (.iload_n 2, 1) := by decide +kernel
theorem dMM_least_61 : decode cMM_least 61 = .ok (.ireturn, 1) := by decide +kernel
