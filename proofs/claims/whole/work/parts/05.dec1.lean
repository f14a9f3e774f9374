theorem dFB_countLengths_0 : decode cFB_countLengths 0 = .ok (.iconst 0, 1) := by decide +kernel
theorem dFB_countLengths_1 : decode cFB_countLengths 1 = .ok (.istore_n 1, 1) := by decide +kernel
theorem dFB_countLengths_2 : decode cFB_countLengths 2 = .ok (.iload_n 1, 1) := by decide +kernel
theorem dFB_countLengths_3 : decode cFB_countLengths 3 = .ok (.sipush 257, 3) := by decide +kernel
theorem dFB_countLengths_6 : decode cFB_countLengths 6 = .ok (.if_icmp .ge 33, 3) := by decide +kernel
theorem dFB_countLengths_9 : decode cFB_countLengths 9 = .ok (.aload_n 0, 1) := by decide +kernel
theorem dFB_countLengths_10 : decode cFB_countLengths 10 = .ok (.getfield 30, 3) := by decide +kernel
theorem dFB_countLengths_13 : decode cFB_countLengths 13 = .ok (.iload_n 1, 1) := by decide +kernel
theorem dFB_countLengths_14 : decode cFB_countLengths 14 = .ok (.iaload, 1) := by decide +kernel
theorem dFB_countLengths_15 : decode cFB_countLengths 15 = .ok (.ifCond .le 18, 3) := by decide +kernel
theorem dFB_countLengths_18 : decode cFB_countLengths 18 = .ok (.aload_n 0, 1) := by decide +kernel
theorem dFB_countLengths_19 : decode cFB_countLengths 19 = .ok (.getfield 9, 3) := by decide +kernel
theorem dFB_countLengths_22 : decode cFB_countLengths 22 = .ok (.aload_n 0, 1) := by decide +kernel
theorem dFB_countLengths_23 : decode cFB_countLengths 23 = .ok (.getfield 30, 3) := by decide +kernel
theorem dFB_countLengths_26 : decode cFB_countLengths 26 = .ok (.iload_n 1, 1) := by decide +kernel
theorem dFB_countLengths_27 : decode cFB_countLengths 27 = .ok (.iaload, 1) := by decide +kernel
theorem dFB_countLengths_28 : decode cFB_countLengths 28 = .ok (.dup2, 1) := by decide +kernel
theorem dFB_countLengths_29 : decode cFB_countLengths 29 = .ok (.iaload, 1) := by decide +kernel
theorem dFB_countLengths_30 : decode cFB_countLengths 30 = .ok (.iconst 1, 1) := by decide +kernel
theorem dFB_countLengths_31 : decode cFB_countLengths 31 = .ok (.iadd, 1) := by decide +kernel
theorem dFB_countLengths_32 : decode cFB_countLengths 32 = .ok (.iastore, 1) := by decide +kernel
theorem dFB_countLengths_33 : decode cFB_countLengths 33 = .ok (.iinc 1 1, 3) := by decide +kernel
theorem dFB_countLengths_36 : decode cFB_countLengths 36 = .ok (.goto (-34), 3) := by decide +kernel
theorem dFB_countLengths_39 : decode cFB_countLengths 39 = .ok (.return_, 1) := by decide +kernel
theorem dFB_orderSymbols_0 : decode cFB_orderSymbols 0 = .ok (.iconst 0, 1) := by decide +kernel
theorem dFB_orderSymbols_1 : decode cFB_orderSymbols 1 = .ok (.istore_n 1, 1) := by decide +kernel
theorem dFB_orderSymbols_2 : decode cFB_orderSymbols 2 = .ok (.aload_n 0, 1) := by decide +kernel
theorem dFB_orderSymbols_3 : decode cFB_orderSymbols 3 = .ok (.getfield 9, 3) := by decide +kernel
theorem dFB_orderSymbols_6 : decode cFB_orderSymbols 6 = .ok (.sipush 256, 3) := by decide +kernel
theorem dFB_orderSymbols_9 : decode cFB_orderSymbols 9 = .ok (.invokestatic 76, 3) := by decide +kernel
theorem dFB_orderSymbols_12 : decode cFB_orderSymbols 12 = .ok (.istore_n 2, 1) := by decide +kernel
theorem dFB_orderSymbols_13 : decode cFB_orderSymbols 13 = .ok (.iconst 1, 1) := by decide +kernel
theorem dFB_orderSymbols_14 : decode cFB_orderSymbols 14 = .ok (.istore_n 3, 1) := by decide +kernel
theorem dFB_orderSymbols_15 : decode cFB_orderSymbols 15 = .ok (.iload_n 3, 1) := by decide +kernel
theorem dFB_orderSymbols_16 : decode cFB_orderSymbols 16 = .ok (.iload_n 2, 1) := by decide +kernel
theorem dFB_orderSymbols_17 : decode cFB_orderSymbols 17 = .ok (.if_icmp .gt 48, 3) := by decide +kernel
theorem dFB_orderSymbols_20 : decode cFB_orderSymbols 20 = .ok (.iconst 0, 1) := by decide +kernel
theorem dFB_orderSymbols_21 : decode cFB_orderSymbols 21 = .ok (.istore 4, 2) := by decide +kernel
theorem dFB_orderSymbols_23 : decode cFB_orderSymbols 23 = .ok (.iload 4, 2) := by decide +kernel
theorem dFB_orderSymbols_25 : decode cFB_orderSymbols 25 = .ok (.sipush 256, 3) := by decide +kernel
theorem dFB_orderSymbols_28 : decode cFB_orderSymbols 28 = .ok (.if_icmp .ge 31, 3) := by decide +kernel
theorem dFB_orderSymbols_31 : decode cFB_orderSymbols 31 = .ok (.aload_n 0, 1) := by decide +kernel
theorem dFB_orderSymbols_32 : decode cFB_orderSymbols 32 = .ok (.getfield 30, 3) := by decide +kernel
theorem dFB_orderSymbols_35 : decode cFB_orderSymbols 35 = .ok (.iload 4, 2) := by decide +kernel
theorem dFB_orderSymbols_37 : decode cFB_orderSymbols 37 = .ok (.iaload, 1) := by decide +kernel
theorem dFB_orderSymbols_38 : decode cFB_orderSymbols 38 = .ok (.iload_n 3, 1) := by decide +kernel
theorem dFB_orderSymbols_39 : decode cFB_orderSymbols 39 = .ok (.if_icmp .ne 14, 3) := by decide +kernel
theorem dFB_orderSymbols_42 : decode cFB_orderSymbols 42 = .ok (.aload_n 0, 1) := by decide +kernel
theorem dFB_orderSymbols_43 : decode cFB_orderSymbols 43 = .ok (.getfield 15, 3) := by decide +kernel
theorem dFB_orderSymbols_46 : decode cFB_orderSymbols 46 = .ok (.iload_n 1, 1) := by decide +kernel
theorem dFB_orderSymbols_47 : decode cFB_orderSymbols 47 = .ok (.iload 4, 2) := by decide +kernel
theorem dFB_orderSymbols_49 : decode cFB_orderSymbols 49 = .ok (.iastore, 1) := by decide +kernel
theorem dFB_orderSymbols_50 : decode cFB_orderSymbols 50 = .ok (.iinc 1 1, 3) := by decide +kernel
theorem dFB_orderSymbols_53 : decode cFB_orderSymbols 53 = .ok (.iinc 4 1, 3) := by decide +kernel
theorem dFB_orderSymbols_56 : decode cFB_orderSymbols 56 = .ok (.goto (-33), 3) := by decide +kernel
theorem dFB_orderSymbols_59 : decode cFB_orderSymbols 59 = .ok (.iinc 3 1, 3) := by decide +kernel
theorem dFB_orderSymbols_62 : decode cFB_orderSymbols 62 = .ok (.goto (-47), 3) := by decide +kernel
theorem dFB_orderSymbols_65 : decode cFB_orderSymbols 65 = .ok (.return_, 1) := by decide +kernel
theorem dFF_greatestLength_0 : decode cFF_greatestLength 0 = .ok (.iload_n 1, 1) := by decide +kernel
theorem dFF_greatestLength_1 : decode cFF_greatestLength 1 = .ok (.aload_n 0, 1) := by decide +kernel
theorem dFF_greatestLength_2 : decode cFF_greatestLength 2 = .ok (.arraylength, 1) := by decide +kernel
theorem dFF_greatestLength_3 : decode cFF_greatestLength 3 = .ok (.iconst 1, 1) := by decide +kernel
theorem dFF_greatestLength_4 : decode cFF_greatestLength 4 = .ok (.isub, 1) := by decide +kernel
theorem dFF_greatestLength_5 : decode cFF_greatestLength 5 = .ok (.invokestatic 142, 3) := by decide +kernel
theorem dFF_greatestLength_8 : decode cFF_greatestLength 8 = .ok (.istore_n 2, 1) := by decide +kernel
theorem dFF_greatestLength_9 : decode cFF_greatestLength 9 = .ok (.iload_n 2, 1) := by decide +kernel
theorem dFF_greatestLength_10 : decode cFF_greatestLength 10 = .ok (.ifCond .le 17, 3) := by decide +kernel
theorem dFF_greatestLength_13 : decode cFF_greatestLength 13 = .ok (.aload_n 0, 1) := by decide +kernel
theorem dFF_greatestLength_14 : decode cFF_greatestLength 14 = .ok (.iload_n 2, 1) := by decide +kernel
theorem dFF_greatestLength_15 : decode cFF_greatestLength 15 = .ok (.iaload, 1) := by decide +kernel
theorem dFF_greatestLength_16 : decode cFF_greatestLength 16 = .ok (.ifCond .le 5, 3) := by decide +kernel
theorem dFF_greatestLength_19 : decode cFF_greatestLength 19 = .ok (.iload_n 2, 1) := by decide +kernel
theorem dFF_greatestLength_20 : decode cFF_greatestLength 20 = .ok (.ireturn, 1) := by decide +kernel
theorem dFF_greatestLength_21 : decode cFF_greatestLength 21 = .ok (.iinc 2 (-1), 3) := by decide +kernel
theorem dFF_greatestLength_24 : decode cFF_greatestLength 24 = .ok (.goto (-15), 3) := by decide +kernel
theorem dFF_greatestLength_27 : decode cFF_greatestLength 27 = .ok (.iconst 0, 1) := by decide +kernel
theorem dFF_greatestLength_28 : decode cFF_greatestLength 28 = .ok (.ireturn, 1) := by decide +kernel
theorem dFB_shortenLengths_0 : decode cFB_shortenLengths 0 = .ok (.aload_n 0, 1) := by decide +kernel
theorem dFB_shortenLengths_1 : decode cFB_shortenLengths 1 = .ok (.getfield 9, 3) := by decide +kernel
theorem dFB_shortenLengths_4 : decode cFB_shortenLengths 4 = .ok (.sipush 256, 3) := by decide +kernel
theorem dFB_shortenLengths_7 : decode cFB_shortenLengths 7 = .ok (.invokestatic 76, 3) := by decide +kernel
theorem dFB_shortenLengths_10 : decode cFB_shortenLengths 10 = .ok (.istore_n 1, 1) := by decide +kernel
theorem dFB_shortenLengths_11 : decode cFB_shortenLengths 11 = .ok (.iload_n 1, 1) := by decide +kernel
theorem dFB_shortenLengths_12 : decode cFB_shortenLengths 12 = .ok (.bipush 16, 2) := by decide +kernel
theorem dFB_shortenLengths_14 : decode cFB_shortenLengths 14 = .ok (.if_icmp .le 88, 3) := by decide +kernel
theorem dFB_shortenLengths_17 : decode cFB_shortenLengths 17 = .ok (.iconst 0, 1) := by decide +kernel
theorem dFB_shortenLengths_18 : decode cFB_shortenLengths 18 = .ok (.istore_n 2, 1) := by decide +kernel
theorem dFB_shortenLengths_19 : decode cFB_shortenLengths 19 = .ok (.iload_n 2, 1) := by decide +kernel
theorem dFB_shortenLengths_20 : decode cFB_shortenLengths 20 = .ok (.sipush 257, 3) := by decide +kernel
theorem dFB_shortenLengths_23 : decode cFB_shortenLengths 23 = .ok (.if_icmp .ge 73, 3) := by decide +kernel
theorem dFB_shortenLengths_26 : decode cFB_shortenLengths 26 = .ok (.aload_n 0, 1) := by decide +kernel
theorem dFB_shortenLengths_27 : decode cFB_shortenLengths 27 = .ok (.getfield 9, 3) := by decide +kernel
theorem dFB_shortenLengths_30 : decode cFB_shortenLengths 30 = .ok (.iload_n 1, 1) := by decide +kernel
theorem dFB_shortenLengths_31 : decode cFB_shortenLengths 31 = .ok (.iaload, 1) := by decide +kernel
theorem dFB_shortenLengths_32 : decode cFB_shortenLengths 32 = .ok (.ifCond .le 64, 3) := by decide +kernel
theorem dFB_shortenLengths_35 : decode cFB_shortenLengths 35 = .ok (.aload_n 0, 1) := by decide +kernel
theorem dFB_shortenLengths_36 : decode cFB_shortenLengths 36 = .ok (.getfield 9, 3) := by decide +kernel
theorem dFB_shortenLengths_39 : decode cFB_shortenLengths 39 = .ok (.iload_n 1, 1) := by decide +kernel
theorem dFB_shortenLengths_40 : decode cFB_shortenLengths 40 = .ok (.iconst 2, 1) := by decide +kernel
theorem dFB_shortenLengths_41 : decode cFB_shortenLengths 41 = .ok (.isub, 1) := by decide +kernel
theorem dFB_shortenLengths_42 : decode cFB_shortenLengths 42 = .ok (.invokestatic 76, 3) := by decide +kernel
theorem dFB_shortenLengths_45 : decode cFB_shortenLengths 45 = .ok (.istore_n 3, 1) := by decide +kernel
theorem dFB_shortenLengths_46 : decode cFB_shortenLengths 46 = .ok (.aload_n 0, 1) := by decide +kernel
theorem dFB_shortenLengths_47 : decode cFB_shortenLengths 47 = .ok (.getfield 9, 3) := by decide +kernel
theorem dFB_shortenLengths_50 : decode cFB_shortenLengths 50 = .ok (.iload_n 1, 1) := by decide +kernel
theorem dFB_shortenLengths_51 : decode cFB_shortenLengths 51 = .ok (.dup2, 1) := by decide +kernel
theorem dFB_shortenLengths_52 : decode cFB_shortenLengths 52 = .ok (.iaload, 1) := by decide +kernel
theorem dFB_shortenLengths_53 : decode cFB_shortenLengths 53 = .ok (.iconst 2, 1) := by decide +kernel
theorem dFB_shortenLengths_54 : decode cFB_shortenLengths 54 = .ok (.isub, 1) := by decide +kernel
theorem dFB_shortenLengths_55 : decode cFB_shortenLengths 55 = .ok (.iastore, 1) := by decide +kernel
theorem dFB_shortenLengths_56 : decode cFB_shortenLengths 56 = .ok (.aload_n 0, 1) := by decide +kernel
theorem dFB_shortenLengths_57 : decode cFB_shortenLengths 57 = .ok (.getfield 9, 3) := by decide +kernel
theorem dFB_shortenLengths_60 : decode cFB_shortenLengths 60 = .ok (.iload_n 1, 1) := by decide +kernel
theorem dFB_shortenLengths_61 : decode cFB_shortenLengths 61 = .ok (.iconst 1, 1) := by decide +kernel
theorem dFB_shortenLengths_62 : decode cFB_shortenLengths 62 = .ok (.isub, 1) := by decide +kernel
theorem dFB_shortenLengths_63 : decode cFB_shortenLengths 63 = .ok (.dup2, 1) := by decide +kernel
theorem dFB_shortenLengths_64 : decode cFB_shortenLengths 64 = .ok (.iaload, 1) := by decide +kernel
theorem dFB_shortenLengths_65 : decode cFB_shortenLengths 65 = .ok (.iconst 1, 1) := by decide +kernel
theorem dFB_shortenLengths_66 : decode cFB_shortenLengths 66 = .ok (.iadd, 1) := by decide +kernel
theorem dFB_shortenLengths_67 : decode cFB_shortenLengths 67 = .ok (.iastore, 1) := by decide +kernel
theorem dFB_shortenLengths_68 : decode cFB_shortenLengths 68 = .ok (.aload_n 0, 1) := by decide +kernel
theorem dFB_shortenLengths_69 : decode cFB_shortenLengths 69 = .ok (.getfield 9, 3) := by decide +kernel
theorem dFB_shortenLengths_72 : decode cFB_shortenLengths 72 = .ok (.iload_n 3, 1) := by decide +kernel
theorem dFB_shortenLengths_73 : decode cFB_shortenLengths 73 = .ok (.iconst 1, 1) := by decide +kernel
theorem dFB_shortenLengths_74 : decode cFB_shortenLengths 74 = .ok (.iadd, 1) := by decide +kernel
theorem dFB_shortenLengths_75 : decode cFB_shortenLengths 75 = .ok (.dup2, 1) := by decide +kernel
theorem dFB_shortenLengths_76 : decode cFB_shortenLengths 76 = .ok (.iaload, 1) := by decide +kernel
theorem dFB_shortenLengths_77 : decode cFB_shortenLengths 77 = .ok (.iconst 2, 1) := by decide +kernel
theorem dFB_shortenLengths_78 : decode cFB_shortenLengths 78 = .ok (.iadd, 1) := by decide +kernel
theorem dFB_shortenLengths_79 : decode cFB_shortenLengths 79 = .ok (.iastore, 1) := by decide +kernel
theorem dFB_shortenLengths_80 : decode cFB_shortenLengths 80 = .ok (.aload_n 0, 1) := by decide +kernel
theorem dFB_shortenLengths_81 : decode cFB_shortenLengths 81 = .ok (.getfield 9, 3) := by decide +kernel
theorem dFB_shortenLengths_84 : decode cFB_shortenLengths 84 = .ok (.iload_n 3, 1) := by decide +kernel
theorem dFB_shortenLengths_85 : decode cFB_shortenLengths 85 = .ok (.dup2, 1) := by decide +kernel
theorem dFB_shortenLengths_86 : decode cFB_shortenLengths 86 = .ok (.iaload, 1) := by decide +kernel
theorem dFB_shortenLengths_87 : decode cFB_shortenLengths 87 = .ok (.iconst 1, 1) := by decide +kernel
theorem dFB_shortenLengths_88 : decode cFB_shortenLengths 88 = .ok (.isub, 1) := by decide +kernel
theorem dFB_shortenLengths_89 : decode cFB_shortenLengths 89 = .ok (.iastore, 1) := by decide +kernel
theorem dFB_shortenLengths_90 : decode cFB_shortenLengths 90 = .ok (.iinc 2 1, 3) := by decide +kernel
theorem dFB_shortenLengths_93 : decode cFB_shortenLengths 93 = .ok (.goto (-74), 3) := by decide +kernel
theorem dFB_shortenLengths_96 : decode cFB_shortenLengths 96 = .ok (.iinc 1 (-1), 3) := by decide +kernel
theorem dFB_shortenLengths_99 : decode cFB_shortenLengths 99 = .ok (.goto (-88), 3) := by decide +kernel
theorem dFB_shortenLengths_102 : decode cFB_shortenLengths 102 = .ok (.return_, 1) := by decide +kernel
theorem dFB_dropLongestWord_0 : decode cFB_dropLongestWord 0 = .ok (.aload_n 0, 1) := by decide +kernel
theorem dFB_dropLongestWord_1 : decode cFB_dropLongestWord 1 = .ok (.getfield 9, 3) := by decide +kernel
theorem dFB_dropLongestWord_4 : decode cFB_dropLongestWord 4 = .ok (.aload_n 0, 1) := by decide +kernel
theorem dFB_dropLongestWord_5 : decode cFB_dropLongestWord 5 = .ok (.getfield 9, 3) := by decide +kernel
theorem dFB_dropLongestWord_8 : decode cFB_dropLongestWord 8 = .ok (.bipush 16, 2) := by decide +kernel
theorem dFB_dropLongestWord_10 : decode cFB_dropLongestWord 10 = .ok (.invokestatic 76, 3) := by decide +kernel
theorem dFB_dropLongestWord_13 : decode cFB_dropLongestWord 13 = .ok (.dup2, 1) := by decide +kernel
theorem dFB_dropLongestWord_14 : decode cFB_dropLongestWord 14 = .ok (.iaload, 1) := by decide +kernel
theorem dFB_dropLongestWord_15 : decode cFB_dropLongestWord 15 = .ok (.iconst 1, 1) := by decide +kernel
theorem dFB_dropLongestWord_16 : decode cFB_dropLongestWord 16 = .ok (.isub, 1) := by decide +kernel
theorem dFB_dropLongestWord_17 : decode cFB_dropLongestWord 17 = .ok (.iastore, 1) := by decide +kernel
theorem dFB_dropLongestWord_18 : decode cFB_dropLongestWord 18 = .ok (.return_, 1) := by decide +kernel
theorem dFT_bitsOfAll_0 : decode cFT_bitsOfAll 0 = .ok (.lconst 0, 1) := by decide +kernel
theorem dFT_bitsOfAll_1 : decode cFT_bitsOfAll 1 = .ok (.lstore_n 2, 1) := by decide +kernel
theorem dFT_bitsOfAll_2 : decode cFT_bitsOfAll 2 = .ok (.iconst 0, 1) := by decide +kernel
theorem dFT_bitsOfAll_3 : decode cFT_bitsOfAll 3 = .ok (.istore 4, 2) := by decide +kernel
theorem dFT_bitsOfAll_5 : decode cFT_bitsOfAll 5 = .ok (.iload 4, 2) := by decide +kernel
theorem dFT_bitsOfAll_7 : decode cFT_bitsOfAll 7 = .ok (.sipush 256, 3) := by decide +kernel
theorem dFT_bitsOfAll_10 : decode cFT_bitsOfAll 10 = .ok (.if_icmp .ge 26, 3) := by decide +kernel
theorem dFT_bitsOfAll_13 : decode cFT_bitsOfAll 13 = .ok (.lload_n 2, 1) := by decide +kernel
theorem dFT_bitsOfAll_14 : decode cFT_bitsOfAll 14 = .ok (.aload_n 1, 1) := by decide +kernel
theorem dFT_bitsOfAll_15 : decode cFT_bitsOfAll 15 = .ok (.iload 4, 2) := by decide +kernel
theorem dFT_bitsOfAll_17 : decode cFT_bitsOfAll 17 = .ok (.iaload, 1) := by decide +kernel
theorem dFT_bitsOfAll_18 : decode cFT_bitsOfAll 18 = .ok (.i2l, 1) := by decide +kernel
theorem dFT_bitsOfAll_19 : decode cFT_bitsOfAll 19 = .ok (.aload_n 0, 1) := by decide +kernel
theorem dFT_bitsOfAll_20 : decode cFT_bitsOfAll 20 = .ok (.getfield 18, 3) := by decide +kernel
theorem dFT_bitsOfAll_23 : decode cFT_bitsOfAll 23 = .ok (.iload 4, 2) := by decide +kernel
theorem dFT_bitsOfAll_25 : decode cFT_bitsOfAll 25 = .ok (.iaload, 1) := by decide +kernel
theorem dFT_bitsOfAll_26 : decode cFT_bitsOfAll 26 = .ok (.i2l, 1) := by decide +kernel
theorem dFT_bitsOfAll_27 : decode cFT_bitsOfAll 27 = .ok (.lmul, 1) := by decide +kernel
theorem dFT_bitsOfAll_28 : decode cFT_bitsOfAll 28 = .ok (.ladd, 1) := by decide +kernel
theorem dFT_bitsOfAll_29 : decode cFT_bitsOfAll 29 = .ok (.lstore_n 2, 1) := by decide +kernel
theorem dFT_bitsOfAll_30 : decode cFT_bitsOfAll 30 = .ok (.iinc 4 1, 3) := by decide +kernel
theorem dFT_bitsOfAll_33 : decode cFT_bitsOfAll 33 = .ok (.goto (-28), 3) := by decide +kernel
theorem dFT_bitsOfAll_36 : decode cFT_bitsOfAll 36 = .ok (.lload_n 2, 1) := by decide +kernel
theorem dFT_bitsOfAll_37 : decode cFT_bitsOfAll 37 = .ok (.lreturn, 1) := by decide +kernel
theorem dFF_length_0 : decode cFF_length 0 = .ok (.aload_n 0, 1) := by decide +kernel
theorem dFF_length_1 : decode cFF_length 1 = .ok (.getfield 19, 3) := by decide +kernel
theorem dFF_length_4 : decode cFF_length 4 = .ok (.iload_n 1, 1) := by decide +kernel
theorem dFF_length_5 : decode cFF_length 5 = .ok (.invokevirtual 110, 3) := by decide +kernel
theorem dFF_length_8 : decode cFF_length 8 = .ok (.ifCond .eq 15, 3) := by decide +kernel
theorem dFF_length_11 : decode cFF_length 11 = .ok (.aload_n 0, 1) := by decide +kernel
theorem dFF_length_12 : decode cFF_length 12 = .ok (.getfield 19, 3) := by decide +kernel
theorem dFF_length_15 : decode cFF_length 15 = .ok (.getfield 113, 3) := by decide +kernel
theorem dFF_length_18 : decode cFF_length 18 = .ok (.iload_n 1, 1) := by decide +kernel
theorem dFF_length_19 : decode cFF_length 19 = .ok (.iaload, 1) := by decide +kernel
theorem dFF_length_20 : decode cFF_length 20 = .ok (.goto 4, 3) := by decide +kernel
theorem dFF_length_23 : decode cFF_length 23 = .ok (.iconst 0, 1) := by decide +kernel
theorem dFF_length_24 : decode cFF_length 24 = .ok (.ireturn, 1) := by decide +kernel
theorem dFT_hasWord_0 : decode cFT_hasWord 0 = .ok (.iload_n 1, 1) := by decide +kernel
theorem dFT_hasWord_1 : decode cFT_hasWord 1 = .ok (.invokestatic 38, 3) := by decide +kernel
theorem dFT_hasWord_4 : decode cFT_hasWord 4 = .ok (.ifCond .eq 16, 3) := by decide +kernel
theorem dFT_hasWord_7 : decode cFT_hasWord 7 = .ok (.aload_n 0, 1) := by decide +kernel
theorem dFT_hasWord_8 : decode cFT_hasWord 8 = .ok (.getfield 18, 3) := by decide +kernel
theorem dFT_hasWord_11 : decode cFT_hasWord 11 = .ok (.iload_n 1, 1) := by decide +kernel
theorem dFT_hasWord_12 : decode cFT_hasWord 12 = .ok (.iaload, 1) := by decide +kernel
theorem dFT_hasWord_13 : decode cFT_hasWord 13 = .ok (.ifCond .le 7, 3) := by decide +kernel
theorem dFT_hasWord_16 : decode cFT_hasWord 16 = .ok (.iconst 1, 1) := by decide +kernel
theorem dFT_hasWord_17 : decode cFT_hasWord 17 = .ok (.goto 4, 3) := by decide +kernel
theorem dFT_hasWord_20 : decode cFT_hasWord 20 = .ok (.iconst 0, 1) := by decide +kernel
theorem dFT_hasWord_21 : decode cFT_hasWord 21 = .ok (.ireturn, 1) := by decide +kernel
theorem dFF_code_0 : decode cFF_code 0 = .ok (.aload_n 0, 1) := by decide +kernel
theorem dFF_code_1 : decode cFF_code 1 = .ok (.getfield 19, 3) := by decide +kernel
theorem dFF_code_4 : decode cFF_code 4 = .ok (.iload_n 1, 1) := by decide +kernel
theorem dFF_code_5 : decode cFF_code 5 = .ok (.invokevirtual 110, 3) := by decide +kernel
theorem dFF_code_8 : decode cFF_code 8 = .ok (.ifCond .eq 15, 3) := by decide +kernel
theorem dFF_code_11 : decode cFF_code 11 = .ok (.aload_n 0, 1) := by decide +kernel
theorem dFF_code_12 : decode cFF_code 12 = .ok (.getfield 19, 3) := by decide +kernel
theorem dFF_code_15 : decode cFF_code 15 = .ok (.getfield 116, 3) := by decide +kernel
theorem dFF_code_18 : decode cFF_code 18 = .ok (.iload_n 1, 1) := by decide +kernel
theorem dFF_code_19 : decode cFF_code 19 = .ok (.iaload, 1) := by decide +kernel
theorem dFF_code_20 : decode cFF_code 20 = .ok (.goto 4, 3) := by decide +kernel
theorem dFF_code_23 : decode cFF_code 23 = .ok (.iconst (-1), 1) := by decide +kernel
theorem dFF_code_24 : decode cFF_code 24 = .ok (.ireturn, 1) := by decide +kernel
theorem dFF_of_0 : decode cFF_of 0 = .ok (.iload_n 1, 1) := by decide +kernel
theorem dFF_of_1 : decode cFF_of 1 = .ok (.ifCond .ne 20, 3) := by decide +kernel
theorem dFF_of_4 : decode cFF_of 4 = .ok (.iload_n 2, 1) := by decide +kernel
theorem dFF_of_5 : decode cFF_of 5 = .ok (.invokestatic 44, 3) := by decide +kernel
theorem dFF_of_8 : decode cFF_of 8 = .ok (.ifCond .eq 13, 3) := by decide +kernel
theorem dFF_of_11 : decode cFF_of 11 = .ok (.aload_n 0, 1) := by decide +kernel
theorem dFF_of_12 : decode cFF_of 12 = .ok (.getfield 19, 3) := by decide +kernel
theorem dFF_of_15 : decode cFF_of 15 = .ok (.getfield 119, 3) := by decide +kernel
theorem dFF_of_18 : decode cFF_of 18 = .ok (.iload_n 2, 1) := by decide +kernel
theorem dFF_of_19 : decode cFF_of 19 = .ok (.iaload, 1) := by decide +kernel
theorem dFF_of_20 : decode cFF_of 20 = .ok (.ireturn, 1) := by decide +kernel
theorem dFF_of_21 : decode cFF_of 21 = .ok (.iload_n 1, 1) := by decide +kernel
theorem dFF_of_22 : decode cFF_of 22 = .ok (.iconst 1, 1) := by decide +kernel
theorem dFF_of_23 : decode cFF_of 23 = .ok (.if_icmp .ne 28, 3) := by decide +kernel
theorem dFF_of_26 : decode cFF_of 26 = .ok (.iload_n 2, 1) := by decide +kernel
theorem dFF_of_27 : decode cFF_of 27 = .ok (.ifCond .lt 24, 3) := by decide +kernel
theorem dFF_of_30 : decode cFF_of 30 = .ok (.iload_n 2, 1) := by decide +kernel
theorem dFF_of_31 : decode cFF_of 31 = .ok (.aload_n 0, 1) := by decide +kernel
theorem dFF_of_32 : decode cFF_of 32 = .ok (.getfield 19, 3) := by decide +kernel
theorem dFF_of_35 : decode cFF_of 35 = .ok (.getfield 73, 3) := by decide +kernel
theorem dFF_of_38 : decode cFF_of 38 = .ok (.if_icmp .ge 13, 3) := by decide +kernel
theorem dFF_of_41 : decode cFF_of 41 = .ok (.aload_n 0, 1) := by decide +kernel
theorem dFF_of_42 : decode cFF_of 42 = .ok (.getfield 19, 3) := by decide +kernel
theorem dFF_of_45 : decode cFF_of 45 = .ok (.getfield 120, 3) := by decide +kernel
theorem dFF_of_48 : decode cFF_of 48 = .ok (.iload_n 2, 1) := by decide +kernel
theorem dFF_of_49 : decode cFF_of 49 = .ok (.iaload, 1) := by decide +kernel
theorem dFF_of_50 : decode cFF_of 50 = .ok (.ireturn, 1) := by decide +kernel
theorem dFF_of_51 : decode cFF_of 51 = .ok (.iconst (-1), 1) := by decide +kernel
theorem dFF_of_52 : decode cFF_of 52 = .ok (.ireturn, 1) := by decide +kernel
theorem dFF_get_0 : decode cFF_get 0 = .ok (.aload_n 0, 1) := by decide +kernel
theorem dFF_get_1 : decode cFF_get 1 = .ok (.getfield 40, 3) := by decide +kernel
theorem dFF_get_4 : decode cFF_get 4 = .ok (.invokevirtual 139, 3) := by decide +kernel
theorem dFF_get_7 : decode cFF_get 7 = .ok (.bipush 16, 2) := by decide +kernel
theorem dFF_get_9 : decode cFF_get 9 = .ok (.invokestatic 142, 3) := by decide +kernel
theorem dFF_get_12 : decode cFF_get 12 = .ok (.istore_n 1, 1) := by decide +kernel
theorem dFF_get_13 : decode cFF_get 13 = .ok (.iload_n 1, 1) := by decide +kernel
theorem dFF_get_14 : decode cFF_get 14 = .ok (.ifCond .ne 5, 3) := by decide +kernel
theorem dFF_get_17 : decode cFF_get 17 = .ok (.iconst (-1), 1) := by decide +kernel
theorem dFF_get_18 : decode cFF_get 18 = .ok (.ireturn, 1) := by decide +kernel
theorem dFF_get_19 : decode cFF_get 19 = .ok (.aload_n 0, 1) := by decide +kernel
theorem dFF_get_20 : decode cFF_get 20 = .ok (.getfield 19, 3) := by decide +kernel
theorem dFF_get_23 : decode cFF_get 23 = .ok (.aload_n 0, 1) := by decide +kernel
theorem dFF_get_24 : decode cFF_get 24 = .ok (.getfield 40, 3) := by decide +kernel
theorem dFF_get_27 : decode cFF_get 27 = .ok (.iload_n 1, 1) := by decide +kernel
theorem dFF_get_28 : decode cFF_get 28 = .ok (.invokevirtual 148, 3) := by decide +kernel
theorem dFF_get_31 : decode cFF_get 31 = .ok (.iload_n 1, 1) := by decide +kernel
theorem dFF_get_32 : decode cFF_get 32 = .ok (.invokevirtual 152, 3) := by decide +kernel
theorem dFF_get_35 : decode cFF_get 35 = .ok (.istore_n 2, 1) := by decide +kernel
theorem dFF_get_36 : decode cFF_get 36 = .ok (.iload_n 2, 1) := by decide +kernel
theorem dFF_get_37 : decode cFF_get 37 = .ok (.ifCond .lt 24, 3) := by decide +kernel
theorem dFF_get_40 : decode cFF_get 40 = .ok (.aload_n 0, 1) := by decide +kernel
theorem dFF_get_41 : decode cFF_get 41 = .ok (.getfield 40, 3) := by decide +kernel
theorem dFF_get_44 : decode cFF_get 44 = .ok (.dup, 1) := by decide +kernel
theorem dFF_get_45 : decode cFF_get 45 = .ok (.getfield 155, 3) := by decide +kernel
theorem dFF_get_48 : decode cFF_get 48 = .ok (.aload_n 0, 1) := by decide +kernel
theorem dFF_get_49 : decode cFF_get 49 = .ok (.getfield 19, 3) := by decide +kernel
theorem dFF_get_52 : decode cFF_get 52 = .ok (.getfield 113, 3) := by decide +kernel
theorem dFF_get_55 : decode cFF_get 55 = .ok (.iload_n 2, 1) := by decide +kernel
theorem dFF_get_56 : decode cFF_get 56 = .ok (.iaload, 1) := by decide +kernel
theorem dFF_get_57 : decode cFF_get 57 = .ok (.iadd, 1) := by decide +kernel
theorem dFF_get_58 : decode cFF_get 58 = .ok (.putfield 155, 3) := by decide +kernel
theorem dFF_get_61 : decode cFF_get 61 = .ok (.iload_n 2, 1) := by decide +kernel
theorem dFF_get_62 : decode cFF_get 62 = .ok (.ireturn, 1) := by decide +kernel
theorem dFR_left_0 : decode cFR_left 0 = .ok (.aload_n 0, 1) := by decide +kernel
theorem dFR_left_1 : decode cFR_left 1 = .ok (.getfield 16, 3) := by decide +kernel
theorem dFR_left_4 : decode cFR_left 4 = .ok (.aload_n 0, 1) := by decide +kernel
theorem dFR_left_5 : decode cFR_left 5 = .ok (.getfield 20, 3) := by decide +kernel
theorem dFR_left_8 : decode cFR_left 8 = .ok (.isub, 1) := by decide +kernel
theorem dFR_left_9 : decode cFR_left 9 = .ok (.ireturn, 1) := by decide +kernel
theorem dFR_ahead_0 : decode cFR_ahead 0 = .ok (.iconst 0, 1) := by decide +kernel
theorem dFR_ahead_1 : decode cFR_ahead 1 = .ok (.istore_n 2, 1) := by decide +kernel
theorem dFR_ahead_2 : decode cFR_ahead 2 = .ok (.aload_n 0, 1) := by decide +kernel
theorem dFR_ahead_3 : decode cFR_ahead 3 = .ok (.getfield 20, 3) := by decide +kernel
theorem dFR_ahead_6 : decode cFR_ahead 6 = .ok (.istore_n 3, 1) := by decide +kernel
theorem dFR_ahead_7 : decode cFR_ahead 7 = .ok (.iload_n 3, 1) := by decide +kernel
theorem dFR_ahead_8 : decode cFR_ahead 8 = .ok (.aload_n 0, 1) := by decide +kernel
theorem dFR_ahead_9 : decode cFR_ahead 9 = .ok (.getfield 20, 3) := by decide +kernel
theorem dFR_ahead_12 : decode cFR_ahead 12 = .ok (.iload_n 1, 1) := by decide +kernel
theorem dFR_ahead_13 : decode cFR_ahead 13 = .ok (.iadd, 1) := by decide +kernel
theorem dFR_ahead_14 : decode cFR_ahead 14 = .ok (.if_icmp .ge 30, 3) := by decide +kernel
theorem dFR_ahead_17 : decode cFR_ahead 17 = .ok (.iconst 2, 1) := by decide +kernel
theorem dFR_ahead_18 : decode cFR_ahead 18 = .ok (.iload_n 2, 1) := by decide +kernel
theorem dFR_ahead_19 : decode cFR_ahead 19 = .ok (.imul, 1) := by decide +kernel
theorem dFR_ahead_20 : decode cFR_ahead 20 = .ok (.aload_n 0, 1) := by decide +kernel
theorem dFR_ahead_21 : decode cFR_ahead 21 = .ok (.getfield 9, 3) := by decide +kernel
theorem dFR_ahead_24 : decode cFR_ahead 24 = .ok (.iload_n 3, 1) := by decide +kernel
theorem dFR_ahead_25 : decode cFR_ahead 25 = .ok (.bipush 32, 2) := by decide +kernel
theorem dFR_ahead_27 : decode cFR_ahead 27 = .ok (.idiv, 1) := by decide +kernel
theorem dFR_ahead_28 : decode cFR_ahead 28 = .ok (.iaload, 1) := by decide +kernel
theorem dFR_ahead_29 : decode cFR_ahead 29 = .ok (.iload_n 3, 1) := by decide +kernel
theorem dFR_ahead_30 : decode cFR_ahead 30 = .ok (.bipush 32, 2) := by decide +kernel
theorem dFR_ahead_32 : decode cFR_ahead 32 = .ok (.irem, 1) := by decide +kernel
theorem dFR_ahead_33 : decode cFR_ahead 33 = .ok (.iushr, 1) := by decide +kernel
theorem dFR_ahead_34 : decode cFR_ahead 34 = .ok (.iconst 1, 1) := by decide +kernel
theorem dFR_ahead_35 : decode cFR_ahead 35 = .ok (.iand, 1) := by decide +kernel
theorem dFR_ahead_36 : decode cFR_ahead 36 = .ok (.iadd, 1) := by decide +kernel
theorem dFR_ahead_37 : decode cFR_ahead 37 = .ok (.istore_n 2, 1) := by decide +kernel
theorem dFR_ahead_38 : decode cFR_ahead 38 = .ok (.iinc 3 1, 3) := by decide +kernel
theorem dFR_ahead_41 : decode cFR_ahead 41 = .ok (.goto (-34), 3) := by decide +kernel
theorem dFR_ahead_44 : decode cFR_ahead 44 = .ok (.iload_n 2, 1) := by decide +kernel
theorem dFR_ahead_45 : decode cFR_ahead 45 = .ok (.ireturn, 1) := by decide +kernel
theorem dFT_symbolAhead_0 : decode cFT_symbolAhead 0 = .ok (.iconst 0, 1) := by decide +kernel
theorem dFT_symbolAhead_1 : decode cFT_symbolAhead 1 = .ok (.istore_n 3, 1) := by decide +kernel
theorem dFT_symbolAhead_2 : decode cFT_symbolAhead 2 = .ok (.iconst 0, 1) := by decide +kernel
theorem dFT_symbolAhead_3 : decode cFT_symbolAhead 3 = .ok (.istore 4, 2) := by decide +kernel
theorem dFT_symbolAhead_5 : decode cFT_symbolAhead 5 = .ok (.iload 4, 2) := by decide +kernel
theorem dFT_symbolAhead_7 : decode cFT_symbolAhead 7 = .ok (.aload_n 0, 1) := by decide +kernel
theorem dFT_symbolAhead_8 : decode cFT_symbolAhead 8 = .ok (.getfield 30, 3) := by decide +kernel
theorem dFT_symbolAhead_11 : decode cFT_symbolAhead 11 = .ok (.if_icmp .ge 79, 3) := by decide +kernel
theorem dFT_symbolAhead_14 : decode cFT_symbolAhead 14 = .ok (.aload_n 0, 1) := by decide +kernel
theorem dFT_symbolAhead_15 : decode cFT_symbolAhead 15 = .ok (.getfield 15, 3) := by decide +kernel
theorem dFT_symbolAhead_18 : decode cFT_symbolAhead 18 = .ok (.iload 4, 2) := by decide +kernel
theorem dFT_symbolAhead_20 : decode cFT_symbolAhead 20 = .ok (.iaload, 1) := by decide +kernel
theorem dFT_symbolAhead_21 : decode cFT_symbolAhead 21 = .ok (.istore 5, 2) := by decide +kernel
theorem dFT_symbolAhead_23 : decode cFT_symbolAhead 23 = .ok (.aload_n 0, 1) := by decide +kernel
theorem dFT_symbolAhead_24 : decode cFT_symbolAhead 24 = .ok (.getfield 18, 3) := by decide +kernel
theorem dFT_symbolAhead_27 : decode cFT_symbolAhead 27 = .ok (.iload 5, 2) := by decide +kernel
theorem dFT_symbolAhead_29 : decode cFT_symbolAhead 29 = .ok (.iaload, 1) := by decide +kernel
theorem dFT_symbolAhead_30 : decode cFT_symbolAhead 30 = .ok (.iload_n 2, 1) := by decide +kernel
theorem dFT_symbolAhead_31 : decode cFT_symbolAhead 31 = .ok (.isub, 1) := by decide +kernel
theorem dFT_symbolAhead_32 : decode cFT_symbolAhead 32 = .ok (.istore 6, 2) := by decide +kernel
theorem dFT_symbolAhead_34 : decode cFT_symbolAhead 34 = .ok (.iload 6, 2) := by decide +kernel
theorem dFT_symbolAhead_36 : decode cFT_symbolAhead 36 = .ok (.ifCond .le 30, 3) := by decide +kernel
theorem dFT_symbolAhead_39 : decode cFT_symbolAhead 39 = .ok (.iload_n 3, 1) := by decide +kernel
theorem dFT_symbolAhead_40 : decode cFT_symbolAhead 40 = .ok (.ifCond .ne 17, 3) := by decide +kernel
theorem dFT_symbolAhead_43 : decode cFT_symbolAhead 43 = .ok (.aload_n 0, 1) := by decide +kernel
theorem dFT_symbolAhead_44 : decode cFT_symbolAhead 44 = .ok (.getfield 21, 3) := by decide +kernel
theorem dFT_symbolAhead_47 : decode cFT_symbolAhead 47 = .ok (.iload 5, 2) := by decide +kernel
theorem dFT_symbolAhead_49 : decode cFT_symbolAhead 49 = .ok (.iaload, 1) := by decide +kernel
theorem dFT_symbolAhead_50 : decode cFT_symbolAhead 50 = .ok (.iload 6, 2) := by decide +kernel
theorem dFT_symbolAhead_52 : decode cFT_symbolAhead 52 = .ok (.ishr, 1) := by decide +kernel
theorem dFT_symbolAhead_53 : decode cFT_symbolAhead 53 = .ok (.iload_n 1, 1) := by decide +kernel
theorem dFT_symbolAhead_54 : decode cFT_symbolAhead 54 = .ok (.if_icmp .ne 7, 3) := by decide +kernel
theorem dFT_symbolAhead_57 : decode cFT_symbolAhead 57 = .ok (.iconst 1, 1) := by decide +kernel
theorem dFT_symbolAhead_58 : decode cFT_symbolAhead 58 = .ok (.goto 4, 3) := by decide +kernel
theorem dFT_symbolAhead_61 : decode cFT_symbolAhead 61 = .ok (.iconst 0, 1) := by decide +kernel
theorem dFT_symbolAhead_62 : decode cFT_symbolAhead 62 = .ok (.istore_n 3, 1) := by decide +kernel
theorem dFT_symbolAhead_63 : decode cFT_symbolAhead 63 = .ok (.goto 21, 3) := by decide +kernel
theorem dFT_symbolAhead_66 : decode cFT_symbolAhead 66 = .ok (.iload_n 1, 1) := by decide +kernel
theorem dFT_symbolAhead_67 : decode cFT_symbolAhead 67 = .ok (.iload 6, 2) := by decide +kernel
theorem dFT_symbolAhead_69 : decode cFT_symbolAhead 69 = .ok (.ineg, 1) := by decide +kernel
theorem dFT_symbolAhead_70 : decode cFT_symbolAhead 70 = .ok (.ishr, 1) := by decide +kernel
theorem dFT_symbolAhead_71 : decode cFT_symbolAhead 71 = .ok (.aload_n 0, 1) := by decide +kernel
theorem dFT_symbolAhead_72 : decode cFT_symbolAhead 72 = .ok (.getfield 21, 3) := by decide +kernel
theorem dFT_symbolAhead_75 : decode cFT_symbolAhead 75 = .ok (.iload 5, 2) := by decide +kernel
theorem dFT_symbolAhead_77 : decode cFT_symbolAhead 77 = .ok (.iaload, 1) := by decide +kernel
theorem dFT_symbolAhead_78 : decode cFT_symbolAhead 78 = .ok (.if_icmp .ne 6, 3) := by decide +kernel
theorem dFT_symbolAhead_81 : decode cFT_symbolAhead 81 = .ok (.iload 5, 2) := by decide +kernel
theorem dFT_symbolAhead_83 : decode cFT_symbolAhead 83 = .ok (.ireturn, 1) := by decide +kernel
theorem dFT_symbolAhead_84 : decode cFT_symbolAhead 84 = .ok (.iinc 4 1, 3) := by decide +kernel
theorem dFT_symbolAhead_87 : decode cFT_symbolAhead 87 = .ok (.goto (-82), 3) := by decide +kernel
theorem dFT_symbolAhead_90 : decode cFT_symbolAhead 90 = .ok (.iload_n 3, 1) := by decide +kernel
theorem dFT_symbolAhead_91 : decode cFT_symbolAhead 91 = .ok (.ifCond .eq 7, 3) := by decide +kernel
theorem dFT_symbolAhead_94 : decode cFT_symbolAhead 94 = .ok (.iconst (-1), 1) := by decide +kernel
theorem dFT_symbolAhead_95 : decode cFT_symbolAhead 95 = .ok (.goto 5, 3) := by decide +kernel
theorem dFT_symbolAhead_98 : decode cFT_symbolAhead 98 = .ok (.bipush (-2), 2) := by decide +kernel
theorem dFT_symbolAhead_100 : decode cFT_symbolAhead 100 = .ok (.ireturn, 1) := by decide +kernel
theorem dFF_bits_0 : decode cFF_bits 0 = .ok (.iload_n 1, 1) := by decide +kernel
theorem dFF_bits_1 : decode cFF_bits 1 = .ok (.invokestatic 132, 3) := by decide +kernel
theorem dFF_bits_4 : decode cFF_bits 4 = .ok (.ifCond .eq 14, 3) := by decide +kernel
theorem dFF_bits_7 : decode cFF_bits 7 = .ok (.iload_n 1, 1) := by decide +kernel
theorem dFF_bits_8 : decode cFF_bits 8 = .ok (.aload_n 0, 1) := by decide +kernel
theorem dFF_bits_9 : decode cFF_bits 9 = .ok (.getfield 40, 3) := by decide +kernel
theorem dFF_bits_12 : decode cFF_bits 12 = .ok (.invokevirtual 139, 3) := by decide +kernel
theorem dFF_bits_15 : decode cFF_bits 15 = .ok (.if_icmp .le 5, 3) := by decide +kernel
theorem dFF_bits_18 : decode cFF_bits 18 = .ok (.iconst (-1), 1) := by decide +kernel
theorem dFF_bits_19 : decode cFF_bits 19 = .ok (.ireturn, 1) := by decide +kernel
theorem dFF_bits_20 : decode cFF_bits 20 = .ok (.aload_n 0, 1) := by decide +kernel
theorem dFF_bits_21 : decode cFF_bits 21 = .ok (.getfield 40, 3) := by decide +kernel
theorem dFF_bits_24 : decode cFF_bits 24 = .ok (.iload_n 1, 1) := by decide +kernel
theorem dFF_bits_25 : decode cFF_bits 25 = .ok (.invokevirtual 148, 3) := by decide +kernel
theorem dFF_bits_28 : decode cFF_bits 28 = .ok (.istore_n 2, 1) := by decide +kernel
theorem dFF_bits_29 : decode cFF_bits 29 = .ok (.aload_n 0, 1) := by decide +kernel
theorem dFF_bits_30 : decode cFF_bits 30 = .ok (.getfield 40, 3) := by decide +kernel
theorem dFF_bits_33 : decode cFF_bits 33 = .ok (.dup, 1) := by decide +kernel
theorem dFF_bits_34 : decode cFF_bits 34 = .ok (.getfield 155, 3) := by decide +kernel
theorem dFF_bits_37 : decode cFF_bits 37 = .ok (.iload_n 1, 1) := by decide +kernel
theorem dFF_bits_38 : decode cFF_bits 38 = .ok (.iadd, 1) := by decide +kernel
theorem dFF_bits_39 : decode cFF_bits 39 = .ok (.putfield 155, 3) := by decide +kernel
theorem dFF_bits_42 : decode cFF_bits 42 = .ok (.iload_n 2, 1) := by decide +kernel
theorem dFF_bits_43 : decode cFF_bits 43 = .ok (.ireturn, 1) := by decide +kernel
theorem dFF_isBitNumber_0 : decode cFF_isBitNumber 0 = .ok (.iload_n 0, 1) := by decide +kernel
theorem dFF_isBitNumber_1 : decode cFF_isBitNumber 1 = .ok (.ifCond .lt 13, 3) := by decide +kernel
theorem dFF_isBitNumber_4 : decode cFF_isBitNumber 4 = .ok (.iload_n 0, 1) := by decide +kernel
theorem dFF_isBitNumber_5 : decode cFF_isBitNumber 5 = .ok (.bipush 16, 2) := by decide +kernel
theorem dFF_isBitNumber_7 : decode cFF_isBitNumber 7 = .ok (.if_icmp .gt 7, 3) := by decide +kernel
theorem dFF_isBitNumber_10 : decode cFF_isBitNumber 10 = .ok (.iconst 1, 1) := by decide +kernel
theorem dFF_isBitNumber_11 : decode cFF_isBitNumber 11 = .ok (.goto 4, 3) := by decide +kernel
theorem dFF_isBitNumber_14 : decode cFF_isBitNumber 14 = .ok (.iconst 0, 1) := by decide +kernel
theorem dFF_isBitNumber_15 : decode cFF_isBitNumber 15 = .ok (.ireturn, 1) := by decide +kernel
theorem dFF_seek_0 : decode cFF_seek 0 = .ok (.iload_n 1, 1) := by decide +kernel
theorem dFF_seek_1 : decode cFF_seek 1 = .ok (.ifCond .lt 14, 3) := by decide +kernel
theorem dFF_seek_4 : decode cFF_seek 4 = .ok (.iload_n 1, 1) := by decide +kernel
theorem dFF_seek_5 : decode cFF_seek 5 = .ok (.aload_n 0, 1) := by decide +kernel
theorem dFF_seek_6 : decode cFF_seek 6 = .ok (.getfield 40, 3) := by decide +kernel
theorem dFF_seek_9 : decode cFF_seek 9 = .ok (.getfield 131, 3) := by decide +kernel
theorem dFF_seek_12 : decode cFF_seek 12 = .ok (.if_icmp .le 5, 3) := by decide +kernel
theorem dFF_seek_15 : decode cFF_seek 15 = .ok (.iconst 0, 1) := by decide +kernel
theorem dFF_seek_16 : decode cFF_seek 16 = .ok (.ireturn, 1) := by decide +kernel
theorem dFF_seek_17 : decode cFF_seek 17 = .ok (.aload_n 0, 1) := by decide +kernel
theorem dFF_seek_18 : decode cFF_seek 18 = .ok (.getfield 40, 3) := by decide +kernel
theorem dFF_seek_21 : decode cFF_seek 21 = .ok (.iload_n 1, 1) := by decide +kernel
theorem dFF_seek_22 : decode cFF_seek 22 = .ok (.putfield 155, 3) := by decide +kernel
theorem dFF_seek_25 : decode cFF_seek 25 = .ok (.iconst 1, 1) := by decide +kernel
theorem dFF_seek_26 : decode cFF_seek 26 = .ok (.ireturn, 1) := by decide +kernel
theorem dFF_cut_0 : decode cFF_cut 0 = .ok (.iload_n 1, 1) := by decide +kernel
theorem dFF_cut_1 : decode cFF_cut 1 = .ok (.ifCond .lt 14, 3) := by decide +kernel
theorem dFF_cut_4 : decode cFF_cut 4 = .ok (.iload_n 1, 1) := by decide +kernel
theorem dFF_cut_5 : decode cFF_cut 5 = .ok (.aload_n 0, 1) := by decide +kernel
theorem dFF_cut_6 : decode cFF_cut 6 = .ok (.getfield 40, 3) := by decide +kernel
theorem dFF_cut_9 : decode cFF_cut 9 = .ok (.getfield 131, 3) := by decide +kernel
theorem dFF_cut_12 : decode cFF_cut 12 = .ok (.if_icmp .le 5, 3) := by decide +kernel
theorem dFF_cut_15 : decode cFF_cut 15 = .ok (.iconst 0, 1) := by decide +kernel
theorem dFF_cut_16 : decode cFF_cut 16 = .ok (.ireturn, 1) := by decide +kernel
theorem dFF_cut_17 : decode cFF_cut 17 = .ok (.aload_n 0, 1) := by decide +kernel
theorem dFF_cut_18 : decode cFF_cut 18 = .ok (.getfield 40, 3) := by decide +kernel
theorem dFF_cut_21 : decode cFF_cut 21 = .ok (.iload_n 1, 1) := by decide +kernel
theorem dFF_cut_22 : decode cFF_cut 22 = .ok (.putfield 131, 3) := by decide +kernel
theorem dFF_cut_25 : decode cFF_cut 25 = .ok (.aload_n 0, 1) := by decide +kernel
theorem dFF_cut_26 : decode cFF_cut 26 = .ok (.getfield 40, 3) := by decide +kernel
theorem dFF_cut_29 : decode cFF_cut 29 = .ok (.aload_n 0, 1) := by decide +kernel
theorem dFF_cut_30 : decode cFF_cut 30 = .ok (.getfield 40, 3) := by decide +kernel
theorem dFF_cut_33 : decode cFF_cut 33 = .ok (.getfield 155, 3) := by decide +kernel
theorem dFF_cut_36 : decode cFF_cut 36 = .ok (.iload_n 1, 1) := by decide +kernel
theorem dFF_cut_37 : decode cFF_cut 37 = .ok (.invokestatic 142, 3) := by decide +kernel
theorem dFF_cut_40 : decode cFF_cut 40 = .ok (.putfield 155, 3) := by decide +kernel
theorem dFF_cut_43 : decode cFF_cut 43 = .ok (.iconst 1, 1) := by decide +kernel
theorem dFF_cut_44 : decode cFF_cut 44 = .ok (.ireturn, 1) := by decide +kernel
theorem dFF_look_0 : decode cFF_look 0 = .ok (.iload_n 1, 1) := by decide +kernel
theorem dFF_look_1 : decode cFF_look 1 = .ok (.tableswitch 104 0 6 #[43, 51, 59, 67, 75, 83, 91], 43) := by decide +kernel
theorem dFF_look_44 : decode cFF_look 44 = .ok (.aload_n 0, 1) := by decide +kernel
theorem dFF_look_45 : decode cFF_look 45 = .ok (.getfield 19, 3) := by decide +kernel
theorem dFF_look_48 : decode cFF_look 48 = .ok (.getfield 73, 3) := by decide +kernel
theorem dFF_look_51 : decode cFF_look 51 = .ok (.ireturn, 1) := by decide +kernel
theorem dFF_look_52 : decode cFF_look 52 = .ok (.aload_n 0, 1) := by decide +kernel
theorem dFF_look_53 : decode cFF_look 53 = .ok (.getfield 12, 3) := by decide +kernel
theorem dFF_look_56 : decode cFF_look 56 = .ok (.getfield 55, 3) := by decide +kernel
theorem dFF_look_59 : decode cFF_look 59 = .ok (.ireturn, 1) := by decide +kernel
theorem dFF_look_60 : decode cFF_look 60 = .ok (.aload_n 0, 1) := by decide +kernel
theorem dFF_look_61 : decode cFF_look 61 = .ok (.getfield 40, 3) := by decide +kernel
theorem dFF_look_64 : decode cFF_look 64 = .ok (.getfield 131, 3) := by decide +kernel
theorem dFF_look_67 : decode cFF_look 67 = .ok (.ireturn, 1) := by decide +kernel
theorem dFF_look_68 : decode cFF_look 68 = .ok (.aload_n 0, 1) := by decide +kernel
theorem dFF_look_69 : decode cFF_look 69 = .ok (.getfield 40, 3) := by decide +kernel
theorem dFF_look_72 : decode cFF_look 72 = .ok (.getfield 155, 3) := by decide +kernel
theorem dFF_look_75 : decode cFF_look 75 = .ok (.ireturn, 1) := by decide +kernel
theorem dFF_look_76 : decode cFF_look 76 = .ok (.aload_n 0, 1) := by decide +kernel
theorem dFF_look_77 : decode cFF_look 77 = .ok (.getfield 26, 3) := by decide +kernel
theorem dFF_look_80 : decode cFF_look 80 = .ok (.getfield 84, 3) := by decide +kernel
theorem dFF_look_83 : decode cFF_look 83 = .ok (.ireturn, 1) := by decide +kernel
theorem dFF_look_84 : decode cFF_look 84 = .ok (.aload_n 0, 1) := by decide +kernel
theorem dFF_look_85 : decode cFF_look 85 = .ok (.getfield 26, 3) := by decide +kernel
theorem dFF_look_88 : decode cFF_look 88 = .ok (.invokevirtual 158, 3) := by decide +kernel
theorem dFF_look_91 : decode cFF_look 91 = .ok (.ireturn, 1) := by decide +kernel
theorem dFF_look_92 : decode cFF_look 92 = .ok (.aload_n 0, 1) := by decide +kernel
theorem dFF_look_93 : decode cFF_look 93 = .ok (.getfield 19, 3) := by decide +kernel
theorem dFF_look_96 : decode cFF_look 96 = .ok (.getfield 119, 3) := by decide +kernel
theorem dFF_look_99 : decode cFF_look 99 = .ok (.bipush 16, 2) := by decide +kernel
theorem dFF_look_101 : decode cFF_look 101 = .ok (.invokestatic 161, 3) := by decide +kernel
theorem dFF_look_104 : decode cFF_look 104 = .ok (.ireturn, 1) := by decide +kernel
theorem dFF_look_105 : decode cFF_look 105 = .ok (.iconst (-1), 1) := by decide +kernel
theorem dFF_look_106 : decode cFF_look 106 = .ok (.ireturn, 1) := by decide +kernel
theorem dFY_kinds_0 : decode cFY_kinds 0 = .ok (.iconst 0, 1) := by decide +kernel
theorem dFY_kinds_1 : decode cFY_kinds 1 = .ok (.istore_n 1, 1) := by decide +kernel
theorem dFY_kinds_2 : decode cFY_kinds 2 = .ok (.iconst 0, 1) := by decide +kernel
theorem dFY_kinds_3 : decode cFY_kinds 3 = .ok (.istore_n 2, 1) := by decide +kernel
theorem dFY_kinds_4 : decode cFY_kinds 4 = .ok (.iload_n 2, 1) := by decide +kernel
theorem dFY_kinds_5 : decode cFY_kinds 5 = .ok (.sipush 256, 3) := by decide +kernel
theorem dFY_kinds_8 : decode cFY_kinds 8 = .ok (.if_icmp .ge 21, 3) := by decide +kernel
theorem dFY_kinds_11 : decode cFY_kinds 11 = .ok (.aload_n 0, 1) := by decide +kernel
theorem dFY_kinds_12 : decode cFY_kinds 12 = .ok (.getfield 9, 3) := by decide +kernel
theorem dFY_kinds_15 : decode cFY_kinds 15 = .ok (.iload_n 2, 1) := by decide +kernel
theorem dFY_kinds_16 : decode cFY_kinds 16 = .ok (.iaload, 1) := by decide +kernel
theorem dFY_kinds_17 : decode cFY_kinds 17 = .ok (.ifCond .le 6, 3) := by decide +kernel
theorem dFY_kinds_20 : decode cFY_kinds 20 = .ok (.iinc 1 1, 3) := by decide +kernel
theorem dFY_kinds_23 : decode cFY_kinds 23 = .ok (.iinc 2 1, 3) := by decide +kernel
theorem dFY_kinds_26 : decode cFY_kinds 26 = .ok (.goto (-22), 3) := by decide +kernel
theorem dFY_kinds_29 : decode cFY_kinds 29 = .ok (.iload_n 1, 1) := by decide +kernel
theorem dFY_kinds_30 : decode cFY_kinds 30 = .ok (.ireturn, 1) := by decide +kernel
theorem dLL_comes_0 : decode cLL_comes 0 = .ok (.aload_n 3, 1) := by decide +kernel
theorem dLL_comes_1 : decode cLL_comes 1 = .ok (.iconst 0, 1) := by decide +kernel
theorem dLL_comes_2 : decode cLL_comes 2 = .ok (.aload_n 0, 1) := by decide +kernel
theorem dLL_comes_3 : decode cLL_comes 3 = .ok (.iload_n 1, 1) := by decide +kernel
theorem dLL_comes_4 : decode cLL_comes 4 = .ok (.iload_n 2, 1) := by decide +kernel
theorem dLL_comes_5 : decode cLL_comes 5 = .ok (.invokevirtual 7, 3) := by decide +kernel
theorem dLL_comes_8 : decode cLL_comes 8 = .ok (.i2l, 1) := by decide +kernel
theorem dLL_comes_9 : decode cLL_comes 9 = .ok (.lastore, 1) := by decide +kernel
theorem dLL_comes_10 : decode cLL_comes 10 = .ok (.goto 11, 3) := by decide +kernel
theorem dLL_comes_13 : decode cLL_comes 13 = .ok (.astore 4, 2) := by decide +kernel
theorem dLL_comes_15 : decode cLL_comes 15 = .ok (.iconst 1, 1) := by decide +kernel
theorem dLL_comes_16 : decode cLL_comes 16 = .ok (.ireturn, 1) := by decide +kernel
theorem dLL_comes_17 : decode cLL_comes 17 = .ok (.astore 4, 2) := by decide +kernel
theorem dLL_comes_19 : decode cLL_comes 19 = .ok (.iconst 2, 1) := by decide +kernel
theorem dLL_comes_20 : decode cLL_comes 20 = .ok (.ireturn, 1) := by decide +kernel
theorem dLL_comes_21 : decode cLL_comes 21 = .ok (.iconst 0, 1) := by decide +kernel
theorem dLL_comes_22 : decode cLL_comes 22 = .ok (.ireturn, 1) := by decide +kernel
theorem dFF_comes_0 : decode cFF_comes 0 = .ok (.iload_n 1, 1) := by decide +kernel
theorem dFF_comes_1 : decode cFF_comes 1 = .ok (.invokestatic 52, 3) := by decide +kernel
theorem dFF_comes_4 : decode cFF_comes 4 = .ok (.ifCond .ne 13, 3) := by decide +kernel
theorem dFF_comes_7 : decode cFF_comes 7 = .ok (.new 74, 3) := by decide +kernel
theorem dFF_comes_10 : decode cFF_comes 10 = .ok (.dup, 1) := by decide +kernel
theorem dFF_comes_11 : decode cFF_comes 11 = .ok (.ldc 76, 2) := by decide +kernel
theorem dFF_comes_13 : decode cFF_comes 13 = .ok (.invokespecial 78, 3) := by decide +kernel
theorem dFF_comes_16 : decode cFF_comes 16 = .ok (.athrow, 1) := by decide +kernel
theorem dFF_comes_17 : decode cFF_comes 17 = .ok (.iload_n 2, 1) := by decide +kernel
theorem dFF_comes_18 : decode cFF_comes 18 = .ok (.ifCond .ge 13, 3) := by decide +kernel
theorem dFF_comes_21 : decode cFF_comes 21 = .ok (.new 74, 3) := by decide +kernel
theorem dFF_comes_24 : decode cFF_comes 24 = .ok (.dup, 1) := by decide +kernel
theorem dFF_comes_25 : decode cFF_comes 25 = .ok (.ldc 81, 2) := by decide +kernel
theorem dFF_comes_27 : decode cFF_comes 27 = .ok (.invokespecial 78, 3) := by decide +kernel
theorem dFF_comes_30 : decode cFF_comes 30 = .ok (.athrow, 1) := by decide +kernel
theorem dFF_comes_31 : decode cFF_comes 31 = .ok (.iload_n 2, 1) := by decide +kernel
theorem dFF_comes_32 : decode cFF_comes 32 = .ok (.ldc 83, 2) := by decide +kernel
theorem dFF_comes_34 : decode cFF_comes 34 = .ok (.aload_n 0, 1) := by decide +kernel
theorem dFF_comes_35 : decode cFF_comes 35 = .ok (.getfield 26, 3) := by decide +kernel
theorem dFF_comes_38 : decode cFF_comes 38 = .ok (.getfield 84, 3) := by decide +kernel
theorem dFF_comes_41 : decode cFF_comes 41 = .ok (.isub, 1) := by decide +kernel
theorem dFF_comes_42 : decode cFF_comes 42 = .ok (.if_icmp .le 13, 3) := by decide +kernel
theorem dFF_comes_45 : decode cFF_comes 45 = .ok (.new 87, 3) := by decide +kernel
theorem dFF_comes_48 : decode cFF_comes 48 = .ok (.dup, 1) := by decide +kernel
theorem dFF_comes_49 : decode cFF_comes 49 = .ok (.ldc 89, 2) := by decide +kernel
theorem dFF_comes_51 : decode cFF_comes 51 = .ok (.invokespecial 91, 3) := by decide +kernel
theorem dFF_comes_54 : decode cFF_comes 54 = .ok (.athrow, 1) := by decide +kernel
theorem dFF_comes_55 : decode cFF_comes 55 = .ok (.aload_n 0, 1) := by decide +kernel
theorem dFF_comes_56 : decode cFF_comes 56 = .ok (.getfield 26, 3) := by decide +kernel
theorem dFF_comes_59 : decode cFF_comes 59 = .ok (.iload_n 1, 1) := by decide +kernel
theorem dFF_comes_60 : decode cFF_comes 60 = .ok (.iload_n 2, 1) := by decide +kernel
theorem dFF_comes_61 : decode cFF_comes 61 = .ok (.invokevirtual 92, 3) := by decide +kernel
theorem dFF_comes_64 : decode cFF_comes 64 = .ok (.aload_n 0, 1) := by decide +kernel
theorem dFF_comes_65 : decode cFF_comes 65 = .ok (.getfield 26, 3) := by decide +kernel
theorem dFF_comes_68 : decode cFF_comes 68 = .ok (.getfield 96, 3) := by decide +kernel
theorem dFF_comes_71 : decode cFF_comes 71 = .ok (.iload_n 1, 1) := by decide +kernel
theorem dFF_comes_72 : decode cFF_comes 72 = .ok (.iaload, 1) := by decide +kernel
theorem dFF_comes_73 : decode cFF_comes 73 = .ok (.ireturn, 1) := by decide +kernel
theorem dFY_add_0 : decode cFY_add 0 = .ok (.aload_n 0, 1) := by decide +kernel
theorem dFY_add_1 : decode cFY_add 1 = .ok (.getfield 9, 3) := by decide +kernel
theorem dFY_add_4 : decode cFY_add 4 = .ok (.iload_n 1, 1) := by decide +kernel
theorem dFY_add_5 : decode cFY_add 5 = .ok (.dup2, 1) := by decide +kernel
theorem dFY_add_6 : decode cFY_add 6 = .ok (.iaload, 1) := by decide +kernel
theorem dFY_add_7 : decode cFY_add 7 = .ok (.iload_n 2, 1) := by decide +kernel
theorem dFY_add_8 : decode cFY_add 8 = .ok (.iadd, 1) := by decide +kernel
theorem dFY_add_9 : decode cFY_add 9 = .ok (.iastore, 1) := by decide +kernel
theorem dFY_add_10 : decode cFY_add 10 = .ok (.aload_n 0, 1) := by decide +kernel
theorem dFY_add_11 : decode cFY_add 11 = .ok (.dup, 1) := by decide +kernel
theorem dFY_add_12 : decode cFY_add 12 = .ok (.getfield 15, 3) := by decide +kernel
theorem dFY_add_15 : decode cFY_add 15 = .ok (.iload_n 2, 1) := by decide +kernel
theorem dFY_add_16 : decode cFY_add 16 = .ok (.iadd, 1) := by decide +kernel
theorem dFY_add_17 : decode cFY_add 17 = .ok (.putfield 15, 3) := by decide +kernel
theorem dFY_add_20 : decode cFY_add 20 = .ok (.return_, 1) := by decide +kernel
theorem dLL_put_0 : decode cLL_put 0 = .ok (.aload_n 2, 1) := by decide +kernel
theorem dLL_put_1 : decode cLL_put 1 = .ok (.iconst 0, 1) := by decide +kernel
theorem dLL_put_2 : decode cLL_put 2 = .ok (.aload_n 0, 1) := by decide +kernel
theorem dLL_put_3 : decode cLL_put 3 = .ok (.iload_n 1, 1) := by decide +kernel
theorem dLL_put_4 : decode cLL_put 4 = .ok (.invokevirtual 17, 3) := by decide +kernel
theorem dLL_put_7 : decode cLL_put 7 = .ok (.i2l, 1) := by decide +kernel
theorem dLL_put_8 : decode cLL_put 8 = .ok (.lastore, 1) := by decide +kernel
theorem dLL_put_9 : decode cLL_put 9 = .ok (.goto 9, 3) := by decide +kernel
theorem dLL_put_12 : decode cLL_put 12 = .ok (.astore_n 3, 1) := by decide +kernel
theorem dLL_put_13 : decode cLL_put 13 = .ok (.iconst 1, 1) := by decide +kernel
theorem dLL_put_14 : decode cLL_put 14 = .ok (.ireturn, 1) := by decide +kernel
theorem dLL_put_15 : decode cLL_put 15 = .ok (.astore_n 3, 1) := by decide +kernel
theorem dLL_put_16 : decode cLL_put 16 = .ok (.iconst 2, 1) := by decide +kernel
theorem dLL_put_17 : decode cLL_put 17 = .ok (.ireturn, 1) := by decide +kernel
theorem dLL_put_18 : decode cLL_put 18 = .ok (.iconst 0, 1) := by decide +kernel
theorem dLL_put_19 : decode cLL_put 19 = .ok (.ireturn, 1) := by decide +kernel
theorem dFF_put_0 : decode cFF_put 0 = .ok (.aload_n 0, 1) := by decide +kernel
theorem dFF_put_1 : decode cFF_put 1 = .ok (.getfield 19, 3) := by decide +kernel
theorem dFF_put_4 : decode cFF_put 4 = .ok (.iload_n 1, 1) := by decide +kernel
theorem dFF_put_5 : decode cFF_put 5 = .ok (.invokevirtual 110, 3) := by decide +kernel
theorem dFF_put_8 : decode cFF_put 8 = .ok (.ifCond .ne 13, 3) := by decide +kernel
theorem dFF_put_11 : decode cFF_put 11 = .ok (.new 74, 3) := by decide +kernel
theorem dFF_put_14 : decode cFF_put 14 = .ok (.dup, 1) := by decide +kernel
theorem dFF_put_15 : decode cFF_put 15 = .ok (.ldc 121, 2) := by decide +kernel
theorem dFF_put_17 : decode cFF_put 17 = .ok (.invokespecial 78, 3) := by decide +kernel
theorem dFF_put_20 : decode cFF_put 20 = .ok (.athrow, 1) := by decide +kernel
theorem dFF_put_21 : decode cFF_put 21 = .ok (.aload_n 0, 1) := by decide +kernel
theorem dFF_put_22 : decode cFF_put 22 = .ok (.getfield 40, 3) := by decide +kernel
theorem dFF_put_25 : decode cFF_put 25 = .ok (.aload_n 0, 1) := by decide +kernel
theorem dFF_put_26 : decode cFF_put 26 = .ok (.getfield 19, 3) := by decide +kernel
theorem dFF_put_29 : decode cFF_put 29 = .ok (.getfield 113, 3) := by decide +kernel
theorem dFF_put_32 : decode cFF_put 32 = .ok (.iload_n 1, 1) := by decide +kernel
theorem dFF_put_33 : decode cFF_put 33 = .ok (.iaload, 1) := by decide +kernel
theorem dFF_put_34 : decode cFF_put 34 = .ok (.invokevirtual 123, 3) := by decide +kernel
theorem dFF_put_37 : decode cFF_put 37 = .ok (.ifCond .ne 13, 3) := by decide +kernel
theorem dFF_put_40 : decode cFF_put 40 = .ok (.new 87, 3) := by decide +kernel
theorem dFF_put_43 : decode cFF_put 43 = .ok (.dup, 1) := by decide +kernel
theorem dFF_put_44 : decode cFF_put 44 = .ok (.ldc 126, 2) := by decide +kernel
theorem dFF_put_46 : decode cFF_put 46 = .ok (.invokespecial 91, 3) := by decide +kernel
theorem dFF_put_49 : decode cFF_put 49 = .ok (.athrow, 1) := by decide +kernel
theorem dFF_put_50 : decode cFF_put 50 = .ok (.aload_n 0, 1) := by decide +kernel
theorem dFF_put_51 : decode cFF_put 51 = .ok (.getfield 40, 3) := by decide +kernel
theorem dFF_put_54 : decode cFF_put 54 = .ok (.aload_n 0, 1) := by decide +kernel
theorem dFF_put_55 : decode cFF_put 55 = .ok (.getfield 19, 3) := by decide +kernel
theorem dFF_put_58 : decode cFF_put 58 = .ok (.getfield 116, 3) := by decide +kernel
theorem dFF_put_61 : decode cFF_put 61 = .ok (.iload_n 1, 1) := by decide +kernel
theorem dFF_put_62 : decode cFF_put 62 = .ok (.iaload, 1) := by decide +kernel
theorem dFF_put_63 : decode cFF_put 63 = .ok (.aload_n 0, 1) := by decide +kernel
theorem dFF_put_64 : decode cFF_put 64 = .ok (.getfield 19, 3) := by decide +kernel
theorem dFF_put_67 : decode cFF_put 67 = .ok (.getfield 113, 3) := by decide +kernel
theorem dFF_put_70 : decode cFF_put 70 = .ok (.iload_n 1, 1) := by decide +kernel
theorem dFF_put_71 : decode cFF_put 71 = .ok (.iaload, 1) := by decide +kernel
theorem dFF_put_72 : decode cFF_put 72 = .ok (.invokevirtual 128, 3) := by decide +kernel
theorem dFF_put_75 : decode cFF_put 75 = .ok (.aload_n 0, 1) := by decide +kernel
theorem dFF_put_76 : decode cFF_put 76 = .ok (.getfield 40, 3) := by decide +kernel
theorem dFF_put_79 : decode cFF_put 79 = .ok (.getfield 131, 3) := by decide +kernel
theorem dFF_put_82 : decode cFF_put 82 = .ok (.ireturn, 1) := by decide +kernel
theorem dFR_hasRoom_0 : decode cFR_hasRoom 0 = .ok (.iload_n 1, 1) := by decide +kernel
theorem dFR_hasRoom_1 : decode cFR_hasRoom 1 = .ok (.ldc 15, 2) := by decide +kernel
theorem dFR_hasRoom_3 : decode cFR_hasRoom 3 = .ok (.aload_n 0, 1) := by decide +kernel
theorem dFR_hasRoom_4 : decode cFR_hasRoom 4 = .ok (.getfield 16, 3) := by decide +kernel
theorem dFR_hasRoom_7 : decode cFR_hasRoom 7 = .ok (.isub, 1) := by decide +kernel
theorem dFR_hasRoom_8 : decode cFR_hasRoom 8 = .ok (.if_icmp .gt 7, 3) := by decide +kernel
theorem dFR_hasRoom_11 : decode cFR_hasRoom 11 = .ok (.iconst 1, 1) := by decide +kernel
theorem dFR_hasRoom_12 : decode cFR_hasRoom 12 = .ok (.goto 4, 3) := by decide +kernel
theorem dFR_hasRoom_15 : decode cFR_hasRoom 15 = .ok (.iconst 0, 1) := by decide +kernel
theorem dFR_hasRoom_16 : decode cFR_hasRoom 16 = .ok (.ireturn, 1) := by decide +kernel
theorem dFR_append_0 : decode cFR_append 0 = .ok (.iload_n 2, 1) := by decide +kernel
theorem dFR_append_1 : decode cFR_append 1 = .ok (.iconst 1, 1) := by decide +kernel
theorem dFR_append_2 : decode cFR_append 2 = .ok (.isub, 1) := by decide +kernel
theorem dFR_append_3 : decode cFR_append 3 = .ok (.istore_n 3, 1) := by decide +kernel
theorem dFR_append_4 : decode cFR_append 4 = .ok (.iload_n 3, 1) := by decide +kernel
theorem dFR_append_5 : decode cFR_append 5 = .ok (.ifCond .lt 80, 3) := by decide +kernel
theorem dFR_append_8 : decode cFR_append 8 = .ok (.aload_n 0, 1) := by decide +kernel
theorem dFR_append_9 : decode cFR_append 9 = .ok (.getfield 16, 3) := by decide +kernel
theorem dFR_append_12 : decode cFR_append 12 = .ok (.bipush 32, 2) := by decide +kernel
theorem dFR_append_14 : decode cFR_append 14 = .ok (.idiv, 1) := by decide +kernel
theorem dFR_append_15 : decode cFR_append 15 = .ok (.istore 4, 2) := by decide +kernel
theorem dFR_append_17 : decode cFR_append 17 = .ok (.iconst 1, 1) := by decide +kernel
theorem dFR_append_18 : decode cFR_append 18 = .ok (.aload_n 0, 1) := by decide +kernel
theorem dFR_append_19 : decode cFR_append 19 = .ok (.getfield 16, 3) := by decide +kernel
theorem dFR_append_22 : decode cFR_append 22 = .ok (.bipush 32, 2) := by decide +kernel
theorem dFR_append_24 : decode cFR_append 24 = .ok (.irem, 1) := by decide +kernel
theorem dFR_append_25 : decode cFR_append 25 = .ok (.ishl, 1) := by decide +kernel
theorem dFR_append_26 : decode cFR_append 26 = .ok (.istore 5, 2) := by decide +kernel
theorem dFR_append_28 : decode cFR_append 28 = .ok (.aload_n 0, 1) := by decide +kernel
theorem dFR_append_29 : decode cFR_append 29 = .ok (.getfield 9, 3) := by decide +kernel
theorem dFR_append_32 : decode cFR_append 32 = .ok (.iload 4, 2) := by decide +kernel
theorem dFR_append_34 : decode cFR_append 34 = .ok (.iload_n 1, 1) := by decide +kernel
theorem dFR_append_35 : decode cFR_append 35 = .ok (.iload_n 3, 1) := by decide +kernel
theorem dFR_append_36 : decode cFR_append 36 = .ok (.ishr, 1) := by decide +kernel
theorem dFR_append_37 : decode cFR_append 37 = .ok (.iconst 1, 1) := by decide +kernel
theorem dFR_append_38 : decode cFR_append 38 = .ok (.iand, 1) := by decide +kernel
theorem dFR_append_39 : decode cFR_append 39 = .ok (.iconst 1, 1) := by decide +kernel
theorem dFR_append_40 : decode cFR_append 40 = .ok (.if_icmp .ne 16, 3) := by decide +kernel
theorem dFR_append_43 : decode cFR_append 43 = .ok (.aload_n 0, 1) := by decide +kernel
theorem dFR_append_44 : decode cFR_append 44 = .ok (.getfield 9, 3) := by decide +kernel
theorem dFR_append_47 : decode cFR_append 47 = .ok (.iload 4, 2) := by decide +kernel
theorem dFR_append_49 : decode cFR_append 49 = .ok (.iaload, 1) := by decide +kernel
theorem dFR_append_50 : decode cFR_append 50 = .ok (.iload 5, 2) := by decide +kernel
theorem dFR_append_52 : decode cFR_append 52 = .ok (.ior, 1) := by decide +kernel
theorem dFR_append_53 : decode cFR_append 53 = .ok (.goto 15, 3) := by decide +kernel
theorem dFR_append_56 : decode cFR_append 56 = .ok (.aload_n 0, 1) := by decide +kernel
theorem dFR_append_57 : decode cFR_append 57 = .ok (.getfield 9, 3) := by decide +kernel
theorem dFR_append_60 : decode cFR_append 60 = .ok (.iload 4, 2) := by decide +kernel
theorem dFR_append_62 : decode cFR_append 62 = .ok (.iaload, 1) := by decide +kernel
theorem dFR_append_63 : decode cFR_append 63 = .ok (.iload 5, 2) := by decide +kernel
theorem dFR_append_65 : decode cFR_append 65 = .ok (.iconst (-1), 1) := by decide +kernel
theorem dFR_append_66 : decode cFR_append 66 = .ok (.ixor, 1) := by decide +kernel
theorem dFR_append_67 : decode cFR_append 67 = .ok (.iand, 1) := by decide +kernel
theorem dFR_append_68 : decode cFR_append 68 = .ok (.iastore, 1) := by decide +kernel
theorem dFR_append_69 : decode cFR_append 69 = .ok (.aload_n 0, 1) := by decide +kernel
theorem dFR_append_70 : decode cFR_append 70 = .ok (.dup, 1) := by decide +kernel
theorem dFR_append_71 : decode cFR_append 71 = .ok (.getfield 16, 3) := by decide +kernel
theorem dFR_append_74 : decode cFR_append 74 = .ok (.iconst 1, 1) := by decide +kernel
theorem dFR_append_75 : decode cFR_append 75 = .ok (.iadd, 1) := by decide +kernel
theorem dFR_append_76 : decode cFR_append 76 = .ok (.putfield 16, 3) := by decide +kernel
theorem dFR_append_79 : decode cFR_append 79 = .ok (.iinc 3 (-1), 3) := by decide +kernel
theorem dFR_append_82 : decode cFR_append 82 = .ok (.goto (-78), 3) := by decide +kernel
theorem dFR_append_85 : decode cFR_append 85 = .ok (.return_, 1) := by decide +kernel
