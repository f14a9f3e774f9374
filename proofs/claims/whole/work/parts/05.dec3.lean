theorem dMM_shorten_0 : decode cMM_shorten 0 = .ok (.iconst 0, 1) := by decide +kernel
theorem dMM_shorten_1 : decode cMM_shorten 1 = .ok (.istore_n 1, 1) := by decide +kernel
theorem dMM_shorten_2 : decode cMM_shorten 2 = .ok (.iload_n 1, 1) := by decide +kernel
theorem dMM_shorten_3 : decode cMM_shorten 3 = .ok (.sipush 300, 3) := by decide +kernel
theorem dMM_shorten_6 : decode cMM_shorten 6 = .ok (.if_icmp .ge 16, 3) := by decide +kernel
theorem dMM_shorten_9 : decode cMM_shorten 9 = .ok (.aload_n 0, 1) := by decide +kernel
theorem dMM_shorten_10 : decode cMM_shorten 10 = .ok (.getfield 45, 3) := by decide +kernel
theorem dMM_shorten_13 : decode cMM_shorten 13 = .ok (.iload_n 1, 1) := by decide +kernel
theorem dMM_shorten_14 : decode cMM_shorten 14 = .ok (.iconst 0, 1) := by decide +kernel
theorem dMM_shorten_15 : decode cMM_shorten 15 = .ok (.iastore, 1) := by decide +kernel
theorem dMM_shorten_16 : decode cMM_shorten 16 = .ok (.iinc 1 1, 3) := by decide +kernel
theorem dMM_shorten_19 : decode cMM_shorten 19 = .ok (.goto (-17), 3) := by decide +kernel
theorem dMM_shorten_22 : decode cMM_shorten 22 = .ok (.iconst 0, 1) := by decide +kernel
theorem dMM_shorten_23 : decode cMM_shorten 23 = .ok (.istore_n 1, 1) := by decide +kernel
theorem dMM_shorten_24 : decode cMM_shorten 24 = .ok (.iload_n 1, 1) := by decide +kernel
theorem dMM_shorten_25 : decode cMM_shorten 25 = .ok (.sipush 256, 3) := by decide +kernel
theorem dMM_shorten_28 : decode cMM_shorten 28 = .ok (.if_icmp .gt 40, 3) := by decide +kernel
theorem dMM_shorten_31 : decode cMM_shorten 31 = .ok (.iload_n 1, 1) := by decide +kernel
theorem dMM_shorten_32 : decode cMM_shorten 32 = .ok (.sipush 256, 3) := by decide +kernel
theorem dMM_shorten_35 : decode cMM_shorten 35 = .ok (.if_icmp .eq 12, 3) := by decide +kernel
theorem dMM_shorten_38 : decode cMM_shorten 38 = .ok (.aload_n 0, 1) := by decide +kernel
theorem dMM_shorten_39 : decode cMM_shorten 39 = .ok (.getfield 28, 3) := by decide +kernel
theorem dMM_shorten_42 : decode cMM_shorten 42 = .ok (.iload_n 1, 1) := by decide +kernel
theorem dMM_shorten_43 : decode cMM_shorten 43 = .ok (.iaload, 1) := by decide +kernel
theorem dMM_shorten_44 : decode cMM_shorten 44 = .ok (.ifCond .le 18, 3) := by decide +kernel
theorem dMM_shorten_47 : decode cMM_shorten 47 = .ok (.aload_n 0, 1) := by decide +kernel
theorem dMM_shorten_48 : decode cMM_shorten 48 = .ok (.getfield 45, 3) := by decide +kernel
theorem dMM_shorten_51 : decode cMM_shorten 51 = .ok (.aload_n 0, 1) := by decide +kernel
theorem dMM_shorten_52 : decode cMM_shorten 52 = .ok (.getfield 42, 3) := by decide +kernel
theorem dMM_shorten_55 : decode cMM_shorten 55 = .ok (.iload_n 1, 1) := by decide +kernel
theorem dMM_shorten_56 : decode cMM_shorten 56 = .ok (.iaload, 1) := by decide +kernel
theorem dMM_shorten_57 : decode cMM_shorten 57 = .ok (.dup2, 1) := by decide +kernel
theorem dMM_shorten_58 : decode cMM_shorten 58 = .ok (.iaload, 1) := by decide +kernel
theorem dMM_shorten_59 : decode cMM_shorten 59 = .ok (.iconst 1, 1) := by decide +kernel
theorem dMM_shorten_60 : decode cMM_shorten 60 = .ok (.iadd, 1) := by decide +kernel
theorem dMM_shorten_61 : decode cMM_shorten 61 = .ok (.iastore, 1) := by decide +kernel
theorem dMM_shorten_62 : decode cMM_shorten 62 = .ok (.iinc 1 1, 3) := by decide +kernel
theorem dMM_shorten_65 : decode cMM_shorten 65 = .ok (.goto (-41), 3) := by decide +kernel
theorem dMM_shorten_68 : decode cMM_shorten 68 = .ok (.sipush 299, 3) := by decide +kernel
theorem dMM_shorten_71 : decode cMM_shorten 71 = .ok (.istore_n 1, 1) := by decide +kernel
theorem dMM_shorten_72 : decode cMM_shorten 72 = .ok (.iload_n 1, 1) := by decide +kernel
theorem dMM_shorten_73 : decode cMM_shorten 73 = .ok (.bipush 16, 2) := by decide +kernel
theorem dMM_shorten_75 : decode cMM_shorten 75 = .ok (.if_icmp .le 84, 3) := by decide +kernel
theorem dMM_shorten_78 : decode cMM_shorten 78 = .ok (.aload_n 0, 1) := by decide +kernel
theorem dMM_shorten_79 : decode cMM_shorten 79 = .ok (.getfield 45, 3) := by decide +kernel
theorem dMM_shorten_82 : decode cMM_shorten 82 = .ok (.iload_n 1, 1) := by decide +kernel
theorem dMM_shorten_83 : decode cMM_shorten 83 = .ok (.iaload, 1) := by decide +kernel
theorem dMM_shorten_84 : decode cMM_shorten 84 = .ok (.ifCond .le 69, 3) := by decide +kernel
theorem dMM_shorten_87 : decode cMM_shorten 87 = .ok (.iload_n 1, 1) := by decide +kernel
theorem dMM_shorten_88 : decode cMM_shorten 88 = .ok (.iconst 2, 1) := by decide +kernel
theorem dMM_shorten_89 : decode cMM_shorten 89 = .ok (.isub, 1) := by decide +kernel
theorem dMM_shorten_90 : decode cMM_shorten 90 = .ok (.istore_n 2, 1) := by decide +kernel
theorem dMM_shorten_91 : decode cMM_shorten 91 = .ok (.aload_n 0, 1) := by decide +kernel
theorem dMM_shorten_92 : decode cMM_shorten 92 = .ok (.getfield 45, 3) := by decide +kernel
theorem dMM_shorten_95 : decode cMM_shorten 95 = .ok (.iload_n 2, 1) := by decide +kernel
theorem dMM_shorten_96 : decode cMM_shorten 96 = .ok (.iaload, 1) := by decide +kernel
theorem dMM_shorten_97 : decode cMM_shorten 97 = .ok (.ifCond .ne 9, 3) := by decide +kernel
theorem dMM_shorten_100 : decode cMM_shorten 100 = .ok (.iinc 2 (-1), 3) := by decide +kernel
theorem dMM_shorten_103 : decode cMM_shorten 103 = .ok (.goto (-12), 3) := by decide +kernel
theorem dMM_shorten_106 : decode cMM_shorten 106 = .ok (.aload_n 0, 1) := by decide +kernel
theorem dMM_shorten_107 : decode cMM_shorten 107 = .ok (.getfield 45, 3) := by decide +kernel
theorem dMM_shorten_110 : decode cMM_shorten 110 = .ok (.iload_n 1, 1) := by decide +kernel
theorem dMM_shorten_111 : decode cMM_shorten 111 = .ok (.dup2, 1) := by decide +kernel
theorem dMM_shorten_112 : decode cMM_shorten 112 = .ok (.iaload, 1) := by decide +kernel
theorem dMM_shorten_113 : decode cMM_shorten 113 = .ok (.iconst 2, 1) := by decide +kernel
theorem dMM_shorten_114 : decode cMM_shorten 114 = .ok (.isub, 1) := by decide +kernel
theorem dMM_shorten_115 : decode cMM_shorten 115 = .ok (.iastore, 1) := by decide +kernel
theorem dMM_shorten_116 : decode cMM_shorten 116 = .ok (.aload_n 0, 1) := by decide +kernel
theorem dMM_shorten_117 : decode cMM_shorten 117 = .ok (.getfield 45, 3) := by decide +kernel
theorem dMM_shorten_120 : decode cMM_shorten 120 = .ok (.iload_n 1, 1) := by decide +kernel
theorem dMM_shorten_121 : decode cMM_shorten 121 = .ok (.iconst 1, 1) := by decide +kernel
theorem dMM_shorten_122 : decode cMM_shorten 122 = .ok (.isub, 1) := by decide +kernel
theorem dMM_shorten_123 : decode cMM_shorten 123 = .ok (.dup2, 1) := by decide +kernel
theorem dMM_shorten_124 : decode cMM_shorten 124 = .ok (.iaload, 1) := by decide +kernel
theorem dMM_shorten_125 : decode cMM_shorten 125 = .ok (.iconst 1, 1) := by decide +kernel
theorem dMM_shorten_126 : decode cMM_shorten 126 = .ok (.iadd, 1) := by decide +kernel
theorem dMM_shorten_127 : decode cMM_shorten 127 = .ok (.iastore, 1) := by decide +kernel
theorem dMM_shorten_128 : decode cMM_shorten 128 = .ok (.aload_n 0, 1) := by decide +kernel
theorem dMM_shorten_129 : decode cMM_shorten 129 = .ok (.getfield 45, 3) := by decide +kernel
theorem dMM_shorten_132 : decode cMM_shorten 132 = .ok (.iload_n 2, 1) := by decide +kernel
theorem dMM_shorten_133 : decode cMM_shorten 133 = .ok (.iconst 1, 1) := by decide +kernel
theorem dMM_shorten_134 : decode cMM_shorten 134 = .ok (.iadd, 1) := by decide +kernel
theorem dMM_shorten_135 : decode cMM_shorten 135 = .ok (.dup2, 1) := by decide +kernel
theorem dMM_shorten_136 : decode cMM_shorten 136 = .ok (.iaload, 1) := by decide +kernel
theorem dMM_shorten_137 : decode cMM_shorten 137 = .ok (.iconst 2, 1) := by decide +kernel
theorem dMM_shorten_138 : decode cMM_shorten 138 = .ok (.iadd, 1) := by decide +kernel
theorem dMM_shorten_139 : decode cMM_shorten 139 = .ok (.iastore, 1) := by decide +kernel
theorem dMM_shorten_140 : decode cMM_shorten 140 = .ok (.aload_n 0, 1) := by decide +kernel
theorem dMM_shorten_141 : decode cMM_shorten 141 = .ok (.getfield 45, 3) := by decide +kernel
theorem dMM_shorten_144 : decode cMM_shorten 144 = .ok (.iload_n 2, 1) := by decide +kernel
theorem dMM_shorten_145 : decode cMM_shorten 145 = .ok (.dup2, 1) := by decide +kernel
theorem dMM_shorten_146 : decode cMM_shorten 146 = .ok (.iaload, 1) := by decide +kernel
theorem dMM_shorten_147 : decode cMM_shorten 147 = .ok (.iconst 1, 1) := by decide +kernel
theorem dMM_shorten_148 : decode cMM_shorten 148 = .ok (.isub, 1) := by decide +kernel
theorem dMM_shorten_149 : decode cMM_shorten 149 = .ok (.iastore, 1) := by decide +kernel
theorem dMM_shorten_150 : decode cMM_shorten 150 = .ok (.goto (-72), 3) := by decide +kernel
theorem dMM_shorten_153 : decode cMM_shorten 153 = .ok (.iinc 1 (-1), 3) := by decide +kernel
theorem dMM_shorten_156 : decode cMM_shorten 156 = .ok (.goto (-84), 3) := by decide +kernel
theorem dMM_shorten_159 : decode cMM_shorten 159 = .ok (.bipush 16, 2) := by decide +kernel
theorem dMM_shorten_161 : decode cMM_shorten 161 = .ok (.istore_n 1, 1) := by decide +kernel
theorem dMM_shorten_162 : decode cMM_shorten 162 = .ok (.aload_n 0, 1) := by decide +kernel
theorem dMM_shorten_163 : decode cMM_shorten 163 = .ok (.getfield 45, 3) := by decide +kernel
theorem dMM_shorten_166 : decode cMM_shorten 166 = .ok (.iload_n 1, 1) := by decide +kernel
theorem dMM_shorten_167 : decode cMM_shorten 167 = .ok (.iaload, 1) := by decide +kernel
theorem dMM_shorten_168 : decode cMM_shorten 168 = .ok (.ifCond .ne 9, 3) := by decide +kernel
theorem dMM_shorten_171 : decode cMM_shorten 171 = .ok (.iinc 1 (-1), 3) := by decide +kernel
theorem dMM_shorten_174 : decode cMM_shorten 174 = .ok (.goto (-12), 3) := by decide +kernel
theorem dMM_shorten_177 : decode cMM_shorten 177 = .ok (.aload_n 0, 1) := by decide +kernel
theorem dMM_shorten_178 : decode cMM_shorten 178 = .ok (.getfield 45, 3) := by decide +kernel
theorem dMM_shorten_181 : decode cMM_shorten 181 = .ok (.iload_n 1, 1) := by decide +kernel
theorem dMM_shorten_182 : decode cMM_shorten 182 = .ok (.dup2, 1) := by decide +kernel
theorem dMM_shorten_183 : decode cMM_shorten 183 = .ok (.iaload, 1) := by decide +kernel
theorem dMM_shorten_184 : decode cMM_shorten 184 = .ok (.iconst 1, 1) := by decide +kernel
theorem dMM_shorten_185 : decode cMM_shorten 185 = .ok (.isub, 1) := by decide +kernel
theorem dMM_shorten_186 : decode cMM_shorten 186 = .ok (.iastore, 1) := by decide +kernel
theorem dMM_shorten_187 : decode cMM_shorten 187 = .ok (.return_, 1) := by decide +kernel
theorem dMM_length_0 : decode cMM_length 0 = .ok (.aload_n 0, 1) := by decide +kernel
theorem dMM_length_1 : decode cMM_length 1 = .ok (.iconst 0, 1) := by decide +kernel
theorem dMM_length_2 : decode cMM_length 2 = .ok (.putfield 48, 3) := by decide +kernel
theorem dMM_length_5 : decode cMM_length 5 = .ok (.iload_n 1, 1) := by decide +kernel
theorem dMM_length_6 : decode cMM_length 6 = .ok (.invokestatic 52, 3) := by decide +kernel
theorem dMM_length_9 : decode cMM_length 9 = .ok (.ifCond .eq 12, 3) := by decide +kernel
theorem dMM_length_12 : decode cMM_length 12 = .ok (.aload_n 0, 1) := by decide +kernel
theorem dMM_length_13 : decode cMM_length 13 = .ok (.getfield 22, 3) := by decide +kernel
theorem dMM_length_16 : decode cMM_length 16 = .ok (.iload_n 1, 1) := by decide +kernel
theorem dMM_length_17 : decode cMM_length 17 = .ok (.iaload, 1) := by decide +kernel
theorem dMM_length_18 : decode cMM_length 18 = .ok (.goto 4, 3) := by decide +kernel
theorem dMM_length_21 : decode cMM_length 21 = .ok (.iconst 0, 1) := by decide +kernel
theorem dMM_length_22 : decode cMM_length 22 = .ok (.ireturn, 1) := by decide +kernel
theorem dMM_code_0 : decode cMM_code 0 = .ok (.aload_n 0, 1) := by decide +kernel
theorem dMM_code_1 : decode cMM_code 1 = .ok (.iconst 0, 1) := by decide +kernel
theorem dMM_code_2 : decode cMM_code 2 = .ok (.putfield 48, 3) := by decide +kernel
theorem dMM_code_5 : decode cMM_code 5 = .ok (.iload_n 1, 1) := by decide +kernel
theorem dMM_code_6 : decode cMM_code 6 = .ok (.invokestatic 52, 3) := by decide +kernel
theorem dMM_code_9 : decode cMM_code 9 = .ok (.ifCond .eq 32, 3) := by decide +kernel
theorem dMM_code_12 : decode cMM_code 12 = .ok (.aload_n 0, 1) := by decide +kernel
theorem dMM_code_13 : decode cMM_code 13 = .ok (.getfield 22, 3) := by decide +kernel
theorem dMM_code_16 : decode cMM_code 16 = .ok (.iload_n 1, 1) := by decide +kernel
theorem dMM_code_17 : decode cMM_code 17 = .ok (.invokestatic 52, 3) := by decide +kernel
theorem dMM_code_20 : decode cMM_code 20 = .ok (.ifCond .eq 7, 3) := by decide +kernel
theorem dMM_code_23 : decode cMM_code 23 = .ok (.iload_n 1, 1) := by decide +kernel
theorem dMM_code_24 : decode cMM_code 24 = .ok (.goto 4, 3) := by decide +kernel
theorem dMM_code_27 : decode cMM_code 27 = .ok (.iconst 0, 1) := by decide +kernel
theorem dMM_code_28 : decode cMM_code 28 = .ok (.iaload, 1) := by decide +kernel
theorem dMM_code_29 : decode cMM_code 29 = .ok (.ifCond .le 12, 3) := by decide +kernel
theorem dMM_code_32 : decode cMM_code 32 = .ok (.aload_n 0, 1) := by decide +kernel
theorem dMM_code_33 : decode cMM_code 33 = .ok (.getfield 25, 3) := by decide +kernel
theorem dMM_code_36 : decode cMM_code 36 = .ok (.iload_n 1, 1) := by decide +kernel
theorem dMM_code_37 : decode cMM_code 37 = .ok (.iaload, 1) := by decide +kernel
theorem dMM_code_38 : decode cMM_code 38 = .ok (.goto 4, 3) := by decide +kernel
theorem dMM_code_41 : decode cMM_code 41 = .ok (.iconst (-1), 1) := by decide +kernel
theorem dMM_code_42 : decode cMM_code 42 = .ok (.ireturn, 1) := by decide +kernel
theorem dMM_of_0 : decode cMM_of 0 = .ok (.aload_n 0, 1) := by decide +kernel
theorem dMM_of_1 : decode cMM_of 1 = .ok (.iconst 0, 1) := by decide +kernel
theorem dMM_of_2 : decode cMM_of 2 = .ok (.putfield 48, 3) := by decide +kernel
theorem dMM_of_5 : decode cMM_of 5 = .ok (.iload_n 1, 1) := by decide +kernel
theorem dMM_of_6 : decode cMM_of 6 = .ok (.ifCond .ne 21, 3) := by decide +kernel
theorem dMM_of_9 : decode cMM_of 9 = .ok (.iload_n 2, 1) := by decide +kernel
theorem dMM_of_10 : decode cMM_of 10 = .ok (.iconst 1, 1) := by decide +kernel
theorem dMM_of_11 : decode cMM_of 11 = .ok (.if_icmp .lt 16, 3) := by decide +kernel
theorem dMM_of_14 : decode cMM_of 14 = .ok (.iload_n 2, 1) := by decide +kernel
theorem dMM_of_15 : decode cMM_of 15 = .ok (.bipush 16, 2) := by decide +kernel
theorem dMM_of_17 : decode cMM_of 17 = .ok (.if_icmp .gt 10, 3) := by decide +kernel
theorem dMM_of_20 : decode cMM_of 20 = .ok (.aload_n 0, 1) := by decide +kernel
theorem dMM_of_21 : decode cMM_of 21 = .ok (.getfield 16, 3) := by decide +kernel
theorem dMM_of_24 : decode cMM_of 24 = .ok (.iload_n 2, 1) := by decide +kernel
theorem dMM_of_25 : decode cMM_of 25 = .ok (.iaload, 1) := by decide +kernel
theorem dMM_of_26 : decode cMM_of 26 = .ok (.ireturn, 1) := by decide +kernel
theorem dMM_of_27 : decode cMM_of 27 = .ok (.iload_n 1, 1) := by decide +kernel
theorem dMM_of_28 : decode cMM_of 28 = .ok (.iconst 1, 1) := by decide +kernel
theorem dMM_of_29 : decode cMM_of 29 = .ok (.if_icmp .ne 24, 3) := by decide +kernel
theorem dMM_of_32 : decode cMM_of 32 = .ok (.iload_n 2, 1) := by decide +kernel
theorem dMM_of_33 : decode cMM_of 33 = .ok (.ifCond .lt 20, 3) := by decide +kernel
theorem dMM_of_36 : decode cMM_of 36 = .ok (.iload_n 2, 1) := by decide +kernel
theorem dMM_of_37 : decode cMM_of 37 = .ok (.aload_n 0, 1) := by decide +kernel
theorem dMM_of_38 : decode cMM_of 38 = .ok (.getfield 65, 3) := by decide +kernel
theorem dMM_of_41 : decode cMM_of 41 = .ok (.if_icmp .ge 12, 3) := by decide +kernel
theorem dMM_of_44 : decode cMM_of 44 = .ok (.aload_n 0, 1) := by decide +kernel
theorem dMM_of_45 : decode cMM_of 45 = .ok (.getfield 19, 3) := by decide +kernel
theorem dMM_of_48 : decode cMM_of 48 = .ok (.iload_n 2, 1) := by decide +kernel
theorem dMM_of_49 : decode cMM_of 49 = .ok (.iaload, 1) := by decide +kernel
theorem dMM_of_50 : decode cMM_of 50 = .ok (.goto 4, 3) := by decide +kernel
theorem dMM_of_53 : decode cMM_of 53 = .ok (.iconst (-1), 1) := by decide +kernel
theorem dMM_of_54 : decode cMM_of 54 = .ok (.ireturn, 1) := by decide +kernel
theorem dMM_put_0 : decode cMM_put 0 = .ok (.iload_n 1, 1) := by decide +kernel
theorem dMM_put_1 : decode cMM_put 1 = .ok (.invokestatic 52, 3) := by decide +kernel
theorem dMM_put_4 : decode cMM_put 4 = .ok (.ifCond .eq 27, 3) := by decide +kernel
theorem dMM_put_7 : decode cMM_put 7 = .ok (.aload_n 0, 1) := by decide +kernel
theorem dMM_put_8 : decode cMM_put 8 = .ok (.getfield 22, 3) := by decide +kernel
theorem dMM_put_11 : decode cMM_put 11 = .ok (.iload_n 1, 1) := by decide +kernel
theorem dMM_put_12 : decode cMM_put 12 = .ok (.invokestatic 52, 3) := by decide +kernel
theorem dMM_put_15 : decode cMM_put 15 = .ok (.ifCond .eq 7, 3) := by decide +kernel
theorem dMM_put_18 : decode cMM_put 18 = .ok (.iload_n 1, 1) := by decide +kernel
theorem dMM_put_19 : decode cMM_put 19 = .ok (.goto 4, 3) := by decide +kernel
theorem dMM_put_22 : decode cMM_put 22 = .ok (.iconst 0, 1) := by decide +kernel
theorem dMM_put_23 : decode cMM_put 23 = .ok (.iaload, 1) := by decide +kernel
theorem dMM_put_24 : decode cMM_put 24 = .ok (.ifCond .le 7, 3) := by decide +kernel
theorem dMM_put_27 : decode cMM_put 27 = .ok (.iconst 1, 1) := by decide +kernel
theorem dMM_put_28 : decode cMM_put 28 = .ok (.goto 4, 3) := by decide +kernel
theorem dMM_put_31 : decode cMM_put 31 = .ok (.iconst 0, 1) := by decide +kernel
theorem dMM_put_32 : decode cMM_put 32 = .ok (.istore_n 2, 1) := by decide +kernel
theorem dMM_put_33 : decode cMM_put 33 = .ok (.aload_n 0, 1) := by decide +kernel
theorem dMM_put_34 : decode cMM_put 34 = .ok (.iload_n 2, 1) := by decide +kernel
theorem dMM_put_35 : decode cMM_put 35 = .ok (.ifCond .ne 7, 3) := by decide +kernel
theorem dMM_put_38 : decode cMM_put 38 = .ok (.iconst 1, 1) := by decide +kernel
theorem dMM_put_39 : decode cMM_put 39 = .ok (.goto 24, 3) := by decide +kernel
theorem dMM_put_42 : decode cMM_put 42 = .ok (.aload_n 0, 1) := by decide +kernel
theorem dMM_put_43 : decode cMM_put 43 = .ok (.getfield 85, 3) := by decide +kernel
theorem dMM_put_46 : decode cMM_put 46 = .ok (.aload_n 0, 1) := by decide +kernel
theorem dMM_put_47 : decode cMM_put 47 = .ok (.getfield 22, 3) := by decide +kernel
theorem dMM_put_50 : decode cMM_put 50 = .ok (.iload_n 1, 1) := by decide +kernel
theorem dMM_put_51 : decode cMM_put 51 = .ok (.iaload, 1) := by decide +kernel
theorem dMM_put_52 : decode cMM_put 52 = .ok (.iadd, 1) := by decide +kernel
theorem dMM_put_53 : decode cMM_put 53 = .ok (.ldc 31, 2) := by decide +kernel
theorem dMM_put_55 : decode cMM_put 55 = .ok (.if_icmp .le 7, 3) := by decide +kernel
theorem dMM_put_58 : decode cMM_put 58 = .ok (.iconst 2, 1) := by decide +kernel
theorem dMM_put_59 : decode cMM_put 59 = .ok (.goto 4, 3) := by decide +kernel
theorem dMM_put_62 : decode cMM_put 62 = .ok (.iconst 0, 1) := by decide +kernel
theorem dMM_put_63 : decode cMM_put 63 = .ok (.putfield 48, 3) := by decide +kernel
theorem dMM_put_66 : decode cMM_put 66 = .ok (.aload_n 0, 1) := by decide +kernel
theorem dMM_put_67 : decode cMM_put 67 = .ok (.getfield 48, 3) := by decide +kernel
theorem dMM_put_70 : decode cMM_put 70 = .ok (.ifCond .le 5, 3) := by decide +kernel
theorem dMM_put_73 : decode cMM_put 73 = .ok (.iconst 0, 1) := by decide +kernel
theorem dMM_put_74 : decode cMM_put 74 = .ok (.ireturn, 1) := by decide +kernel
theorem dMM_put_75 : decode cMM_put 75 = .ok (.aload_n 0, 1) := by decide +kernel
theorem dMM_put_76 : decode cMM_put 76 = .ok (.aload_n 0, 1) := by decide +kernel
theorem dMM_put_77 : decode cMM_put 77 = .ok (.getfield 25, 3) := by decide +kernel
theorem dMM_put_80 : decode cMM_put 80 = .ok (.iload_n 1, 1) := by decide +kernel
theorem dMM_put_81 : decode cMM_put 81 = .ok (.iaload, 1) := by decide +kernel
theorem dMM_put_82 : decode cMM_put 82 = .ok (.aload_n 0, 1) := by decide +kernel
theorem dMM_put_83 : decode cMM_put 83 = .ok (.getfield 22, 3) := by decide +kernel
theorem dMM_put_86 : decode cMM_put 86 = .ok (.iload_n 1, 1) := by decide +kernel
theorem dMM_put_87 : decode cMM_put 87 = .ok (.iaload, 1) := by decide +kernel
theorem dMM_put_88 : decode cMM_put 88 = .ok (.invokevirtual 88, 3) := by decide +kernel
theorem dMM_put_91 : decode cMM_put 91 = .ok (.aload_n 0, 1) := by decide +kernel
theorem dMM_put_92 : decode cMM_put 92 = .ok (.getfield 85, 3) := by decide +kernel
theorem dMM_put_95 : decode cMM_put 95 = .ok (.ireturn, 1) := by decide +kernel
theorem dMM_lay_0 : decode cMM_lay 0 = .ok (.iload_n 2, 1) := by decide +kernel
theorem dMM_lay_1 : decode cMM_lay 1 = .ok (.iconst 1, 1) := by decide +kernel
theorem dMM_lay_2 : decode cMM_lay 2 = .ok (.isub, 1) := by decide +kernel
theorem dMM_lay_3 : decode cMM_lay 3 = .ok (.istore_n 3, 1) := by decide +kernel
theorem dMM_lay_4 : decode cMM_lay 4 = .ok (.iload_n 3, 1) := by decide +kernel
theorem dMM_lay_5 : decode cMM_lay 5 = .ok (.ifCond .lt 34, 3) := by decide +kernel
theorem dMM_lay_8 : decode cMM_lay 8 = .ok (.aload_n 0, 1) := by decide +kernel
theorem dMM_lay_9 : decode cMM_lay 9 = .ok (.getfield 32, 3) := by decide +kernel
theorem dMM_lay_12 : decode cMM_lay 12 = .ok (.aload_n 0, 1) := by decide +kernel
theorem dMM_lay_13 : decode cMM_lay 13 = .ok (.getfield 85, 3) := by decide +kernel
theorem dMM_lay_16 : decode cMM_lay 16 = .ok (.iload_n 1, 1) := by decide +kernel
theorem dMM_lay_17 : decode cMM_lay 17 = .ok (.iload_n 3, 1) := by decide +kernel
theorem dMM_lay_18 : decode cMM_lay 18 = .ok (.ishr, 1) := by decide +kernel
theorem dMM_lay_19 : decode cMM_lay 19 = .ok (.iconst 1, 1) := by decide +kernel
theorem dMM_lay_20 : decode cMM_lay 20 = .ok (.iand, 1) := by decide +kernel
theorem dMM_lay_21 : decode cMM_lay 21 = .ok (.i2b, 1) := by decide +kernel
theorem dMM_lay_22 : decode cMM_lay 22 = .ok (.bastore, 1) := by decide +kernel
theorem dMM_lay_23 : decode cMM_lay 23 = .ok (.aload_n 0, 1) := by decide +kernel
theorem dMM_lay_24 : decode cMM_lay 24 = .ok (.dup, 1) := by decide +kernel
theorem dMM_lay_25 : decode cMM_lay 25 = .ok (.getfield 85, 3) := by decide +kernel
theorem dMM_lay_28 : decode cMM_lay 28 = .ok (.iconst 1, 1) := by decide +kernel
theorem dMM_lay_29 : decode cMM_lay 29 = .ok (.iadd, 1) := by decide +kernel
theorem dMM_lay_30 : decode cMM_lay 30 = .ok (.putfield 85, 3) := by decide +kernel
theorem dMM_lay_33 : decode cMM_lay 33 = .ok (.iinc 3 (-1), 3) := by decide +kernel
theorem dMM_lay_36 : decode cMM_lay 36 = .ok (.goto (-32), 3) := by decide +kernel
theorem dMM_lay_39 : decode cMM_lay 39 = .ok (.return_, 1) := by decide +kernel
theorem dMM_raw_0 : decode cMM_raw 0 = .ok (.aload_n 0, 1) := by decide +kernel
theorem dMM_raw_1 : decode cMM_raw 1 = .ok (.iload_n 2, 1) := by decide +kernel
theorem dMM_raw_2 : decode cMM_raw 2 = .ok (.ifCond .lt 9, 3) := by decide +kernel
theorem dMM_raw_5 : decode cMM_raw 5 = .ok (.iload_n 2, 1) := by decide +kernel
theorem dMM_raw_6 : decode cMM_raw 6 = .ok (.bipush 16, 2) := by decide +kernel
theorem dMM_raw_8 : decode cMM_raw 8 = .ok (.if_icmp .le 7, 3) := by decide +kernel
theorem dMM_raw_11 : decode cMM_raw 11 = .ok (.iconst 1, 1) := by decide +kernel
theorem dMM_raw_12 : decode cMM_raw 12 = .ok (.goto 19, 3) := by decide +kernel
theorem dMM_raw_15 : decode cMM_raw 15 = .ok (.aload_n 0, 1) := by decide +kernel
theorem dMM_raw_16 : decode cMM_raw 16 = .ok (.getfield 85, 3) := by decide +kernel
theorem dMM_raw_19 : decode cMM_raw 19 = .ok (.iload_n 2, 1) := by decide +kernel
theorem dMM_raw_20 : decode cMM_raw 20 = .ok (.iadd, 1) := by decide +kernel
theorem dMM_raw_21 : decode cMM_raw 21 = .ok (.ldc 31, 2) := by decide +kernel
theorem dMM_raw_23 : decode cMM_raw 23 = .ok (.if_icmp .le 7, 3) := by decide +kernel
theorem dMM_raw_26 : decode cMM_raw 26 = .ok (.iconst 2, 1) := by decide +kernel
theorem dMM_raw_27 : decode cMM_raw 27 = .ok (.goto 4, 3) := by decide +kernel
theorem dMM_raw_30 : decode cMM_raw 30 = .ok (.iconst 0, 1) := by decide +kernel
theorem dMM_raw_31 : decode cMM_raw 31 = .ok (.putfield 48, 3) := by decide +kernel
theorem dMM_raw_34 : decode cMM_raw 34 = .ok (.aload_n 0, 1) := by decide +kernel
theorem dMM_raw_35 : decode cMM_raw 35 = .ok (.getfield 48, 3) := by decide +kernel
theorem dMM_raw_38 : decode cMM_raw 38 = .ok (.ifCond .le 5, 3) := by decide +kernel
theorem dMM_raw_41 : decode cMM_raw 41 = .ok (.iconst 0, 1) := by decide +kernel
theorem dMM_raw_42 : decode cMM_raw 42 = .ok (.ireturn, 1) := by decide +kernel
theorem dMM_raw_43 : decode cMM_raw 43 = .ok (.aload_n 0, 1) := by decide +kernel
theorem dMM_raw_44 : decode cMM_raw 44 = .ok (.iload_n 1, 1) := by decide +kernel
theorem dMM_raw_45 : decode cMM_raw 45 = .ok (.iload_n 2, 1) := by decide +kernel
theorem dMM_raw_46 : decode cMM_raw 46 = .ok (.invokevirtual 88, 3) := by decide +kernel
theorem dMM_raw_49 : decode cMM_raw 49 = .ok (.aload_n 0, 1) := by decide +kernel
theorem dMM_raw_50 : decode cMM_raw 50 = .ok (.getfield 85, 3) := by decide +kernel
theorem dMM_raw_53 : decode cMM_raw 53 = .ok (.ireturn, 1) := by decide +kernel
theorem dMM_get_0 : decode cMM_get 0 = .ok (.aload_n 0, 1) := by decide +kernel
theorem dMM_get_1 : decode cMM_get 1 = .ok (.iconst 0, 1) := by decide +kernel
theorem dMM_get_2 : decode cMM_get 2 = .ok (.putfield 48, 3) := by decide +kernel
theorem dMM_get_5 : decode cMM_get 5 = .ok (.aload_n 0, 1) := by decide +kernel
theorem dMM_get_6 : decode cMM_get 6 = .ok (.getfield 85, 3) := by decide +kernel
theorem dMM_get_9 : decode cMM_get 9 = .ok (.aload_n 0, 1) := by decide +kernel
theorem dMM_get_10 : decode cMM_get 10 = .ok (.getfield 92, 3) := by decide +kernel
theorem dMM_get_13 : decode cMM_get 13 = .ok (.isub, 1) := by decide +kernel
theorem dMM_get_14 : decode cMM_get 14 = .ok (.istore_n 1, 1) := by decide +kernel
theorem dMM_get_15 : decode cMM_get 15 = .ok (.iload_n 1, 1) := by decide +kernel
theorem dMM_get_16 : decode cMM_get 16 = .ok (.ifCond .ne 5, 3) := by decide +kernel
theorem dMM_get_19 : decode cMM_get 19 = .ok (.iconst (-1), 1) := by decide +kernel
theorem dMM_get_20 : decode cMM_get 20 = .ok (.ireturn, 1) := by decide +kernel
theorem dMM_get_21 : decode cMM_get 21 = .ok (.iconst 0, 1) := by decide +kernel
theorem dMM_get_22 : decode cMM_get 22 = .ok (.istore_n 2, 1) := by decide +kernel
theorem dMM_get_23 : decode cMM_get 23 = .ok (.iconst 0, 1) := by decide +kernel
theorem dMM_get_24 : decode cMM_get 24 = .ok (.istore_n 3, 1) := by decide +kernel
theorem dMM_get_25 : decode cMM_get 25 = .ok (.iload_n 3, 1) := by decide +kernel
theorem dMM_get_26 : decode cMM_get 26 = .ok (.sipush 256, 3) := by decide +kernel
theorem dMM_get_29 : decode cMM_get 29 = .ok (.if_icmp .ge 56, 3) := by decide +kernel
theorem dMM_get_32 : decode cMM_get 32 = .ok (.aload_n 0, 1) := by decide +kernel
theorem dMM_get_33 : decode cMM_get 33 = .ok (.getfield 22, 3) := by decide +kernel
theorem dMM_get_36 : decode cMM_get 36 = .ok (.iload_n 3, 1) := by decide +kernel
theorem dMM_get_37 : decode cMM_get 37 = .ok (.iaload, 1) := by decide +kernel
theorem dMM_get_38 : decode cMM_get 38 = .ok (.ifCond .le 41, 3) := by decide +kernel
theorem dMM_get_41 : decode cMM_get 41 = .ok (.aload_n 0, 1) := by decide +kernel
theorem dMM_get_42 : decode cMM_get 42 = .ok (.iload_n 3, 1) := by decide +kernel
theorem dMM_get_43 : decode cMM_get 43 = .ok (.iload_n 1, 1) := by decide +kernel
theorem dMM_get_44 : decode cMM_get 44 = .ok (.invokevirtual 95, 3) := by decide +kernel
theorem dMM_get_47 : decode cMM_get 47 = .ok (.ifCond .eq 32, 3) := by decide +kernel
theorem dMM_get_50 : decode cMM_get 50 = .ok (.aload_n 0, 1) := by decide +kernel
theorem dMM_get_51 : decode cMM_get 51 = .ok (.getfield 22, 3) := by decide +kernel
theorem dMM_get_54 : decode cMM_get 54 = .ok (.iload_n 3, 1) := by decide +kernel
theorem dMM_get_55 : decode cMM_get 55 = .ok (.iaload, 1) := by decide +kernel
theorem dMM_get_56 : decode cMM_get 56 = .ok (.iload_n 1, 1) := by decide +kernel
theorem dMM_get_57 : decode cMM_get 57 = .ok (.if_icmp .gt 20, 3) := by decide +kernel
theorem dMM_get_60 : decode cMM_get 60 = .ok (.aload_n 0, 1) := by decide +kernel
theorem dMM_get_61 : decode cMM_get 61 = .ok (.dup, 1) := by decide +kernel
theorem dMM_get_62 : decode cMM_get 62 = .ok (.getfield 92, 3) := by decide +kernel
theorem dMM_get_65 : decode cMM_get 65 = .ok (.aload_n 0, 1) := by decide +kernel
theorem dMM_get_66 : decode cMM_get 66 = .ok (.getfield 22, 3) := by decide +kernel
theorem dMM_get_69 : decode cMM_get 69 = .ok (.iload_n 3, 1) := by decide +kernel
theorem dMM_get_70 : decode cMM_get 70 = .ok (.iaload, 1) := by decide +kernel
theorem dMM_get_71 : decode cMM_get 71 = .ok (.iadd, 1) := by decide +kernel
theorem dMM_get_72 : decode cMM_get 72 = .ok (.putfield 92, 3) := by decide +kernel
theorem dMM_get_75 : decode cMM_get 75 = .ok (.iload_n 3, 1) := by decide +kernel
theorem dMM_get_76 : decode cMM_get 76 = .ok (.ireturn, 1) := by decide +kernel
theorem dMM_get_77 : decode cMM_get 77 = .ok (.iconst 1, 1) := by decide +kernel
theorem dMM_get_78 : decode cMM_get 78 = .ok (.istore_n 2, 1) := by decide +kernel
theorem dMM_get_79 : decode cMM_get 79 = .ok (.iinc 3 1, 3) := by decide +kernel
theorem dMM_get_82 : decode cMM_get 82 = .ok (.goto (-57), 3) := by decide +kernel
theorem dMM_get_85 : decode cMM_get 85 = .ok (.iload_n 2, 1) := by decide +kernel
theorem dMM_get_86 : decode cMM_get 86 = .ok (.ifCond .eq 7, 3) := by decide +kernel
theorem dMM_get_89 : decode cMM_get 89 = .ok (.iconst (-1), 1) := by decide +kernel
theorem dMM_get_90 : decode cMM_get 90 = .ok (.goto 5, 3) := by decide +kernel
theorem dMM_get_93 : decode cMM_get 93 = .ok (.bipush (-2), 2) := by decide +kernel
theorem dMM_get_95 : decode cMM_get 95 = .ok (.ireturn, 1) := by decide +kernel
theorem dMM_stands_0 : decode cMM_stands 0 = .ok (.iconst 1, 1) := by decide +kernel
theorem dMM_stands_1 : decode cMM_stands 1 = .ok (.istore_n 3, 1) := by decide +kernel
theorem dMM_stands_2 : decode cMM_stands 2 = .ok (.iconst 0, 1) := by decide +kernel
theorem dMM_stands_3 : decode cMM_stands 3 = .ok (.istore 4, 2) := by decide +kernel
theorem dMM_stands_5 : decode cMM_stands 5 = .ok (.iload 4, 2) := by decide +kernel
theorem dMM_stands_7 : decode cMM_stands 7 = .ok (.aload_n 0, 1) := by decide +kernel
theorem dMM_stands_8 : decode cMM_stands 8 = .ok (.getfield 22, 3) := by decide +kernel
theorem dMM_stands_11 : decode cMM_stands 11 = .ok (.iload_n 1, 1) := by decide +kernel
theorem dMM_stands_12 : decode cMM_stands 12 = .ok (.iaload, 1) := by decide +kernel
theorem dMM_stands_13 : decode cMM_stands 13 = .ok (.if_icmp .ge 60, 3) := by decide +kernel
theorem dMM_stands_16 : decode cMM_stands 16 = .ok (.iload 4, 2) := by decide +kernel
theorem dMM_stands_18 : decode cMM_stands 18 = .ok (.iload_n 2, 1) := by decide +kernel
theorem dMM_stands_19 : decode cMM_stands 19 = .ok (.if_icmp .ge 54, 3) := by decide +kernel
theorem dMM_stands_22 : decode cMM_stands 22 = .ok (.iload_n 3, 1) := by decide +kernel
theorem dMM_stands_23 : decode cMM_stands 23 = .ok (.ifCond .eq 42, 3) := by decide +kernel
theorem dMM_stands_26 : decode cMM_stands 26 = .ok (.aload_n 0, 1) := by decide +kernel
theorem dMM_stands_27 : decode cMM_stands 27 = .ok (.getfield 25, 3) := by decide +kernel
theorem dMM_stands_30 : decode cMM_stands 30 = .ok (.iload_n 1, 1) := by decide +kernel
theorem dMM_stands_31 : decode cMM_stands 31 = .ok (.iaload, 1) := by decide +kernel
theorem dMM_stands_32 : decode cMM_stands 32 = .ok (.aload_n 0, 1) := by decide +kernel
theorem dMM_stands_33 : decode cMM_stands 33 = .ok (.getfield 22, 3) := by decide +kernel
theorem dMM_stands_36 : decode cMM_stands 36 = .ok (.iload_n 1, 1) := by decide +kernel
theorem dMM_stands_37 : decode cMM_stands 37 = .ok (.iaload, 1) := by decide +kernel
theorem dMM_stands_38 : decode cMM_stands 38 = .ok (.iconst 1, 1) := by decide +kernel
theorem dMM_stands_39 : decode cMM_stands 39 = .ok (.isub, 1) := by decide +kernel
theorem dMM_stands_40 : decode cMM_stands 40 = .ok (.iload 4, 2) := by decide +kernel
theorem dMM_stands_42 : decode cMM_stands 42 = .ok (.isub, 1) := by decide +kernel
theorem dMM_stands_43 : decode cMM_stands 43 = .ok (.ishr, 1) := by decide +kernel
theorem dMM_stands_44 : decode cMM_stands 44 = .ok (.iconst 1, 1) := by decide +kernel
theorem dMM_stands_45 : decode cMM_stands 45 = .ok (.iand, 1) := by decide +kernel
theorem dMM_stands_46 : decode cMM_stands 46 = .ok (.aload_n 0, 1) := by decide +kernel
theorem dMM_stands_47 : decode cMM_stands 47 = .ok (.getfield 32, 3) := by decide +kernel
theorem dMM_stands_50 : decode cMM_stands 50 = .ok (.aload_n 0, 1) := by decide +kernel
theorem dMM_stands_51 : decode cMM_stands 51 = .ok (.getfield 92, 3) := by decide +kernel
theorem dMM_stands_54 : decode cMM_stands 54 = .ok (.iload 4, 2) := by decide +kernel
theorem dMM_stands_56 : decode cMM_stands 56 = .ok (.iadd, 1) := by decide +kernel
theorem dMM_stands_57 : decode cMM_stands 57 = .ok (.baload, 1) := by decide +kernel
theorem dMM_stands_58 : decode cMM_stands 58 = .ok (.if_icmp .ne 7, 3) := by decide +kernel
theorem dMM_stands_61 : decode cMM_stands 61 = .ok (.iconst 1, 1) := by decide +kernel
theorem dMM_stands_62 : decode cMM_stands 62 = .ok (.goto 4, 3) := by decide +kernel
theorem dMM_stands_65 : decode cMM_stands 65 = .ok (.iconst 0, 1) := by decide +kernel
theorem dMM_stands_66 : decode cMM_stands 66 = .ok (.istore_n 3, 1) := by decide +kernel
theorem dMM_stands_67 : decode cMM_stands 67 = .ok (.iinc 4 1, 3) := by decide +kernel
theorem dMM_stands_70 : decode cMM_stands 70 = .ok (.goto (-65), 3) := by decide +kernel
theorem dMM_stands_73 : decode cMM_stands 73 = .ok (.iload_n 3, 1) := by decide +kernel
theorem dMM_stands_74 : decode cMM_stands 74 = .ok (.ireturn, 1) := by decide +kernel
theorem dMM_bits_0 : decode cMM_bits 0 = .ok (.aload_n 0, 1) := by decide +kernel
theorem dMM_bits_1 : decode cMM_bits 1 = .ok (.iconst 0, 1) := by decide +kernel
theorem dMM_bits_2 : decode cMM_bits 2 = .ok (.putfield 48, 3) := by decide +kernel
theorem dMM_bits_5 : decode cMM_bits 5 = .ok (.iload_n 1, 1) := by decide +kernel
theorem dMM_bits_6 : decode cMM_bits 6 = .ok (.ifCond .lt 22, 3) := by decide +kernel
theorem dMM_bits_9 : decode cMM_bits 9 = .ok (.iload_n 1, 1) := by decide +kernel
theorem dMM_bits_10 : decode cMM_bits 10 = .ok (.bipush 16, 2) := by decide +kernel
theorem dMM_bits_12 : decode cMM_bits 12 = .ok (.if_icmp .gt 16, 3) := by decide +kernel
theorem dMM_bits_15 : decode cMM_bits 15 = .ok (.iload_n 1, 1) := by decide +kernel
theorem dMM_bits_16 : decode cMM_bits 16 = .ok (.aload_n 0, 1) := by decide +kernel
theorem dMM_bits_17 : decode cMM_bits 17 = .ok (.getfield 85, 3) := by decide +kernel
theorem dMM_bits_20 : decode cMM_bits 20 = .ok (.aload_n 0, 1) := by decide +kernel
theorem dMM_bits_21 : decode cMM_bits 21 = .ok (.getfield 92, 3) := by decide +kernel
theorem dMM_bits_24 : decode cMM_bits 24 = .ok (.isub, 1) := by decide +kernel
theorem dMM_bits_25 : decode cMM_bits 25 = .ok (.if_icmp .le 5, 3) := by decide +kernel
theorem dMM_bits_28 : decode cMM_bits 28 = .ok (.iconst (-1), 1) := by decide +kernel
theorem dMM_bits_29 : decode cMM_bits 29 = .ok (.ireturn, 1) := by decide +kernel
theorem dMM_bits_30 : decode cMM_bits 30 = .ok (.iconst 0, 1) := by decide +kernel
theorem dMM_bits_31 : decode cMM_bits 31 = .ok (.istore_n 2, 1) := by decide +kernel
theorem dMM_bits_32 : decode cMM_bits 32 = .ok (.iconst 0, 1) := by decide +kernel
theorem dMM_bits_33 : decode cMM_bits 33 = .ok (.istore_n 3, 1) := by decide +kernel
theorem dMM_bits_34 : decode cMM_bits 34 = .ok (.iload_n 3, 1) := by decide +kernel
theorem dMM_bits_35 : decode cMM_bits 35 = .ok (.iload_n 1, 1) := by decide +kernel
theorem dMM_bits_36 : decode cMM_bits 36 = .ok (.if_icmp .ge 33, 3) := by decide +kernel
theorem dMM_bits_39 : decode cMM_bits 39 = .ok (.iconst 2, 1) := by decide +kernel
theorem dMM_bits_40 : decode cMM_bits 40 = .ok (.iload_n 2, 1) := by decide +kernel
theorem dMM_bits_41 : decode cMM_bits 41 = .ok (.imul, 1) := by decide +kernel
theorem dMM_bits_42 : decode cMM_bits 42 = .ok (.aload_n 0, 1) := by decide +kernel
theorem dMM_bits_43 : decode cMM_bits 43 = .ok (.getfield 32, 3) := by decide +kernel
theorem dMM_bits_46 : decode cMM_bits 46 = .ok (.aload_n 0, 1) := by decide +kernel
theorem dMM_bits_47 : decode cMM_bits 47 = .ok (.getfield 92, 3) := by decide +kernel
theorem dMM_bits_50 : decode cMM_bits 50 = .ok (.baload, 1) := by decide +kernel
theorem dMM_bits_51 : decode cMM_bits 51 = .ok (.iadd, 1) := by decide +kernel
theorem dMM_bits_52 : decode cMM_bits 52 = .ok (.istore_n 2, 1) := by decide +kernel
theorem dMM_bits_53 : decode cMM_bits 53 = .ok (.aload_n 0, 1) := by decide +kernel
theorem dMM_bits_54 : decode cMM_bits 54 = .ok (.dup, 1) := by decide +kernel
theorem dMM_bits_55 : decode cMM_bits 55 = .ok (.getfield 92, 3) := by decide +kernel
theorem dMM_bits_58 : decode cMM_bits 58 = .ok (.iconst 1, 1) := by decide +kernel
theorem dMM_bits_59 : decode cMM_bits 59 = .ok (.iadd, 1) := by decide +kernel
theorem dMM_bits_60 : decode cMM_bits 60 = .ok (.putfield 92, 3) := by decide +kernel
theorem dMM_bits_63 : decode cMM_bits 63 = .ok (.iinc 3 1, 3) := by decide +kernel
theorem dMM_bits_66 : decode cMM_bits 66 = .ok (.goto (-32), 3) := by decide +kernel
theorem dMM_bits_69 : decode cMM_bits 69 = .ok (.iload_n 2, 1) := by decide +kernel
theorem dMM_bits_70 : decode cMM_bits 70 = .ok (.ireturn, 1) := by decide +kernel
theorem dMM_seek_0 : decode cMM_seek 0 = .ok (.aload_n 0, 1) := by decide +kernel
theorem dMM_seek_1 : decode cMM_seek 1 = .ok (.iconst 0, 1) := by decide +kernel
theorem dMM_seek_2 : decode cMM_seek 2 = .ok (.putfield 48, 3) := by decide +kernel
theorem dMM_seek_5 : decode cMM_seek 5 = .ok (.iload_n 1, 1) := by decide +kernel
theorem dMM_seek_6 : decode cMM_seek 6 = .ok (.ifCond .lt 11, 3) := by decide +kernel
theorem dMM_seek_9 : decode cMM_seek 9 = .ok (.iload_n 1, 1) := by decide +kernel
theorem dMM_seek_10 : decode cMM_seek 10 = .ok (.aload_n 0, 1) := by decide +kernel
theorem dMM_seek_11 : decode cMM_seek 11 = .ok (.getfield 85, 3) := by decide +kernel
theorem dMM_seek_14 : decode cMM_seek 14 = .ok (.if_icmp .le 5, 3) := by decide +kernel
theorem dMM_seek_17 : decode cMM_seek 17 = .ok (.iconst 0, 1) := by decide +kernel
theorem dMM_seek_18 : decode cMM_seek 18 = .ok (.ireturn, 1) := by decide +kernel
theorem dMM_seek_19 : decode cMM_seek 19 = .ok (.aload_n 0, 1) := by decide +kernel
theorem dMM_seek_20 : decode cMM_seek 20 = .ok (.iload_n 1, 1) := by decide +kernel
theorem dMM_seek_21 : decode cMM_seek 21 = .ok (.putfield 92, 3) := by decide +kernel
theorem dMM_seek_24 : decode cMM_seek 24 = .ok (.iconst 1, 1) := by decide +kernel
theorem dMM_seek_25 : decode cMM_seek 25 = .ok (.ireturn, 1) := by decide +kernel
theorem dMM_cut_0 : decode cMM_cut 0 = .ok (.aload_n 0, 1) := by decide +kernel
theorem dMM_cut_1 : decode cMM_cut 1 = .ok (.iconst 0, 1) := by decide +kernel
theorem dMM_cut_2 : decode cMM_cut 2 = .ok (.putfield 48, 3) := by decide +kernel
theorem dMM_cut_5 : decode cMM_cut 5 = .ok (.iload_n 1, 1) := by decide +kernel
theorem dMM_cut_6 : decode cMM_cut 6 = .ok (.ifCond .lt 11, 3) := by decide +kernel
theorem dMM_cut_9 : decode cMM_cut 9 = .ok (.iload_n 1, 1) := by decide +kernel
theorem dMM_cut_10 : decode cMM_cut 10 = .ok (.aload_n 0, 1) := by decide +kernel
theorem dMM_cut_11 : decode cMM_cut 11 = .ok (.getfield 85, 3) := by decide +kernel
theorem dMM_cut_14 : decode cMM_cut 14 = .ok (.if_icmp .le 5, 3) := by decide +kernel
theorem dMM_cut_17 : decode cMM_cut 17 = .ok (.iconst 0, 1) := by decide +kernel
theorem dMM_cut_18 : decode cMM_cut 18 = .ok (.ireturn, 1) := by decide +kernel
theorem dMM_cut_19 : decode cMM_cut 19 = .ok (.aload_n 0, 1) := by decide +kernel
theorem dMM_cut_20 : decode cMM_cut 20 = .ok (.iload_n 1, 1) := by decide +kernel
theorem dMM_cut_21 : decode cMM_cut 21 = .ok (.putfield 85, 3) := by decide +kernel
theorem dMM_cut_24 : decode cMM_cut 24 = .ok (.aload_n 0, 1) := by decide +kernel
theorem dMM_cut_25 : decode cMM_cut 25 = .ok (.aload_n 0, 1) := by decide +kernel
theorem dMM_cut_26 : decode cMM_cut 26 = .ok (.getfield 92, 3) := by decide +kernel
theorem dMM_cut_29 : decode cMM_cut 29 = .ok (.iload_n 1, 1) := by decide +kernel
theorem dMM_cut_30 : decode cMM_cut 30 = .ok (.if_icmp .le 7, 3) := by decide +kernel
theorem dMM_cut_33 : decode cMM_cut 33 = .ok (.iload_n 1, 1) := by decide +kernel
theorem dMM_cut_34 : decode cMM_cut 34 = .ok (.goto 7, 3) := by decide +kernel
theorem dMM_cut_37 : decode cMM_cut 37 = .ok (.aload_n 0, 1) := by decide +kernel
theorem dMM_cut_38 : decode cMM_cut 38 = .ok (.getfield 92, 3) := by decide +kernel
theorem dMM_cut_41 : decode cMM_cut 41 = .ok (.putfield 92, 3) := by decide +kernel
theorem dMM_cut_44 : decode cMM_cut 44 = .ok (.iconst 1, 1) := by decide +kernel
theorem dMM_cut_45 : decode cMM_cut 45 = .ok (.ireturn, 1) := by decide +kernel
theorem dMM_look_0 : decode cMM_look 0 = .ok (.aload_n 0, 1) := by decide +kernel
theorem dMM_look_1 : decode cMM_look 1 = .ok (.iconst 0, 1) := by decide +kernel
theorem dMM_look_2 : decode cMM_look 2 = .ok (.putfield 48, 3) := by decide +kernel
theorem dMM_look_5 : decode cMM_look 5 = .ok (.iconst 0, 1) := by decide +kernel
theorem dMM_look_6 : decode cMM_look 6 = .ok (.istore_n 2, 1) := by decide +kernel
theorem dMM_look_7 : decode cMM_look 7 = .ok (.iconst 0, 1) := by decide +kernel
theorem dMM_look_8 : decode cMM_look 8 = .ok (.istore_n 3, 1) := by decide +kernel
theorem dMM_look_9 : decode cMM_look 9 = .ok (.iconst 0, 1) := by decide +kernel
theorem dMM_look_10 : decode cMM_look 10 = .ok (.istore 4, 2) := by decide +kernel
theorem dMM_look_12 : decode cMM_look 12 = .ok (.iload 4, 2) := by decide +kernel
theorem dMM_look_14 : decode cMM_look 14 = .ok (.sipush 256, 3) := by decide +kernel
theorem dMM_look_17 : decode cMM_look 17 = .ok (.if_icmp .ge 50, 3) := by decide +kernel
theorem dMM_look_20 : decode cMM_look 20 = .ok (.iload_n 2, 1) := by decide +kernel
theorem dMM_look_21 : decode cMM_look 21 = .ok (.aload_n 0, 1) := by decide +kernel
theorem dMM_look_22 : decode cMM_look 22 = .ok (.getfield 28, 3) := by decide +kernel
theorem dMM_look_25 : decode cMM_look 25 = .ok (.iload 4, 2) := by decide +kernel
theorem dMM_look_27 : decode cMM_look 27 = .ok (.iaload, 1) := by decide +kernel
theorem dMM_look_28 : decode cMM_look 28 = .ok (.ifCond .le 7, 3) := by decide +kernel
theorem dMM_look_31 : decode cMM_look 31 = .ok (.iconst 1, 1) := by decide +kernel
theorem dMM_look_32 : decode cMM_look 32 = .ok (.goto 4, 3) := by decide +kernel
theorem dMM_look_35 : decode cMM_look 35 = .ok (.iconst 0, 1) := by decide +kernel
theorem dMM_look_36 : decode cMM_look 36 = .ok (.iadd, 1) := by decide +kernel
theorem dMM_look_37 : decode cMM_look 37 = .ok (.istore_n 2, 1) := by decide +kernel
theorem dMM_look_38 : decode cMM_look 38 = .ok (.aload_n 0, 1) := by decide +kernel
theorem dMM_look_39 : decode cMM_look 39 = .ok (.getfield 22, 3) := by decide +kernel
theorem dMM_look_42 : decode cMM_look 42 = .ok (.iload 4, 2) := by decide +kernel
theorem dMM_look_44 : decode cMM_look 44 = .ok (.iaload, 1) := by decide +kernel
theorem dMM_look_45 : decode cMM_look 45 = .ok (.iload_n 3, 1) := by decide +kernel
theorem dMM_look_46 : decode cMM_look 46 = .ok (.if_icmp .le 13, 3) := by decide +kernel
theorem dMM_look_49 : decode cMM_look 49 = .ok (.aload_n 0, 1) := by decide +kernel
theorem dMM_look_50 : decode cMM_look 50 = .ok (.getfield 22, 3) := by decide +kernel
theorem dMM_look_53 : decode cMM_look 53 = .ok (.iload 4, 2) := by decide +kernel
theorem dMM_look_55 : decode cMM_look 55 = .ok (.iaload, 1) := by decide +kernel
theorem dMM_look_56 : decode cMM_look 56 = .ok (.goto 4, 3) := by decide +kernel
theorem dMM_look_59 : decode cMM_look 59 = .ok (.iload_n 3, 1) := by decide +kernel
theorem dMM_look_60 : decode cMM_look 60 = .ok (.istore_n 3, 1) := by decide +kernel
theorem dMM_look_61 : decode cMM_look 61 = .ok (.iinc 4 1, 3) := by decide +kernel
theorem dMM_look_64 : decode cMM_look 64 = .ok (.goto (-52), 3) := by decide +kernel
theorem dMM_look_67 : decode cMM_look 67 = .ok (.iload_n 1, 1) := by decide +kernel
theorem dMM_look_68 : decode cMM_look 68 = .ok (.tableswitch 73 0 6 #[44, 49, 54, 59, 64, 69, 71], 44) := by decide +kernel
theorem dMM_look_112 : decode cMM_look 112 = .ok (.aload_n 0, 1) := by decide +kernel
theorem dMM_look_113 : decode cMM_look 113 = .ok (.getfield 65, 3) := by decide +kernel
theorem dMM_look_116 : decode cMM_look 116 = .ok (.ireturn, 1) := by decide +kernel
theorem dMM_look_117 : decode cMM_look 117 = .ok (.aload_n 0, 1) := by decide +kernel
theorem dMM_look_118 : decode cMM_look 118 = .ok (.getfield 56, 3) := by decide +kernel
theorem dMM_look_121 : decode cMM_look 121 = .ok (.ireturn, 1) := by decide +kernel
theorem dMM_look_122 : decode cMM_look 122 = .ok (.aload_n 0, 1) := by decide +kernel
theorem dMM_look_123 : decode cMM_look 123 = .ok (.getfield 85, 3) := by decide +kernel
theorem dMM_look_126 : decode cMM_look 126 = .ok (.ireturn, 1) := by decide +kernel
theorem dMM_look_127 : decode cMM_look 127 = .ok (.aload_n 0, 1) := by decide +kernel
theorem dMM_look_128 : decode cMM_look 128 = .ok (.getfield 92, 3) := by decide +kernel
theorem dMM_look_131 : decode cMM_look 131 = .ok (.ireturn, 1) := by decide +kernel
theorem dMM_look_132 : decode cMM_look 132 = .ok (.aload_n 0, 1) := by decide +kernel
theorem dMM_look_133 : decode cMM_look 133 = .ok (.getfield 72, 3) := by decide +kernel
theorem dMM_look_136 : decode cMM_look 136 = .ok (.ireturn, 1) := by decide +kernel
theorem dMM_look_137 : decode cMM_look 137 = .ok (.iload_n 2, 1) := by decide +kernel
theorem dMM_look_138 : decode cMM_look 138 = .ok (.ireturn, 1) := by decide +kernel
theorem dMM_look_139 : decode cMM_look 139 = .ok (.iload_n 3, 1) := by decide +kernel
theorem dMM_look_140 : decode cMM_look 140 = .ok (.ireturn, 1) := by decide +kernel
theorem dMM_look_141 : decode cMM_look 141 = .ok (.iconst (-1), 1) := by decide +kernel
theorem dMM_look_142 : decode cMM_look 142 = .ok (.ireturn, 1) := by decide +kernel
