theorem dLL_law_0 : decode cLL_law 0 = .ok (.new 8, 3) := by decide +kernel
theorem dLL_law_3 : decode cLL_law 3 = .ok (.dup, 1) := by decide +kernel
theorem dLL_law_4 : decode cLL_law 4 = .ok (.invokespecial 24, 3) := by decide +kernel
theorem dLL_law_7 : decode cLL_law 7 = .ok (.astore_n 1, 1) := by decide +kernel
theorem dLL_law_8 : decode cLL_law 8 = .ok (.new 25, 3) := by decide +kernel
theorem dLL_law_11 : decode cLL_law 11 = .ok (.dup, 1) := by decide +kernel
theorem dLL_law_12 : decode cLL_law 12 = .ok (.invokespecial 27, 3) := by decide +kernel
theorem dLL_law_15 : decode cLL_law 15 = .ok (.astore_n 2, 1) := by decide +kernel
theorem dLL_law_16 : decode cLL_law 16 = .ok (.iconst 1, 1) := by decide +kernel
theorem dLL_law_17 : decode cLL_law 17 = .ok (.newarray .long, 2) := by decide +kernel
theorem dLL_law_19 : decode cLL_law 19 = .ok (.astore_n 3, 1) := by decide +kernel
theorem dLL_law_20 : decode cLL_law 20 = .ok (.iconst 0, 1) := by decide +kernel
theorem dLL_law_21 : decode cLL_law 21 = .ok (.istore 4, 2) := by decide +kernel
theorem dLL_law_23 : decode cLL_law 23 = .ok (.iload 4, 2) := by decide +kernel
theorem dLL_law_25 : decode cLL_law 25 = .ok (.aload_n 0, 1) := by decide +kernel
theorem dLL_law_26 : decode cLL_law 26 = .ok (.arraylength, 1) := by decide +kernel
theorem dLL_law_27 : decode cLL_law 27 = .ok (.iconst 3, 1) := by decide +kernel
theorem dLL_law_28 : decode cLL_law 28 = .ok (.isub, 1) := by decide +kernel
theorem dLL_law_29 : decode cLL_law 29 = .ok (.if_icmp .gt 600, 3) := by decide +kernel
theorem dLL_law_32 : decode cLL_law 32 = .ok (.aload_n 0, 1) := by decide +kernel
theorem dLL_law_33 : decode cLL_law 33 = .ok (.iload 4, 2) := by decide +kernel
theorem dLL_law_35 : decode cLL_law 35 = .ok (.iaload, 1) := by decide +kernel
theorem dLL_law_36 : decode cLL_law 36 = .ok (.bipush 31, 2) := by decide +kernel
theorem dLL_law_38 : decode cLL_law 38 = .ok (.iand, 1) := by decide +kernel
theorem dLL_law_39 : decode cLL_law 39 = .ok (.tableswitch 584 0 16 #[81, 118, 143, 154, 167, 235, 246, 260, 285, 310, 347, 403, 471, 484, 509, 534, 559], 81) := by decide +kernel
theorem dLL_law_120 : decode cLL_law 120 = .ok (.aload_n 1, 1) := by decide +kernel
theorem dLL_law_121 : decode cLL_law 121 = .ok (.aload_n 0, 1) := by decide +kernel
theorem dLL_law_122 : decode cLL_law 122 = .ok (.iload 4, 2) := by decide +kernel
theorem dLL_law_124 : decode cLL_law 124 = .ok (.iconst 1, 1) := by decide +kernel
theorem dLL_law_125 : decode cLL_law 125 = .ok (.iadd, 1) := by decide +kernel
theorem dLL_law_126 : decode cLL_law 126 = .ok (.iaload, 1) := by decide +kernel
theorem dLL_law_127 : decode cLL_law 127 = .ok (.aload_n 0, 1) := by decide +kernel
theorem dLL_law_128 : decode cLL_law 128 = .ok (.iload 4, 2) := by decide +kernel
theorem dLL_law_130 : decode cLL_law 130 = .ok (.iconst 2, 1) := by decide +kernel
theorem dLL_law_131 : decode cLL_law 131 = .ok (.iadd, 1) := by decide +kernel
theorem dLL_law_132 : decode cLL_law 132 = .ok (.iaload, 1) := by decide +kernel
theorem dLL_law_133 : decode cLL_law 133 = .ok (.invokevirtual 28, 3) := by decide +kernel
theorem dLL_law_136 : decode cLL_law 136 = .ok (.aload_n 2, 1) := by decide +kernel
theorem dLL_law_137 : decode cLL_law 137 = .ok (.aload_n 0, 1) := by decide +kernel
theorem dLL_law_138 : decode cLL_law 138 = .ok (.iload 4, 2) := by decide +kernel
theorem dLL_law_140 : decode cLL_law 140 = .ok (.iconst 1, 1) := by decide +kernel
theorem dLL_law_141 : decode cLL_law 141 = .ok (.iadd, 1) := by decide +kernel
theorem dLL_law_142 : decode cLL_law 142 = .ok (.iaload, 1) := by decide +kernel
theorem dLL_law_143 : decode cLL_law 143 = .ok (.aload_n 0, 1) := by decide +kernel
theorem dLL_law_144 : decode cLL_law 144 = .ok (.iload 4, 2) := by decide +kernel
theorem dLL_law_146 : decode cLL_law 146 = .ok (.iconst 2, 1) := by decide +kernel
theorem dLL_law_147 : decode cLL_law 147 = .ok (.iadd, 1) := by decide +kernel
theorem dLL_law_148 : decode cLL_law 148 = .ok (.iaload, 1) := by decide +kernel
theorem dLL_law_149 : decode cLL_law 149 = .ok (.invokevirtual 32, 3) := by decide +kernel
theorem dLL_law_152 : decode cLL_law 152 = .ok (.if_icmp .eq 471, 3) := by decide +kernel
theorem dLL_law_155 : decode cLL_law 155 = .ok (.iconst 0, 1) := by decide +kernel
theorem dLL_law_156 : decode cLL_law 156 = .ok (.ireturn, 1) := by decide +kernel
theorem dLL_law_157 : decode cLL_law 157 = .ok (.aload_n 1, 1) := by decide +kernel
theorem dLL_law_158 : decode cLL_law 158 = .ok (.aload_n 0, 1) := by decide +kernel
theorem dLL_law_159 : decode cLL_law 159 = .ok (.iload 4, 2) := by decide +kernel
theorem dLL_law_161 : decode cLL_law 161 = .ok (.iconst 1, 1) := by decide +kernel
theorem dLL_law_162 : decode cLL_law 162 = .ok (.iadd, 1) := by decide +kernel
theorem dLL_law_163 : decode cLL_law 163 = .ok (.iaload, 1) := by decide +kernel
theorem dLL_law_164 : decode cLL_law 164 = .ok (.invokevirtual 33, 3) := by decide +kernel
theorem dLL_law_167 : decode cLL_law 167 = .ok (.aload_n 2, 1) := by decide +kernel
theorem dLL_law_168 : decode cLL_law 168 = .ok (.aload_n 0, 1) := by decide +kernel
theorem dLL_law_169 : decode cLL_law 169 = .ok (.iload 4, 2) := by decide +kernel
theorem dLL_law_171 : decode cLL_law 171 = .ok (.iconst 1, 1) := by decide +kernel
theorem dLL_law_172 : decode cLL_law 172 = .ok (.iadd, 1) := by decide +kernel
theorem dLL_law_173 : decode cLL_law 173 = .ok (.iaload, 1) := by decide +kernel
theorem dLL_law_174 : decode cLL_law 174 = .ok (.invokevirtual 36, 3) := by decide +kernel
theorem dLL_law_177 : decode cLL_law 177 = .ok (.if_icmp .eq 446, 3) := by decide +kernel
theorem dLL_law_180 : decode cLL_law 180 = .ok (.iconst 0, 1) := by decide +kernel
theorem dLL_law_181 : decode cLL_law 181 = .ok (.ireturn, 1) := by decide +kernel
theorem dLL_law_182 : decode cLL_law 182 = .ok (.aload_n 1, 1) := by decide +kernel
theorem dLL_law_183 : decode cLL_law 183 = .ok (.invokevirtual 37, 3) := by decide +kernel
theorem dLL_law_186 : decode cLL_law 186 = .ok (.aload_n 2, 1) := by decide +kernel
theorem dLL_law_187 : decode cLL_law 187 = .ok (.invokevirtual 40, 3) := by decide +kernel
theorem dLL_law_190 : decode cLL_law 190 = .ok (.goto 433, 3) := by decide +kernel
theorem dLL_law_193 : decode cLL_law 193 = .ok (.aload_n 1, 1) := by decide +kernel
theorem dLL_law_194 : decode cLL_law 194 = .ok (.invokevirtual 41, 3) := by decide +kernel
theorem dLL_law_197 : decode cLL_law 197 = .ok (.aload_n 2, 1) := by decide +kernel
theorem dLL_law_198 : decode cLL_law 198 = .ok (.invokevirtual 45, 3) := by decide +kernel
theorem dLL_law_201 : decode cLL_law 201 = .ok (.if_icmp .eq 422, 3) := by decide +kernel
theorem dLL_law_204 : decode cLL_law 204 = .ok (.iconst 0, 1) := by decide +kernel
theorem dLL_law_205 : decode cLL_law 205 = .ok (.ireturn, 1) := by decide +kernel
theorem dLL_law_206 : decode cLL_law 206 = .ok (.aload_n 1, 1) := by decide +kernel
theorem dLL_law_207 : decode cLL_law 207 = .ok (.aload_n 0, 1) := by decide +kernel
theorem dLL_law_208 : decode cLL_law 208 = .ok (.iload 4, 2) := by decide +kernel
theorem dLL_law_210 : decode cLL_law 210 = .ok (.iconst 1, 1) := by decide +kernel
theorem dLL_law_211 : decode cLL_law 211 = .ok (.iadd, 1) := by decide +kernel
theorem dLL_law_212 : decode cLL_law 212 = .ok (.iaload, 1) := by decide +kernel
theorem dLL_law_213 : decode cLL_law 213 = .ok (.aload_n 0, 1) := by decide +kernel
theorem dLL_law_214 : decode cLL_law 214 = .ok (.iload 4, 2) := by decide +kernel
theorem dLL_law_216 : decode cLL_law 216 = .ok (.iconst 2, 1) := by decide +kernel
