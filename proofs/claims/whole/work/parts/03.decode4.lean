theorem d_JI_bitCount_0 : decode b_JI_bitCount 0 = .ok (.iload_n 0, 1) := by decide +kernel
theorem d_JI_bitCount_1 : decode b_JI_bitCount 1 = .ok (.iload_n 0, 1) := by decide +kernel
theorem d_JI_bitCount_2 : decode b_JI_bitCount 2 = .ok (.iconst 1, 1) := by decide +kernel
theorem d_JI_bitCount_3 : decode b_JI_bitCount 3 = .ok (.iushr, 1) := by decide +kernel
theorem d_JI_bitCount_4 : decode b_JI_bitCount 4 = .ok (.ldc_w 265, 3) := by decide +kernel
theorem d_JI_bitCount_7 : decode b_JI_bitCount 7 = .ok (.iand, 1) := by decide +kernel
theorem d_JI_bitCount_8 : decode b_JI_bitCount 8 = .ok (.isub, 1) := by decide +kernel
theorem d_JI_bitCount_9 : decode b_JI_bitCount 9 = .ok (.istore_n 0, 1) := by decide +kernel
theorem d_JI_bitCount_10 : decode b_JI_bitCount 10 = .ok (.iload_n 0, 1) := by decide +kernel
theorem d_JI_bitCount_11 : decode b_JI_bitCount 11 = .ok (.ldc_w 266, 3) := by decide +kernel
theorem d_JI_bitCount_14 : decode b_JI_bitCount 14 = .ok (.iand, 1) := by decide +kernel
theorem d_JI_bitCount_15 : decode b_JI_bitCount 15 = .ok (.iload_n 0, 1) := by decide +kernel
theorem d_JI_bitCount_16 : decode b_JI_bitCount 16 = .ok (.iconst 2, 1) := by decide +kernel
theorem d_JI_bitCount_17 : decode b_JI_bitCount 17 = .ok (.iushr, 1) := by decide +kernel
theorem d_JI_bitCount_18 : decode b_JI_bitCount 18 = .ok (.ldc_w 266, 3) := by decide +kernel
theorem d_JI_bitCount_21 : decode b_JI_bitCount 21 = .ok (.iand, 1) := by decide +kernel
theorem d_JI_bitCount_22 : decode b_JI_bitCount 22 = .ok (.iadd, 1) := by decide +kernel
theorem d_JI_bitCount_23 : decode b_JI_bitCount 23 = .ok (.istore_n 0, 1) := by decide +kernel
theorem d_JI_bitCount_24 : decode b_JI_bitCount 24 = .ok (.iload_n 0, 1) := by decide +kernel
theorem d_JI_bitCount_25 : decode b_JI_bitCount 25 = .ok (.iload_n 0, 1) := by decide +kernel
theorem d_JI_bitCount_26 : decode b_JI_bitCount 26 = .ok (.iconst 4, 1) := by decide +kernel
theorem d_JI_bitCount_27 : decode b_JI_bitCount 27 = .ok (.iushr, 1) := by decide +kernel
theorem d_JI_bitCount_28 : decode b_JI_bitCount 28 = .ok (.iadd, 1) := by decide +kernel
theorem d_JI_bitCount_29 : decode b_JI_bitCount 29 = .ok (.ldc_w 267, 3) := by decide +kernel
theorem d_JI_bitCount_32 : decode b_JI_bitCount 32 = .ok (.iand, 1) := by decide +kernel
theorem d_JI_bitCount_33 : decode b_JI_bitCount 33 = .ok (.istore_n 0, 1) := by decide +kernel
theorem d_JI_bitCount_34 : decode b_JI_bitCount 34 = .ok (.iload_n 0, 1) := by decide +kernel
theorem d_JI_bitCount_35 : decode b_JI_bitCount 35 = .ok (.iload_n 0, 1) := by decide +kernel
theorem d_JI_bitCount_36 : decode b_JI_bitCount 36 = .ok (.bipush 8, 2) := by decide +kernel
theorem d_JI_bitCount_38 : decode b_JI_bitCount 38 = .ok (.iushr, 1) := by decide +kernel
theorem d_JI_bitCount_39 : decode b_JI_bitCount 39 = .ok (.iadd, 1) := by decide +kernel
theorem d_JI_bitCount_40 : decode b_JI_bitCount 40 = .ok (.istore_n 0, 1) := by decide +kernel
theorem d_JI_bitCount_41 : decode b_JI_bitCount 41 = .ok (.iload_n 0, 1) := by decide +kernel
theorem d_JI_bitCount_42 : decode b_JI_bitCount 42 = .ok (.iload_n 0, 1) := by decide +kernel
theorem d_JI_bitCount_43 : decode b_JI_bitCount 43 = .ok (.bipush 16, 2) := by decide +kernel
theorem d_JI_bitCount_45 : decode b_JI_bitCount 45 = .ok (.iushr, 1) := by decide +kernel
theorem d_JI_bitCount_46 : decode b_JI_bitCount 46 = .ok (.iadd, 1) := by decide +kernel
theorem d_JI_bitCount_47 : decode b_JI_bitCount 47 = .ok (.istore_n 0, 1) := by decide +kernel
theorem d_JI_bitCount_48 : decode b_JI_bitCount 48 = .ok (.iload_n 0, 1) := by decide +kernel
theorem d_JI_bitCount_49 : decode b_JI_bitCount 49 = .ok (.bipush 63, 2) := by decide +kernel
theorem d_JI_bitCount_51 : decode b_JI_bitCount 51 = .ok (.iand, 1) := by decide +kernel
theorem d_JI_bitCount_52 : decode b_JI_bitCount 52 = .ok (.ireturn, 1) := by decide +kernel
theorem d_JM_floorDiv_0 : decode b_JM_floorDiv 0 = .ok (.lload_n 0, 1) := by decide +kernel
theorem d_JM_floorDiv_1 : decode b_JM_floorDiv 1 = .ok (.lload_n 2, 1) := by decide +kernel
theorem d_JM_floorDiv_2 : decode b_JM_floorDiv 2 = .ok (.ldiv, 1) := by decide +kernel
theorem d_JM_floorDiv_3 : decode b_JM_floorDiv 3 = .ok (.lstore 4, 2) := by decide +kernel
theorem d_JM_floorDiv_5 : decode b_JM_floorDiv 5 = .ok (.lload_n 0, 1) := by decide +kernel
theorem d_JM_floorDiv_6 : decode b_JM_floorDiv 6 = .ok (.lload_n 2, 1) := by decide +kernel
theorem d_JM_floorDiv_7 : decode b_JM_floorDiv 7 = .ok (.lxor, 1) := by decide +kernel
theorem d_JM_floorDiv_8 : decode b_JM_floorDiv 8 = .ok (.lconst 0, 1) := by decide +kernel
theorem d_JM_floorDiv_9 : decode b_JM_floorDiv 9 = .ok (.lcmp, 1) := by decide +kernel
theorem d_JM_floorDiv_10 : decode b_JM_floorDiv 10 = .ok (.ifCond .ge 17, 3) := by decide +kernel
theorem d_JM_floorDiv_13 : decode b_JM_floorDiv 13 = .ok (.lload 4, 2) := by decide +kernel
theorem d_JM_floorDiv_15 : decode b_JM_floorDiv 15 = .ok (.lload_n 2, 1) := by decide +kernel
theorem d_JM_floorDiv_16 : decode b_JM_floorDiv 16 = .ok (.lmul, 1) := by decide +kernel
theorem d_JM_floorDiv_17 : decode b_JM_floorDiv 17 = .ok (.lload_n 0, 1) := by decide +kernel
theorem d_JM_floorDiv_18 : decode b_JM_floorDiv 18 = .ok (.lcmp, 1) := by decide +kernel
theorem d_JM_floorDiv_19 : decode b_JM_floorDiv 19 = .ok (.ifCond .eq 8, 3) := by decide +kernel
theorem d_JM_floorDiv_22 : decode b_JM_floorDiv 22 = .ok (.lload 4, 2) := by decide +kernel
theorem d_JM_floorDiv_24 : decode b_JM_floorDiv 24 = .ok (.lconst 1, 1) := by decide +kernel
theorem d_JM_floorDiv_25 : decode b_JM_floorDiv 25 = .ok (.lsub, 1) := by decide +kernel
theorem d_JM_floorDiv_26 : decode b_JM_floorDiv 26 = .ok (.lreturn, 1) := by decide +kernel
theorem d_JM_floorDiv_27 : decode b_JM_floorDiv 27 = .ok (.lload 4, 2) := by decide +kernel
theorem d_JM_floorDiv_29 : decode b_JM_floorDiv 29 = .ok (.lreturn, 1) := by decide +kernel
theorem d_JM_min_0 : decode b_JM_min 0 = .ok (.lload_n 0, 1) := by decide +kernel
theorem d_JM_min_1 : decode b_JM_min 1 = .ok (.lload_n 2, 1) := by decide +kernel
theorem d_JM_min_2 : decode b_JM_min 2 = .ok (.lcmp, 1) := by decide +kernel
theorem d_JM_min_3 : decode b_JM_min 3 = .ok (.ifCond .gt 7, 3) := by decide +kernel
theorem d_JM_min_6 : decode b_JM_min 6 = .ok (.lload_n 0, 1) := by decide +kernel
theorem d_JM_min_7 : decode b_JM_min 7 = .ok (.goto 4, 3) := by decide +kernel
theorem d_JM_min_10 : decode b_JM_min 10 = .ok (.lload_n 2, 1) := by decide +kernel
theorem d_JM_min_11 : decode b_JM_min 11 = .ok (.lreturn, 1) := by decide +kernel
theorem d_LW_law_0 : decode code 0 = .ok (.new 7, 3) := by decide +kernel
theorem d_LW_law_3 : decode code 3 = .ok (.dup, 1) := by decide +kernel
theorem d_LW_law_4 : decode code 4 = .ok (.invokespecial 9, 3) := by decide +kernel
theorem d_LW_law_7 : decode code 7 = .ok (.astore_n 1, 1) := by decide +kernel
theorem d_LW_law_8 : decode code 8 = .ok (.new 10, 3) := by decide +kernel
theorem d_LW_law_11 : decode code 11 = .ok (.dup, 1) := by decide +kernel
theorem d_LW_law_12 : decode code 12 = .ok (.invokespecial 12, 3) := by decide +kernel
theorem d_LW_law_15 : decode code 15 = .ok (.astore_n 2, 1) := by decide +kernel
theorem d_LW_law_16 : decode code 16 = .ok (.iconst 0, 1) := by decide +kernel
theorem d_LW_law_17 : decode code 17 = .ok (.istore_n 3, 1) := by decide +kernel
theorem d_LW_law_18 : decode code 18 = .ok (.iload_n 3, 1) := by decide +kernel
theorem d_LW_law_19 : decode code 19 = .ok (.aload_n 0, 1) := by decide +kernel
theorem d_LW_law_20 : decode code 20 = .ok (.arraylength, 1) := by decide +kernel
theorem d_LW_law_21 : decode code 21 = .ok (.bipush 7, 2) := by decide +kernel
theorem d_LW_law_23 : decode code 23 = .ok (.isub, 1) := by decide +kernel
theorem d_LW_law_24 : decode code 24 = .ok (.if_icmp .gt 775, 3) := by decide +kernel
theorem d_LW_law_27 : decode code 27 = .ok (.aload_n 0, 1) := by decide +kernel
theorem d_LW_law_28 : decode code 28 = .ok (.iload_n 3, 1) := by decide +kernel
theorem d_LW_law_29 : decode code 29 = .ok (.iaload, 1) := by decide +kernel
theorem d_LW_law_30 : decode code 30 = .ok (.bipush 31, 2) := by decide +kernel
theorem d_LW_law_32 : decode code 32 = .ok (.iand, 1) := by decide +kernel
theorem d_LW_law_33 : decode code 33 = .ok (.tableswitch 760 0 17 #[87, 162, 195, 228, 241, 254, 297, 341, 364, 427, 491, 525, 538, 562, 585, 609, 673, 737], 87) := by decide +kernel
theorem d_LW_law_120 : decode code 120 = .ok (.aload_n 1, 1) := by decide +kernel
theorem d_LW_law_121 : decode code 121 = .ok (.aload_n 0, 1) := by decide +kernel
theorem d_LW_law_122 : decode code 122 = .ok (.iload_n 3, 1) := by decide +kernel
theorem d_LW_law_123 : decode code 123 = .ok (.iconst 1, 1) := by decide +kernel
theorem d_LW_law_124 : decode code 124 = .ok (.iadd, 1) := by decide +kernel
theorem d_LW_law_125 : decode code 125 = .ok (.iaload, 1) := by decide +kernel
theorem d_LW_law_126 : decode code 126 = .ok (.aload_n 0, 1) := by decide +kernel
theorem d_LW_law_127 : decode code 127 = .ok (.iload_n 3, 1) := by decide +kernel
theorem d_LW_law_128 : decode code 128 = .ok (.iconst 2, 1) := by decide +kernel
theorem d_LW_law_129 : decode code 129 = .ok (.iadd, 1) := by decide +kernel
theorem d_LW_law_130 : decode code 130 = .ok (.iaload, 1) := by decide +kernel
theorem d_LW_law_131 : decode code 131 = .ok (.aload_n 0, 1) := by decide +kernel
theorem d_LW_law_132 : decode code 132 = .ok (.iload_n 3, 1) := by decide +kernel
theorem d_LW_law_133 : decode code 133 = .ok (.iconst 3, 1) := by decide +kernel
theorem d_LW_law_134 : decode code 134 = .ok (.iadd, 1) := by decide +kernel
theorem d_LW_law_135 : decode code 135 = .ok (.iaload, 1) := by decide +kernel
theorem d_LW_law_136 : decode code 136 = .ok (.aload_n 0, 1) := by decide +kernel
theorem d_LW_law_137 : decode code 137 = .ok (.iload_n 3, 1) := by decide +kernel
theorem d_LW_law_138 : decode code 138 = .ok (.iconst 4, 1) := by decide +kernel
theorem d_LW_law_139 : decode code 139 = .ok (.iadd, 1) := by decide +kernel
theorem d_LW_law_140 : decode code 140 = .ok (.iaload, 1) := by decide +kernel
theorem d_LW_law_141 : decode code 141 = .ok (.aload_n 0, 1) := by decide +kernel
theorem d_LW_law_142 : decode code 142 = .ok (.iload_n 3, 1) := by decide +kernel
theorem d_LW_law_143 : decode code 143 = .ok (.iconst 5, 1) := by decide +kernel
theorem d_LW_law_144 : decode code 144 = .ok (.iadd, 1) := by decide +kernel
theorem d_LW_law_145 : decode code 145 = .ok (.iaload, 1) := by decide +kernel
theorem d_LW_law_146 : decode code 146 = .ok (.aload_n 0, 1) := by decide +kernel
theorem d_LW_law_147 : decode code 147 = .ok (.iload_n 3, 1) := by decide +kernel
theorem d_LW_law_148 : decode code 148 = .ok (.bipush 6, 2) := by decide +kernel
theorem d_LW_law_150 : decode code 150 = .ok (.iadd, 1) := by decide +kernel
theorem d_LW_law_151 : decode code 151 = .ok (.iaload, 1) := by decide +kernel
theorem d_LW_law_152 : decode code 152 = .ok (.invokevirtual 13, 3) := by decide +kernel
theorem d_LW_law_155 : decode code 155 = .ok (.aload_n 2, 1) := by decide +kernel
theorem d_LW_law_156 : decode code 156 = .ok (.aload_n 0, 1) := by decide +kernel
theorem d_LW_law_157 : decode code 157 = .ok (.iload_n 3, 1) := by decide +kernel
theorem d_LW_law_158 : decode code 158 = .ok (.iconst 1, 1) := by decide +kernel
theorem d_LW_law_159 : decode code 159 = .ok (.iadd, 1) := by decide +kernel
theorem d_LW_law_160 : decode code 160 = .ok (.iaload, 1) := by decide +kernel
theorem d_LW_law_161 : decode code 161 = .ok (.aload_n 0, 1) := by decide +kernel
theorem d_LW_law_162 : decode code 162 = .ok (.iload_n 3, 1) := by decide +kernel
theorem d_LW_law_163 : decode code 163 = .ok (.iconst 2, 1) := by decide +kernel
theorem d_LW_law_164 : decode code 164 = .ok (.iadd, 1) := by decide +kernel
theorem d_LW_law_165 : decode code 165 = .ok (.iaload, 1) := by decide +kernel
theorem d_LW_law_166 : decode code 166 = .ok (.aload_n 0, 1) := by decide +kernel
theorem d_LW_law_167 : decode code 167 = .ok (.iload_n 3, 1) := by decide +kernel
theorem d_LW_law_168 : decode code 168 = .ok (.iconst 3, 1) := by decide +kernel
theorem d_LW_law_169 : decode code 169 = .ok (.iadd, 1) := by decide +kernel
theorem d_LW_law_170 : decode code 170 = .ok (.iaload, 1) := by decide +kernel
theorem d_LW_law_171 : decode code 171 = .ok (.aload_n 0, 1) := by decide +kernel
theorem d_LW_law_172 : decode code 172 = .ok (.iload_n 3, 1) := by decide +kernel
theorem d_LW_law_173 : decode code 173 = .ok (.iconst 4, 1) := by decide +kernel
theorem d_LW_law_174 : decode code 174 = .ok (.iadd, 1) := by decide +kernel
theorem d_LW_law_175 : decode code 175 = .ok (.iaload, 1) := by decide +kernel
theorem d_LW_law_176 : decode code 176 = .ok (.aload_n 0, 1) := by decide +kernel
theorem d_LW_law_177 : decode code 177 = .ok (.iload_n 3, 1) := by decide +kernel
theorem d_LW_law_178 : decode code 178 = .ok (.iconst 5, 1) := by decide +kernel
theorem d_LW_law_179 : decode code 179 = .ok (.iadd, 1) := by decide +kernel
theorem d_LW_law_180 : decode code 180 = .ok (.iaload, 1) := by decide +kernel
theorem d_LW_law_181 : decode code 181 = .ok (.aload_n 0, 1) := by decide +kernel
theorem d_LW_law_182 : decode code 182 = .ok (.iload_n 3, 1) := by decide +kernel
theorem d_LW_law_183 : decode code 183 = .ok (.bipush 6, 2) := by decide +kernel
theorem d_LW_law_185 : decode code 185 = .ok (.iadd, 1) := by decide +kernel
theorem d_LW_law_186 : decode code 186 = .ok (.iaload, 1) := by decide +kernel
theorem d_LW_law_187 : decode code 187 = .ok (.invokevirtual 17, 3) := by decide +kernel
theorem d_LW_law_190 : decode code 190 = .ok (.if_icmp .eq 603, 3) := by decide +kernel
theorem d_LW_law_193 : decode code 193 = .ok (.iconst 0, 1) := by decide +kernel
theorem d_LW_law_194 : decode code 194 = .ok (.ireturn, 1) := by decide +kernel
theorem d_LW_law_195 : decode code 195 = .ok (.aload_n 1, 1) := by decide +kernel
theorem d_LW_law_196 : decode code 196 = .ok (.aload_n 0, 1) := by decide +kernel
theorem d_LW_law_197 : decode code 197 = .ok (.iload_n 3, 1) := by decide +kernel
theorem d_LW_law_198 : decode code 198 = .ok (.iconst 1, 1) := by decide +kernel
theorem d_LW_law_199 : decode code 199 = .ok (.iadd, 1) := by decide +kernel
theorem d_LW_law_200 : decode code 200 = .ok (.iaload, 1) := by decide +kernel
theorem d_LW_law_201 : decode code 201 = .ok (.aload_n 0, 1) := by decide +kernel
theorem d_LW_law_202 : decode code 202 = .ok (.iload_n 3, 1) := by decide +kernel
theorem d_LW_law_203 : decode code 203 = .ok (.iconst 2, 1) := by decide +kernel
theorem d_LW_law_204 : decode code 204 = .ok (.iadd, 1) := by decide +kernel
theorem d_LW_law_205 : decode code 205 = .ok (.iaload, 1) := by decide +kernel
theorem d_LW_law_206 : decode code 206 = .ok (.invokevirtual 18, 3) := by decide +kernel
theorem d_LW_law_209 : decode code 209 = .ok (.aload_n 2, 1) := by decide +kernel
theorem d_LW_law_210 : decode code 210 = .ok (.aload_n 0, 1) := by decide +kernel
theorem d_LW_law_211 : decode code 211 = .ok (.iload_n 3, 1) := by decide +kernel
theorem d_LW_law_212 : decode code 212 = .ok (.iconst 1, 1) := by decide +kernel
theorem d_LW_law_213 : decode code 213 = .ok (.iadd, 1) := by decide +kernel
theorem d_LW_law_214 : decode code 214 = .ok (.iaload, 1) := by decide +kernel
theorem d_LW_law_215 : decode code 215 = .ok (.aload_n 0, 1) := by decide +kernel
theorem d_LW_law_216 : decode code 216 = .ok (.iload_n 3, 1) := by decide +kernel
theorem d_LW_law_217 : decode code 217 = .ok (.iconst 2, 1) := by decide +kernel
theorem d_LW_law_218 : decode code 218 = .ok (.iadd, 1) := by decide +kernel
theorem d_LW_law_219 : decode code 219 = .ok (.iaload, 1) := by decide +kernel
theorem d_LW_law_220 : decode code 220 = .ok (.invokevirtual 22, 3) := by decide +kernel
theorem d_LW_law_223 : decode code 223 = .ok (.if_icmp .eq 570, 3) := by decide +kernel
theorem d_LW_law_226 : decode code 226 = .ok (.iconst 0, 1) := by decide +kernel
theorem d_LW_law_227 : decode code 227 = .ok (.ireturn, 1) := by decide +kernel
theorem d_LW_law_228 : decode code 228 = .ok (.aload_n 1, 1) := by decide +kernel
theorem d_LW_law_229 : decode code 229 = .ok (.aload_n 0, 1) := by decide +kernel
theorem d_LW_law_230 : decode code 230 = .ok (.iload_n 3, 1) := by decide +kernel
theorem d_LW_law_231 : decode code 231 = .ok (.iconst 1, 1) := by decide +kernel
theorem d_LW_law_232 : decode code 232 = .ok (.iadd, 1) := by decide +kernel
theorem d_LW_law_233 : decode code 233 = .ok (.iaload, 1) := by decide +kernel
theorem d_LW_law_234 : decode code 234 = .ok (.aload_n 0, 1) := by decide +kernel
theorem d_LW_law_235 : decode code 235 = .ok (.iload_n 3, 1) := by decide +kernel
theorem d_LW_law_236 : decode code 236 = .ok (.iconst 2, 1) := by decide +kernel
theorem d_LW_law_237 : decode code 237 = .ok (.iadd, 1) := by decide +kernel
theorem d_LW_law_238 : decode code 238 = .ok (.iaload, 1) := by decide +kernel
theorem d_LW_law_239 : decode code 239 = .ok (.invokevirtual 23, 3) := by decide +kernel
theorem d_LW_law_242 : decode code 242 = .ok (.aload_n 2, 1) := by decide +kernel
theorem d_LW_law_243 : decode code 243 = .ok (.aload_n 0, 1) := by decide +kernel
theorem d_LW_law_244 : decode code 244 = .ok (.iload_n 3, 1) := by decide +kernel
theorem d_LW_law_245 : decode code 245 = .ok (.iconst 1, 1) := by decide +kernel
theorem d_LW_law_246 : decode code 246 = .ok (.iadd, 1) := by decide +kernel
theorem d_LW_law_247 : decode code 247 = .ok (.iaload, 1) := by decide +kernel
theorem d_LW_law_248 : decode code 248 = .ok (.aload_n 0, 1) := by decide +kernel
theorem d_LW_law_249 : decode code 249 = .ok (.iload_n 3, 1) := by decide +kernel
theorem d_LW_law_250 : decode code 250 = .ok (.iconst 2, 1) := by decide +kernel
theorem d_LW_law_251 : decode code 251 = .ok (.iadd, 1) := by decide +kernel
theorem d_LW_law_252 : decode code 252 = .ok (.iaload, 1) := by decide +kernel
theorem d_LW_law_253 : decode code 253 = .ok (.invokevirtual 26, 3) := by decide +kernel
theorem d_LW_law_256 : decode code 256 = .ok (.if_icmp .eq 537, 3) := by decide +kernel
theorem d_LW_law_259 : decode code 259 = .ok (.iconst 0, 1) := by decide +kernel
theorem d_LW_law_260 : decode code 260 = .ok (.ireturn, 1) := by decide +kernel
theorem d_LW_law_261 : decode code 261 = .ok (.aload_n 1, 1) := by decide +kernel
theorem d_LW_law_262 : decode code 262 = .ok (.invokevirtual 27, 3) := by decide +kernel
theorem d_LW_law_265 : decode code 265 = .ok (.aload_n 2, 1) := by decide +kernel
theorem d_LW_law_266 : decode code 266 = .ok (.invokevirtual 31, 3) := by decide +kernel
theorem d_LW_law_269 : decode code 269 = .ok (.if_icmp .eq 524, 3) := by decide +kernel
theorem d_LW_law_272 : decode code 272 = .ok (.iconst 0, 1) := by decide +kernel
theorem d_LW_law_273 : decode code 273 = .ok (.ireturn, 1) := by decide +kernel
theorem d_LW_law_274 : decode code 274 = .ok (.aload_n 1, 1) := by decide +kernel
theorem d_LW_law_275 : decode code 275 = .ok (.invokevirtual 32, 3) := by decide +kernel
theorem d_LW_law_278 : decode code 278 = .ok (.aload_n 2, 1) := by decide +kernel
theorem d_LW_law_279 : decode code 279 = .ok (.invokevirtual 35, 3) := by decide +kernel
theorem d_LW_law_282 : decode code 282 = .ok (.if_icmp .eq 511, 3) := by decide +kernel
theorem d_LW_law_285 : decode code 285 = .ok (.iconst 0, 1) := by decide +kernel
theorem d_LW_law_286 : decode code 286 = .ok (.ireturn, 1) := by decide +kernel
theorem d_LW_law_287 : decode code 287 = .ok (.aload_n 1, 1) := by decide +kernel
theorem d_LW_law_288 : decode code 288 = .ok (.aload_n 0, 1) := by decide +kernel
theorem d_LW_law_289 : decode code 289 = .ok (.iload_n 3, 1) := by decide +kernel
theorem d_LW_law_290 : decode code 290 = .ok (.iconst 1, 1) := by decide +kernel
theorem d_LW_law_291 : decode code 291 = .ok (.iadd, 1) := by decide +kernel
theorem d_LW_law_292 : decode code 292 = .ok (.iaload, 1) := by decide +kernel
theorem d_LW_law_293 : decode code 293 = .ok (.aload_n 0, 1) := by decide +kernel
theorem d_LW_law_294 : decode code 294 = .ok (.iload_n 3, 1) := by decide +kernel
theorem d_LW_law_295 : decode code 295 = .ok (.iconst 2, 1) := by decide +kernel
theorem d_LW_law_296 : decode code 296 = .ok (.iadd, 1) := by decide +kernel
theorem d_LW_law_297 : decode code 297 = .ok (.iaload, 1) := by decide +kernel
theorem d_LW_law_298 : decode code 298 = .ok (.aload_n 0, 1) := by decide +kernel
theorem d_LW_law_299 : decode code 299 = .ok (.iload_n 3, 1) := by decide +kernel
theorem d_LW_law_300 : decode code 300 = .ok (.iconst 3, 1) := by decide +kernel
theorem d_LW_law_301 : decode code 301 = .ok (.iadd, 1) := by decide +kernel
theorem d_LW_law_302 : decode code 302 = .ok (.iaload, 1) := by decide +kernel
theorem d_LW_law_303 : decode code 303 = .ok (.invokevirtual 36, 3) := by decide +kernel
theorem d_LW_law_306 : decode code 306 = .ok (.aload_n 2, 1) := by decide +kernel
theorem d_LW_law_307 : decode code 307 = .ok (.aload_n 0, 1) := by decide +kernel
theorem d_LW_law_308 : decode code 308 = .ok (.iload_n 3, 1) := by decide +kernel
theorem d_LW_law_309 : decode code 309 = .ok (.iconst 1, 1) := by decide +kernel
theorem d_LW_law_310 : decode code 310 = .ok (.iadd, 1) := by decide +kernel
theorem d_LW_law_311 : decode code 311 = .ok (.iaload, 1) := by decide +kernel
theorem d_LW_law_312 : decode code 312 = .ok (.aload_n 0, 1) := by decide +kernel
theorem d_LW_law_313 : decode code 313 = .ok (.iload_n 3, 1) := by decide +kernel
theorem d_LW_law_314 : decode code 314 = .ok (.iconst 2, 1) := by decide +kernel
theorem d_LW_law_315 : decode code 315 = .ok (.iadd, 1) := by decide +kernel
theorem d_LW_law_316 : decode code 316 = .ok (.iaload, 1) := by decide +kernel
theorem d_LW_law_317 : decode code 317 = .ok (.aload_n 0, 1) := by decide +kernel
theorem d_LW_law_318 : decode code 318 = .ok (.iload_n 3, 1) := by decide +kernel
theorem d_LW_law_319 : decode code 319 = .ok (.iconst 3, 1) := by decide +kernel
theorem d_LW_law_320 : decode code 320 = .ok (.iadd, 1) := by decide +kernel
theorem d_LW_law_321 : decode code 321 = .ok (.iaload, 1) := by decide +kernel
theorem d_LW_law_322 : decode code 322 = .ok (.invokevirtual 40, 3) := by decide +kernel
theorem d_LW_law_325 : decode code 325 = .ok (.if_icmp .eq 468, 3) := by decide +kernel
theorem d_LW_law_328 : decode code 328 = .ok (.iconst 0, 1) := by decide +kernel
theorem d_LW_law_329 : decode code 329 = .ok (.ireturn, 1) := by decide +kernel
theorem d_LW_law_330 : decode code 330 = .ok (.aload_n 1, 1) := by decide +kernel
theorem d_LW_law_331 : decode code 331 = .ok (.aload_n 0, 1) := by decide +kernel
theorem d_LW_law_332 : decode code 332 = .ok (.iload_n 3, 1) := by decide +kernel
theorem d_LW_law_333 : decode code 333 = .ok (.iconst 1, 1) := by decide +kernel
theorem d_LW_law_334 : decode code 334 = .ok (.iadd, 1) := by decide +kernel
theorem d_LW_law_335 : decode code 335 = .ok (.iaload, 1) := by decide +kernel
theorem d_LW_law_336 : decode code 336 = .ok (.aload_n 0, 1) := by decide +kernel
theorem d_LW_law_337 : decode code 337 = .ok (.iload_n 3, 1) := by decide +kernel
theorem d_LW_law_338 : decode code 338 = .ok (.iconst 2, 1) := by decide +kernel
theorem d_LW_law_339 : decode code 339 = .ok (.iadd, 1) := by decide +kernel
theorem d_LW_law_340 : decode code 340 = .ok (.iaload, 1) := by decide +kernel
theorem d_LW_law_341 : decode code 341 = .ok (.aload_n 0, 1) := by decide +kernel
theorem d_LW_law_342 : decode code 342 = .ok (.iload_n 3, 1) := by decide +kernel
theorem d_LW_law_343 : decode code 343 = .ok (.iconst 3, 1) := by decide +kernel
theorem d_LW_law_344 : decode code 344 = .ok (.iadd, 1) := by decide +kernel
theorem d_LW_law_345 : decode code 345 = .ok (.iaload, 1) := by decide +kernel
theorem d_LW_law_346 : decode code 346 = .ok (.invokevirtual 41, 3) := by decide +kernel
theorem d_LW_law_349 : decode code 349 = .ok (.aload_n 2, 1) := by decide +kernel
theorem d_LW_law_350 : decode code 350 = .ok (.aload_n 0, 1) := by decide +kernel
theorem d_LW_law_351 : decode code 351 = .ok (.iload_n 3, 1) := by decide +kernel
theorem d_LW_law_352 : decode code 352 = .ok (.iconst 1, 1) := by decide +kernel
theorem d_LW_law_353 : decode code 353 = .ok (.iadd, 1) := by decide +kernel
theorem d_LW_law_354 : decode code 354 = .ok (.iaload, 1) := by decide +kernel
theorem d_LW_law_355 : decode code 355 = .ok (.aload_n 0, 1) := by decide +kernel
theorem d_LW_law_356 : decode code 356 = .ok (.iload_n 3, 1) := by decide +kernel
theorem d_LW_law_357 : decode code 357 = .ok (.iconst 2, 1) := by decide +kernel
theorem d_LW_law_358 : decode code 358 = .ok (.iadd, 1) := by decide +kernel
theorem d_LW_law_359 : decode code 359 = .ok (.iaload, 1) := by decide +kernel
theorem d_LW_law_360 : decode code 360 = .ok (.aload_n 0, 1) := by decide +kernel
theorem d_LW_law_361 : decode code 361 = .ok (.iload_n 3, 1) := by decide +kernel
theorem d_LW_law_362 : decode code 362 = .ok (.iconst 3, 1) := by decide +kernel
theorem d_LW_law_363 : decode code 363 = .ok (.iadd, 1) := by decide +kernel
theorem d_LW_law_364 : decode code 364 = .ok (.iaload, 1) := by decide +kernel
theorem d_LW_law_365 : decode code 365 = .ok (.invokevirtual 45, 3) := by decide +kernel
theorem d_LW_law_368 : decode code 368 = .ok (.lcmp, 1) := by decide +kernel
theorem d_LW_law_369 : decode code 369 = .ok (.ifCond .eq 424, 3) := by decide +kernel
theorem d_LW_law_372 : decode code 372 = .ok (.iconst 0, 1) := by decide +kernel
theorem d_LW_law_373 : decode code 373 = .ok (.ireturn, 1) := by decide +kernel
theorem d_LW_law_374 : decode code 374 = .ok (.aload_n 1, 1) := by decide +kernel
theorem d_LW_law_375 : decode code 375 = .ok (.aload_n 0, 1) := by decide +kernel
theorem d_LW_law_376 : decode code 376 = .ok (.iload_n 3, 1) := by decide +kernel
theorem d_LW_law_377 : decode code 377 = .ok (.iconst 1, 1) := by decide +kernel
theorem d_LW_law_378 : decode code 378 = .ok (.iadd, 1) := by decide +kernel
theorem d_LW_law_379 : decode code 379 = .ok (.iaload, 1) := by decide +kernel
theorem d_LW_law_380 : decode code 380 = .ok (.invokevirtual 46, 3) := by decide +kernel
theorem d_LW_law_383 : decode code 383 = .ok (.aload_n 2, 1) := by decide +kernel
theorem d_LW_law_384 : decode code 384 = .ok (.aload_n 0, 1) := by decide +kernel
theorem d_LW_law_385 : decode code 385 = .ok (.iload_n 3, 1) := by decide +kernel
theorem d_LW_law_386 : decode code 386 = .ok (.iconst 1, 1) := by decide +kernel
theorem d_LW_law_387 : decode code 387 = .ok (.iadd, 1) := by decide +kernel
theorem d_LW_law_388 : decode code 388 = .ok (.iaload, 1) := by decide +kernel
theorem d_LW_law_389 : decode code 389 = .ok (.invokevirtual 50, 3) := by decide +kernel
theorem d_LW_law_392 : decode code 392 = .ok (.if_icmp .eq 401, 3) := by decide +kernel
theorem d_LW_law_395 : decode code 395 = .ok (.iconst 0, 1) := by decide +kernel
theorem d_LW_law_396 : decode code 396 = .ok (.ireturn, 1) := by decide +kernel
theorem d_LW_law_397 : decode code 397 = .ok (.aload_n 1, 1) := by decide +kernel
theorem d_LW_law_398 : decode code 398 = .ok (.aload_n 0, 1) := by decide +kernel
theorem d_LW_law_399 : decode code 399 = .ok (.iload_n 3, 1) := by decide +kernel
theorem d_LW_law_400 : decode code 400 = .ok (.iconst 1, 1) := by decide +kernel
theorem d_LW_law_401 : decode code 401 = .ok (.iadd, 1) := by decide +kernel
theorem d_LW_law_402 : decode code 402 = .ok (.iaload, 1) := by decide +kernel
theorem d_LW_law_403 : decode code 403 = .ok (.aload_n 0, 1) := by decide +kernel
theorem d_LW_law_404 : decode code 404 = .ok (.iload_n 3, 1) := by decide +kernel
theorem d_LW_law_405 : decode code 405 = .ok (.iconst 2, 1) := by decide +kernel
theorem d_LW_law_406 : decode code 406 = .ok (.iadd, 1) := by decide +kernel
theorem d_LW_law_407 : decode code 407 = .ok (.iaload, 1) := by decide +kernel
theorem d_LW_law_408 : decode code 408 = .ok (.aload_n 0, 1) := by decide +kernel
theorem d_LW_law_409 : decode code 409 = .ok (.iload_n 3, 1) := by decide +kernel
theorem d_LW_law_410 : decode code 410 = .ok (.iconst 3, 1) := by decide +kernel
theorem d_LW_law_411 : decode code 411 = .ok (.iadd, 1) := by decide +kernel
theorem d_LW_law_412 : decode code 412 = .ok (.iaload, 1) := by decide +kernel
theorem d_LW_law_413 : decode code 413 = .ok (.aload_n 0, 1) := by decide +kernel
theorem d_LW_law_414 : decode code 414 = .ok (.iload_n 3, 1) := by decide +kernel
theorem d_LW_law_415 : decode code 415 = .ok (.iconst 4, 1) := by decide +kernel
theorem d_LW_law_416 : decode code 416 = .ok (.iadd, 1) := by decide +kernel
theorem d_LW_law_417 : decode code 417 = .ok (.iaload, 1) := by decide +kernel
theorem d_LW_law_418 : decode code 418 = .ok (.aload_n 0, 1) := by decide +kernel
theorem d_LW_law_419 : decode code 419 = .ok (.iload_n 3, 1) := by decide +kernel
theorem d_LW_law_420 : decode code 420 = .ok (.iconst 5, 1) := by decide +kernel
theorem d_LW_law_421 : decode code 421 = .ok (.iadd, 1) := by decide +kernel
theorem d_LW_law_422 : decode code 422 = .ok (.iaload, 1) := by decide +kernel
theorem d_LW_law_423 : decode code 423 = .ok (.invokevirtual 51, 3) := by decide +kernel
theorem d_LW_law_426 : decode code 426 = .ok (.aload_n 2, 1) := by decide +kernel
theorem d_LW_law_427 : decode code 427 = .ok (.aload_n 0, 1) := by decide +kernel
theorem d_LW_law_428 : decode code 428 = .ok (.iload_n 3, 1) := by decide +kernel
theorem d_LW_law_429 : decode code 429 = .ok (.iconst 1, 1) := by decide +kernel
theorem d_LW_law_430 : decode code 430 = .ok (.iadd, 1) := by decide +kernel
theorem d_LW_law_431 : decode code 431 = .ok (.iaload, 1) := by decide +kernel
theorem d_LW_law_432 : decode code 432 = .ok (.aload_n 0, 1) := by decide +kernel
theorem d_LW_law_433 : decode code 433 = .ok (.iload_n 3, 1) := by decide +kernel
theorem d_LW_law_434 : decode code 434 = .ok (.iconst 2, 1) := by decide +kernel
theorem d_LW_law_435 : decode code 435 = .ok (.iadd, 1) := by decide +kernel
theorem d_LW_law_436 : decode code 436 = .ok (.iaload, 1) := by decide +kernel
theorem d_LW_law_437 : decode code 437 = .ok (.aload_n 0, 1) := by decide +kernel
theorem d_LW_law_438 : decode code 438 = .ok (.iload_n 3, 1) := by decide +kernel
theorem d_LW_law_439 : decode code 439 = .ok (.iconst 3, 1) := by decide +kernel
theorem d_LW_law_440 : decode code 440 = .ok (.iadd, 1) := by decide +kernel
theorem d_LW_law_441 : decode code 441 = .ok (.iaload, 1) := by decide +kernel
theorem d_LW_law_442 : decode code 442 = .ok (.aload_n 0, 1) := by decide +kernel
theorem d_LW_law_443 : decode code 443 = .ok (.iload_n 3, 1) := by decide +kernel
theorem d_LW_law_444 : decode code 444 = .ok (.iconst 4, 1) := by decide +kernel
theorem d_LW_law_445 : decode code 445 = .ok (.iadd, 1) := by decide +kernel
theorem d_LW_law_446 : decode code 446 = .ok (.iaload, 1) := by decide +kernel
theorem d_LW_law_447 : decode code 447 = .ok (.aload_n 0, 1) := by decide +kernel
theorem d_LW_law_448 : decode code 448 = .ok (.iload_n 3, 1) := by decide +kernel
theorem d_LW_law_449 : decode code 449 = .ok (.iconst 5, 1) := by decide +kernel
theorem d_LW_law_450 : decode code 450 = .ok (.iadd, 1) := by decide +kernel
theorem d_LW_law_451 : decode code 451 = .ok (.iaload, 1) := by decide +kernel
theorem d_LW_law_452 : decode code 452 = .ok (.invokevirtual 55, 3) := by decide +kernel
theorem d_LW_law_455 : decode code 455 = .ok (.if_icmp .eq 338, 3) := by decide +kernel
theorem d_LW_law_458 : decode code 458 = .ok (.iconst 0, 1) := by decide +kernel
theorem d_LW_law_459 : decode code 459 = .ok (.ireturn, 1) := by decide +kernel
theorem d_LW_law_460 : decode code 460 = .ok (.aload_n 1, 1) := by decide +kernel
theorem d_LW_law_461 : decode code 461 = .ok (.aload_n 0, 1) := by decide +kernel
theorem d_LW_law_462 : decode code 462 = .ok (.iload_n 3, 1) := by decide +kernel
theorem d_LW_law_463 : decode code 463 = .ok (.iconst 1, 1) := by decide +kernel
theorem d_LW_law_464 : decode code 464 = .ok (.iadd, 1) := by decide +kernel
theorem d_LW_law_465 : decode code 465 = .ok (.iaload, 1) := by decide +kernel
theorem d_LW_law_466 : decode code 466 = .ok (.aload_n 0, 1) := by decide +kernel
theorem d_LW_law_467 : decode code 467 = .ok (.iload_n 3, 1) := by decide +kernel
theorem d_LW_law_468 : decode code 468 = .ok (.iconst 2, 1) := by decide +kernel
theorem d_LW_law_469 : decode code 469 = .ok (.iadd, 1) := by decide +kernel
theorem d_LW_law_470 : decode code 470 = .ok (.iaload, 1) := by decide +kernel
theorem d_LW_law_471 : decode code 471 = .ok (.aload_n 0, 1) := by decide +kernel
theorem d_LW_law_472 : decode code 472 = .ok (.iload_n 3, 1) := by decide +kernel
theorem d_LW_law_473 : decode code 473 = .ok (.iconst 3, 1) := by decide +kernel
theorem d_LW_law_474 : decode code 474 = .ok (.iadd, 1) := by decide +kernel
theorem d_LW_law_475 : decode code 475 = .ok (.iaload, 1) := by decide +kernel
theorem d_LW_law_476 : decode code 476 = .ok (.aload_n 0, 1) := by decide +kernel
theorem d_LW_law_477 : decode code 477 = .ok (.iload_n 3, 1) := by decide +kernel
theorem d_LW_law_478 : decode code 478 = .ok (.iconst 4, 1) := by decide +kernel
theorem d_LW_law_479 : decode code 479 = .ok (.iadd, 1) := by decide +kernel
theorem d_LW_law_480 : decode code 480 = .ok (.iaload, 1) := by decide +kernel
theorem d_LW_law_481 : decode code 481 = .ok (.aload_n 0, 1) := by decide +kernel
theorem d_LW_law_482 : decode code 482 = .ok (.iload_n 3, 1) := by decide +kernel
theorem d_LW_law_483 : decode code 483 = .ok (.iconst 5, 1) := by decide +kernel
theorem d_LW_law_484 : decode code 484 = .ok (.iadd, 1) := by decide +kernel
theorem d_LW_law_485 : decode code 485 = .ok (.iaload, 1) := by decide +kernel
theorem d_LW_law_486 : decode code 486 = .ok (.invokevirtual 56, 3) := by decide +kernel
theorem d_LW_law_489 : decode code 489 = .ok (.aload_n 2, 1) := by decide +kernel
theorem d_LW_law_490 : decode code 490 = .ok (.aload_n 0, 1) := by decide +kernel
theorem d_LW_law_491 : decode code 491 = .ok (.iload_n 3, 1) := by decide +kernel
theorem d_LW_law_492 : decode code 492 = .ok (.iconst 1, 1) := by decide +kernel
theorem d_LW_law_493 : decode code 493 = .ok (.iadd, 1) := by decide +kernel
theorem d_LW_law_494 : decode code 494 = .ok (.iaload, 1) := by decide +kernel
theorem d_LW_law_495 : decode code 495 = .ok (.aload_n 0, 1) := by decide +kernel
theorem d_LW_law_496 : decode code 496 = .ok (.iload_n 3, 1) := by decide +kernel
theorem d_LW_law_497 : decode code 497 = .ok (.iconst 2, 1) := by decide +kernel
theorem d_LW_law_498 : decode code 498 = .ok (.iadd, 1) := by decide +kernel
theorem d_LW_law_499 : decode code 499 = .ok (.iaload, 1) := by decide +kernel
theorem d_LW_law_500 : decode code 500 = .ok (.aload_n 0, 1) := by decide +kernel
theorem d_LW_law_501 : decode code 501 = .ok (.iload_n 3, 1) := by decide +kernel
theorem d_LW_law_502 : decode code 502 = .ok (.iconst 3, 1) := by decide +kernel
theorem d_LW_law_503 : decode code 503 = .ok (.iadd, 1) := by decide +kernel
theorem d_LW_law_504 : decode code 504 = .ok (.iaload, 1) := by decide +kernel
theorem d_LW_law_505 : decode code 505 = .ok (.aload_n 0, 1) := by decide +kernel
theorem d_LW_law_506 : decode code 506 = .ok (.iload_n 3, 1) := by decide +kernel
theorem d_LW_law_507 : decode code 507 = .ok (.iconst 4, 1) := by decide +kernel
theorem d_LW_law_508 : decode code 508 = .ok (.iadd, 1) := by decide +kernel
theorem d_LW_law_509 : decode code 509 = .ok (.iaload, 1) := by decide +kernel
theorem d_LW_law_510 : decode code 510 = .ok (.aload_n 0, 1) := by decide +kernel
theorem d_LW_law_511 : decode code 511 = .ok (.iload_n 3, 1) := by decide +kernel
theorem d_LW_law_512 : decode code 512 = .ok (.iconst 5, 1) := by decide +kernel
theorem d_LW_law_513 : decode code 513 = .ok (.iadd, 1) := by decide +kernel
theorem d_LW_law_514 : decode code 514 = .ok (.iaload, 1) := by decide +kernel
theorem d_LW_law_515 : decode code 515 = .ok (.invokevirtual 60, 3) := by decide +kernel
theorem d_LW_law_518 : decode code 518 = .ok (.lcmp, 1) := by decide +kernel
theorem d_LW_law_519 : decode code 519 = .ok (.ifCond .eq 274, 3) := by decide +kernel
theorem d_LW_law_522 : decode code 522 = .ok (.iconst 0, 1) := by decide +kernel
theorem d_LW_law_523 : decode code 523 = .ok (.ireturn, 1) := by decide +kernel
theorem d_LW_law_524 : decode code 524 = .ok (.aload_n 1, 1) := by decide +kernel
theorem d_LW_law_525 : decode code 525 = .ok (.aload_n 0, 1) := by decide +kernel
theorem d_LW_law_526 : decode code 526 = .ok (.iload_n 3, 1) := by decide +kernel
theorem d_LW_law_527 : decode code 527 = .ok (.iconst 1, 1) := by decide +kernel
theorem d_LW_law_528 : decode code 528 = .ok (.iadd, 1) := by decide +kernel
theorem d_LW_law_529 : decode code 529 = .ok (.iaload, 1) := by decide +kernel
theorem d_LW_law_530 : decode code 530 = .ok (.aload_n 0, 1) := by decide +kernel
theorem d_LW_law_531 : decode code 531 = .ok (.iload_n 3, 1) := by decide +kernel
theorem d_LW_law_532 : decode code 532 = .ok (.iconst 2, 1) := by decide +kernel
theorem d_LW_law_533 : decode code 533 = .ok (.iadd, 1) := by decide +kernel
theorem d_LW_law_534 : decode code 534 = .ok (.iaload, 1) := by decide +kernel
theorem d_LW_law_535 : decode code 535 = .ok (.invokevirtual 61, 3) := by decide +kernel
theorem d_LW_law_538 : decode code 538 = .ok (.aload_n 2, 1) := by decide +kernel
theorem d_LW_law_539 : decode code 539 = .ok (.aload_n 0, 1) := by decide +kernel
theorem d_LW_law_540 : decode code 540 = .ok (.iload_n 3, 1) := by decide +kernel
theorem d_LW_law_541 : decode code 541 = .ok (.iconst 1, 1) := by decide +kernel
theorem d_LW_law_542 : decode code 542 = .ok (.iadd, 1) := by decide +kernel
theorem d_LW_law_543 : decode code 543 = .ok (.iaload, 1) := by decide +kernel
theorem d_LW_law_544 : decode code 544 = .ok (.aload_n 0, 1) := by decide +kernel
theorem d_LW_law_545 : decode code 545 = .ok (.iload_n 3, 1) := by decide +kernel
theorem d_LW_law_546 : decode code 546 = .ok (.iconst 2, 1) := by decide +kernel
theorem d_LW_law_547 : decode code 547 = .ok (.iadd, 1) := by decide +kernel
theorem d_LW_law_548 : decode code 548 = .ok (.iaload, 1) := by decide +kernel
theorem d_LW_law_549 : decode code 549 = .ok (.invokevirtual 65, 3) := by decide +kernel
theorem d_LW_law_552 : decode code 552 = .ok (.lcmp, 1) := by decide +kernel
theorem d_LW_law_553 : decode code 553 = .ok (.ifCond .eq 240, 3) := by decide +kernel
theorem d_LW_law_556 : decode code 556 = .ok (.iconst 0, 1) := by decide +kernel
theorem d_LW_law_557 : decode code 557 = .ok (.ireturn, 1) := by decide +kernel
theorem d_LW_law_558 : decode code 558 = .ok (.aload_n 1, 1) := by decide +kernel
theorem d_LW_law_559 : decode code 559 = .ok (.invokevirtual 66, 3) := by decide +kernel
theorem d_LW_law_562 : decode code 562 = .ok (.aload_n 2, 1) := by decide +kernel
theorem d_LW_law_563 : decode code 563 = .ok (.invokevirtual 69, 3) := by decide +kernel
theorem d_LW_law_566 : decode code 566 = .ok (.if_icmp .eq 227, 3) := by decide +kernel
theorem d_LW_law_569 : decode code 569 = .ok (.iconst 0, 1) := by decide +kernel
theorem d_LW_law_570 : decode code 570 = .ok (.ireturn, 1) := by decide +kernel
theorem d_LW_law_571 : decode code 571 = .ok (.aload_n 1, 1) := by decide +kernel
theorem d_LW_law_572 : decode code 572 = .ok (.aload_n 0, 1) := by decide +kernel
theorem d_LW_law_573 : decode code 573 = .ok (.iload_n 3, 1) := by decide +kernel
theorem d_LW_law_574 : decode code 574 = .ok (.iconst 1, 1) := by decide +kernel
theorem d_LW_law_575 : decode code 575 = .ok (.iadd, 1) := by decide +kernel
theorem d_LW_law_576 : decode code 576 = .ok (.iaload, 1) := by decide +kernel
theorem d_LW_law_577 : decode code 577 = .ok (.invokevirtual 70, 3) := by decide +kernel
theorem d_LW_law_580 : decode code 580 = .ok (.aload_n 2, 1) := by decide +kernel
theorem d_LW_law_581 : decode code 581 = .ok (.aload_n 0, 1) := by decide +kernel
theorem d_LW_law_582 : decode code 582 = .ok (.iload_n 3, 1) := by decide +kernel
theorem d_LW_law_583 : decode code 583 = .ok (.iconst 1, 1) := by decide +kernel
theorem d_LW_law_584 : decode code 584 = .ok (.iadd, 1) := by decide +kernel
theorem d_LW_law_585 : decode code 585 = .ok (.iaload, 1) := by decide +kernel
theorem d_LW_law_586 : decode code 586 = .ok (.invokevirtual 74, 3) := by decide +kernel
theorem d_LW_law_589 : decode code 589 = .ok (.lcmp, 1) := by decide +kernel
theorem d_LW_law_590 : decode code 590 = .ok (.ifCond .eq 203, 3) := by decide +kernel
theorem d_LW_law_593 : decode code 593 = .ok (.iconst 0, 1) := by decide +kernel
theorem d_LW_law_594 : decode code 594 = .ok (.ireturn, 1) := by decide +kernel
theorem d_LW_law_595 : decode code 595 = .ok (.aload_n 1, 1) := by decide +kernel
theorem d_LW_law_596 : decode code 596 = .ok (.aload_n 0, 1) := by decide +kernel
theorem d_LW_law_597 : decode code 597 = .ok (.iload_n 3, 1) := by decide +kernel
theorem d_LW_law_598 : decode code 598 = .ok (.iconst 1, 1) := by decide +kernel
theorem d_LW_law_599 : decode code 599 = .ok (.iadd, 1) := by decide +kernel
theorem d_LW_law_600 : decode code 600 = .ok (.iaload, 1) := by decide +kernel
theorem d_LW_law_601 : decode code 601 = .ok (.invokevirtual 75, 3) := by decide +kernel
theorem d_LW_law_604 : decode code 604 = .ok (.aload_n 2, 1) := by decide +kernel
theorem d_LW_law_605 : decode code 605 = .ok (.aload_n 0, 1) := by decide +kernel
theorem d_LW_law_606 : decode code 606 = .ok (.iload_n 3, 1) := by decide +kernel
theorem d_LW_law_607 : decode code 607 = .ok (.iconst 1, 1) := by decide +kernel
theorem d_LW_law_608 : decode code 608 = .ok (.iadd, 1) := by decide +kernel
theorem d_LW_law_609 : decode code 609 = .ok (.iaload, 1) := by decide +kernel
theorem d_LW_law_610 : decode code 610 = .ok (.invokevirtual 78, 3) := by decide +kernel
theorem d_LW_law_613 : decode code 613 = .ok (.if_icmp .eq 180, 3) := by decide +kernel
theorem d_LW_law_616 : decode code 616 = .ok (.iconst 0, 1) := by decide +kernel
theorem d_LW_law_617 : decode code 617 = .ok (.ireturn, 1) := by decide +kernel
theorem d_LW_law_618 : decode code 618 = .ok (.aload_n 1, 1) := by decide +kernel
theorem d_LW_law_619 : decode code 619 = .ok (.aload_n 0, 1) := by decide +kernel
theorem d_LW_law_620 : decode code 620 = .ok (.iload_n 3, 1) := by decide +kernel
theorem d_LW_law_621 : decode code 621 = .ok (.iconst 1, 1) := by decide +kernel
theorem d_LW_law_622 : decode code 622 = .ok (.iadd, 1) := by decide +kernel
theorem d_LW_law_623 : decode code 623 = .ok (.iaload, 1) := by decide +kernel
theorem d_LW_law_624 : decode code 624 = .ok (.invokevirtual 79, 3) := by decide +kernel
theorem d_LW_law_627 : decode code 627 = .ok (.aload_n 2, 1) := by decide +kernel
theorem d_LW_law_628 : decode code 628 = .ok (.aload_n 0, 1) := by decide +kernel
theorem d_LW_law_629 : decode code 629 = .ok (.iload_n 3, 1) := by decide +kernel
theorem d_LW_law_630 : decode code 630 = .ok (.iconst 1, 1) := by decide +kernel
theorem d_LW_law_631 : decode code 631 = .ok (.iadd, 1) := by decide +kernel
theorem d_LW_law_632 : decode code 632 = .ok (.iaload, 1) := by decide +kernel
theorem d_LW_law_633 : decode code 633 = .ok (.invokevirtual 82, 3) := by decide +kernel
theorem d_LW_law_636 : decode code 636 = .ok (.lcmp, 1) := by decide +kernel
theorem d_LW_law_637 : decode code 637 = .ok (.ifCond .eq 156, 3) := by decide +kernel
theorem d_LW_law_640 : decode code 640 = .ok (.iconst 0, 1) := by decide +kernel
theorem d_LW_law_641 : decode code 641 = .ok (.ireturn, 1) := by decide +kernel
theorem d_LW_law_642 : decode code 642 = .ok (.aload_n 1, 1) := by decide +kernel
theorem d_LW_law_643 : decode code 643 = .ok (.aload_n 0, 1) := by decide +kernel
theorem d_LW_law_644 : decode code 644 = .ok (.iload_n 3, 1) := by decide +kernel
theorem d_LW_law_645 : decode code 645 = .ok (.iconst 1, 1) := by decide +kernel
theorem d_LW_law_646 : decode code 646 = .ok (.iadd, 1) := by decide +kernel
theorem d_LW_law_647 : decode code 647 = .ok (.iaload, 1) := by decide +kernel
theorem d_LW_law_648 : decode code 648 = .ok (.aload_n 0, 1) := by decide +kernel
theorem d_LW_law_649 : decode code 649 = .ok (.iload_n 3, 1) := by decide +kernel
theorem d_LW_law_650 : decode code 650 = .ok (.iconst 2, 1) := by decide +kernel
theorem d_LW_law_651 : decode code 651 = .ok (.iadd, 1) := by decide +kernel
theorem d_LW_law_652 : decode code 652 = .ok (.iaload, 1) := by decide +kernel
theorem d_LW_law_653 : decode code 653 = .ok (.aload_n 0, 1) := by decide +kernel
theorem d_LW_law_654 : decode code 654 = .ok (.iload_n 3, 1) := by decide +kernel
theorem d_LW_law_655 : decode code 655 = .ok (.iconst 3, 1) := by decide +kernel
theorem d_LW_law_656 : decode code 656 = .ok (.iadd, 1) := by decide +kernel
theorem d_LW_law_657 : decode code 657 = .ok (.iaload, 1) := by decide +kernel
theorem d_LW_law_658 : decode code 658 = .ok (.aload_n 0, 1) := by decide +kernel
theorem d_LW_law_659 : decode code 659 = .ok (.iload_n 3, 1) := by decide +kernel
theorem d_LW_law_660 : decode code 660 = .ok (.iconst 4, 1) := by decide +kernel
theorem d_LW_law_661 : decode code 661 = .ok (.iadd, 1) := by decide +kernel
theorem d_LW_law_662 : decode code 662 = .ok (.iaload, 1) := by decide +kernel
theorem d_LW_law_663 : decode code 663 = .ok (.aload_n 0, 1) := by decide +kernel
theorem d_LW_law_664 : decode code 664 = .ok (.iload_n 3, 1) := by decide +kernel
theorem d_LW_law_665 : decode code 665 = .ok (.iconst 5, 1) := by decide +kernel
theorem d_LW_law_666 : decode code 666 = .ok (.iadd, 1) := by decide +kernel
theorem d_LW_law_667 : decode code 667 = .ok (.iaload, 1) := by decide +kernel
theorem d_LW_law_668 : decode code 668 = .ok (.invokevirtual 83, 3) := by decide +kernel
theorem d_LW_law_671 : decode code 671 = .ok (.aload_n 2, 1) := by decide +kernel
theorem d_LW_law_672 : decode code 672 = .ok (.aload_n 0, 1) := by decide +kernel
theorem d_LW_law_673 : decode code 673 = .ok (.iload_n 3, 1) := by decide +kernel
theorem d_LW_law_674 : decode code 674 = .ok (.iconst 1, 1) := by decide +kernel
theorem d_LW_law_675 : decode code 675 = .ok (.iadd, 1) := by decide +kernel
theorem d_LW_law_676 : decode code 676 = .ok (.iaload, 1) := by decide +kernel
theorem d_LW_law_677 : decode code 677 = .ok (.aload_n 0, 1) := by decide +kernel
theorem d_LW_law_678 : decode code 678 = .ok (.iload_n 3, 1) := by decide +kernel
theorem d_LW_law_679 : decode code 679 = .ok (.iconst 2, 1) := by decide +kernel
theorem d_LW_law_680 : decode code 680 = .ok (.iadd, 1) := by decide +kernel
theorem d_LW_law_681 : decode code 681 = .ok (.iaload, 1) := by decide +kernel
theorem d_LW_law_682 : decode code 682 = .ok (.aload_n 0, 1) := by decide +kernel
theorem d_LW_law_683 : decode code 683 = .ok (.iload_n 3, 1) := by decide +kernel
theorem d_LW_law_684 : decode code 684 = .ok (.iconst 3, 1) := by decide +kernel
theorem d_LW_law_685 : decode code 685 = .ok (.iadd, 1) := by decide +kernel
theorem d_LW_law_686 : decode code 686 = .ok (.iaload, 1) := by decide +kernel
theorem d_LW_law_687 : decode code 687 = .ok (.aload_n 0, 1) := by decide +kernel
theorem d_LW_law_688 : decode code 688 = .ok (.iload_n 3, 1) := by decide +kernel
theorem d_LW_law_689 : decode code 689 = .ok (.iconst 4, 1) := by decide +kernel
theorem d_LW_law_690 : decode code 690 = .ok (.iadd, 1) := by decide +kernel
theorem d_LW_law_691 : decode code 691 = .ok (.iaload, 1) := by decide +kernel
theorem d_LW_law_692 : decode code 692 = .ok (.aload_n 0, 1) := by decide +kernel
theorem d_LW_law_693 : decode code 693 = .ok (.iload_n 3, 1) := by decide +kernel
theorem d_LW_law_694 : decode code 694 = .ok (.iconst 5, 1) := by decide +kernel
theorem d_LW_law_695 : decode code 695 = .ok (.iadd, 1) := by decide +kernel
theorem d_LW_law_696 : decode code 696 = .ok (.iaload, 1) := by decide +kernel
theorem d_LW_law_697 : decode code 697 = .ok (.invokevirtual 86, 3) := by decide +kernel
theorem d_LW_law_700 : decode code 700 = .ok (.lcmp, 1) := by decide +kernel
theorem d_LW_law_701 : decode code 701 = .ok (.ifCond .eq 92, 3) := by decide +kernel
theorem d_LW_law_704 : decode code 704 = .ok (.iconst 0, 1) := by decide +kernel
theorem d_LW_law_705 : decode code 705 = .ok (.ireturn, 1) := by decide +kernel
theorem d_LW_law_706 : decode code 706 = .ok (.aload_n 1, 1) := by decide +kernel
theorem d_LW_law_707 : decode code 707 = .ok (.aload_n 0, 1) := by decide +kernel
theorem d_LW_law_708 : decode code 708 = .ok (.iload_n 3, 1) := by decide +kernel
theorem d_LW_law_709 : decode code 709 = .ok (.iconst 1, 1) := by decide +kernel
theorem d_LW_law_710 : decode code 710 = .ok (.iadd, 1) := by decide +kernel
theorem d_LW_law_711 : decode code 711 = .ok (.iaload, 1) := by decide +kernel
theorem d_LW_law_712 : decode code 712 = .ok (.aload_n 0, 1) := by decide +kernel
theorem d_LW_law_713 : decode code 713 = .ok (.iload_n 3, 1) := by decide +kernel
theorem d_LW_law_714 : decode code 714 = .ok (.iconst 2, 1) := by decide +kernel
theorem d_LW_law_715 : decode code 715 = .ok (.iadd, 1) := by decide +kernel
theorem d_LW_law_716 : decode code 716 = .ok (.iaload, 1) := by decide +kernel
theorem d_LW_law_717 : decode code 717 = .ok (.aload_n 0, 1) := by decide +kernel
theorem d_LW_law_718 : decode code 718 = .ok (.iload_n 3, 1) := by decide +kernel
theorem d_LW_law_719 : decode code 719 = .ok (.iconst 3, 1) := by decide +kernel
theorem d_LW_law_720 : decode code 720 = .ok (.iadd, 1) := by decide +kernel
theorem d_LW_law_721 : decode code 721 = .ok (.iaload, 1) := by decide +kernel
theorem d_LW_law_722 : decode code 722 = .ok (.aload_n 0, 1) := by decide +kernel
theorem d_LW_law_723 : decode code 723 = .ok (.iload_n 3, 1) := by decide +kernel
theorem d_LW_law_724 : decode code 724 = .ok (.iconst 4, 1) := by decide +kernel
theorem d_LW_law_725 : decode code 725 = .ok (.iadd, 1) := by decide +kernel
theorem d_LW_law_726 : decode code 726 = .ok (.iaload, 1) := by decide +kernel
theorem d_LW_law_727 : decode code 727 = .ok (.aload_n 0, 1) := by decide +kernel
theorem d_LW_law_728 : decode code 728 = .ok (.iload_n 3, 1) := by decide +kernel
theorem d_LW_law_729 : decode code 729 = .ok (.iconst 5, 1) := by decide +kernel
theorem d_LW_law_730 : decode code 730 = .ok (.iadd, 1) := by decide +kernel
theorem d_LW_law_731 : decode code 731 = .ok (.iaload, 1) := by decide +kernel
theorem d_LW_law_732 : decode code 732 = .ok (.invokevirtual 87, 3) := by decide +kernel
theorem d_LW_law_735 : decode code 735 = .ok (.aload_n 2, 1) := by decide +kernel
theorem d_LW_law_736 : decode code 736 = .ok (.aload_n 0, 1) := by decide +kernel
theorem d_LW_law_737 : decode code 737 = .ok (.iload_n 3, 1) := by decide +kernel
theorem d_LW_law_738 : decode code 738 = .ok (.iconst 1, 1) := by decide +kernel
theorem d_LW_law_739 : decode code 739 = .ok (.iadd, 1) := by decide +kernel
theorem d_LW_law_740 : decode code 740 = .ok (.iaload, 1) := by decide +kernel
theorem d_LW_law_741 : decode code 741 = .ok (.aload_n 0, 1) := by decide +kernel
theorem d_LW_law_742 : decode code 742 = .ok (.iload_n 3, 1) := by decide +kernel
theorem d_LW_law_743 : decode code 743 = .ok (.iconst 2, 1) := by decide +kernel
theorem d_LW_law_744 : decode code 744 = .ok (.iadd, 1) := by decide +kernel
theorem d_LW_law_745 : decode code 745 = .ok (.iaload, 1) := by decide +kernel
theorem d_LW_law_746 : decode code 746 = .ok (.aload_n 0, 1) := by decide +kernel
theorem d_LW_law_747 : decode code 747 = .ok (.iload_n 3, 1) := by decide +kernel
theorem d_LW_law_748 : decode code 748 = .ok (.iconst 3, 1) := by decide +kernel
theorem d_LW_law_749 : decode code 749 = .ok (.iadd, 1) := by decide +kernel
theorem d_LW_law_750 : decode code 750 = .ok (.iaload, 1) := by decide +kernel
theorem d_LW_law_751 : decode code 751 = .ok (.aload_n 0, 1) := by decide +kernel
theorem d_LW_law_752 : decode code 752 = .ok (.iload_n 3, 1) := by decide +kernel
theorem d_LW_law_753 : decode code 753 = .ok (.iconst 4, 1) := by decide +kernel
theorem d_LW_law_754 : decode code 754 = .ok (.iadd, 1) := by decide +kernel
theorem d_LW_law_755 : decode code 755 = .ok (.iaload, 1) := by decide +kernel
theorem d_LW_law_756 : decode code 756 = .ok (.aload_n 0, 1) := by decide +kernel
theorem d_LW_law_757 : decode code 757 = .ok (.iload_n 3, 1) := by decide +kernel
theorem d_LW_law_758 : decode code 758 = .ok (.iconst 5, 1) := by decide +kernel
theorem d_LW_law_759 : decode code 759 = .ok (.iadd, 1) := by decide +kernel
theorem d_LW_law_760 : decode code 760 = .ok (.iaload, 1) := by decide +kernel
theorem d_LW_law_761 : decode code 761 = .ok (.invokevirtual 90, 3) := by decide +kernel
theorem d_LW_law_764 : decode code 764 = .ok (.lcmp, 1) := by decide +kernel
theorem d_LW_law_765 : decode code 765 = .ok (.ifCond .eq 28, 3) := by decide +kernel
theorem d_LW_law_768 : decode code 768 = .ok (.iconst 0, 1) := by decide +kernel
theorem d_LW_law_769 : decode code 769 = .ok (.ireturn, 1) := by decide +kernel
theorem d_LW_law_770 : decode code 770 = .ok (.aload_n 1, 1) := by decide +kernel
theorem d_LW_law_771 : decode code 771 = .ok (.aload_n 0, 1) := by decide +kernel
theorem d_LW_law_772 : decode code 772 = .ok (.iload_n 3, 1) := by decide +kernel
theorem d_LW_law_773 : decode code 773 = .ok (.iconst 1, 1) := by decide +kernel
theorem d_LW_law_774 : decode code 774 = .ok (.iadd, 1) := by decide +kernel
theorem d_LW_law_775 : decode code 775 = .ok (.iaload, 1) := by decide +kernel
theorem d_LW_law_776 : decode code 776 = .ok (.invokevirtual 91, 3) := by decide +kernel
theorem d_LW_law_779 : decode code 779 = .ok (.aload_n 2, 1) := by decide +kernel
theorem d_LW_law_780 : decode code 780 = .ok (.aload_n 0, 1) := by decide +kernel
theorem d_LW_law_781 : decode code 781 = .ok (.iload_n 3, 1) := by decide +kernel
theorem d_LW_law_782 : decode code 782 = .ok (.iconst 1, 1) := by decide +kernel
theorem d_LW_law_783 : decode code 783 = .ok (.iadd, 1) := by decide +kernel
theorem d_LW_law_784 : decode code 784 = .ok (.iaload, 1) := by decide +kernel
theorem d_LW_law_785 : decode code 785 = .ok (.invokevirtual 94, 3) := by decide +kernel
theorem d_LW_law_788 : decode code 788 = .ok (.if_icmp .eq 5, 3) := by decide +kernel
theorem d_LW_law_791 : decode code 791 = .ok (.iconst 0, 1) := by decide +kernel
theorem d_LW_law_792 : decode code 792 = .ok (.ireturn, 1) := by decide +kernel
theorem d_LW_law_793 : decode code 793 = .ok (.iinc 3 7, 3) := by decide +kernel
theorem d_LW_law_796 : decode code 796 = .ok (.goto (-778), 3) := by decide +kernel
theorem d_LW_law_799 : decode code 799 = .ok (.iconst 1, 1) := by decide +kernel
theorem d_LW_law_800 : decode code 800 = .ok (.ireturn, 1) := by decide +kernel
