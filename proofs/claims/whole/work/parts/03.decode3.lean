theorem d_MD_init_0 : decode b_MD_init 0 = .ok (.aload_n 0, 1) := by decide +kernel
theorem d_MD_init_1 : decode b_MD_init 1 = .ok (.invokespecial 1, 3) := by decide +kernel
theorem d_MD_init_4 : decode b_MD_init 4 = .ok (.aload_n 0, 1) := by decide +kernel
theorem d_MD_init_5 : decode b_MD_init 5 = .ok (.sipush 160, 3) := by decide +kernel
theorem d_MD_init_8 : decode b_MD_init 8 = .ok (.newarray .int, 2) := by decide +kernel
theorem d_MD_init_10 : decode b_MD_init 10 = .ok (.putfield 7, 3) := by decide +kernel
theorem d_MD_init_13 : decode b_MD_init 13 = .ok (.aload_n 0, 1) := by decide +kernel
theorem d_MD_init_14 : decode b_MD_init 14 = .ok (.bipush 40, 2) := by decide +kernel
theorem d_MD_init_16 : decode b_MD_init 16 = .ok (.newarray .int, 2) := by decide +kernel
theorem d_MD_init_18 : decode b_MD_init 18 = .ok (.putfield 13, 3) := by decide +kernel
theorem d_MD_init_21 : decode b_MD_init 21 = .ok (.aload_n 0, 1) := by decide +kernel
theorem d_MD_init_22 : decode b_MD_init 22 = .ok (.bipush 40, 2) := by decide +kernel
theorem d_MD_init_24 : decode b_MD_init 24 = .ok (.newarray .int, 2) := by decide +kernel
theorem d_MD_init_26 : decode b_MD_init 26 = .ok (.putfield 16, 3) := by decide +kernel
theorem d_MD_init_29 : decode b_MD_init 29 = .ok (.aload_n 0, 1) := by decide +kernel
theorem d_MD_init_30 : decode b_MD_init 30 = .ok (.bipush 40, 2) := by decide +kernel
theorem d_MD_init_32 : decode b_MD_init 32 = .ok (.newarray .boolean, 2) := by decide +kernel
theorem d_MD_init_34 : decode b_MD_init 34 = .ok (.putfield 19, 3) := by decide +kernel
theorem d_MD_init_37 : decode b_MD_init 37 = .ok (.aload_n 0, 1) := by decide +kernel
theorem d_MD_init_38 : decode b_MD_init 38 = .ok (.bipush 15, 2) := by decide +kernel
theorem d_MD_init_40 : decode b_MD_init 40 = .ok (.newarray .int, 2) := by decide +kernel
theorem d_MD_init_42 : decode b_MD_init 42 = .ok (.putfield 23, 3) := by decide +kernel
theorem d_MD_init_45 : decode b_MD_init 45 = .ok (.aload_n 0, 1) := by decide +kernel
theorem d_MD_init_46 : decode b_MD_init 46 = .ok (.sipush 160, 3) := by decide +kernel
theorem d_MD_init_49 : decode b_MD_init 49 = .ok (.newarray .int, 2) := by decide +kernel
theorem d_MD_init_51 : decode b_MD_init 51 = .ok (.putfield 26, 3) := by decide +kernel
theorem d_MD_init_54 : decode b_MD_init 54 = .ok (.aload_n 0, 1) := by decide +kernel
theorem d_MD_init_55 : decode b_MD_init 55 = .ok (.bipush 40, 2) := by decide +kernel
theorem d_MD_init_57 : decode b_MD_init 57 = .ok (.newarray .int, 2) := by decide +kernel
theorem d_MD_init_59 : decode b_MD_init 59 = .ok (.putfield 29, 3) := by decide +kernel
theorem d_MD_init_62 : decode b_MD_init 62 = .ok (.aload_n 0, 1) := by decide +kernel
theorem d_MD_init_63 : decode b_MD_init 63 = .ok (.bipush 40, 2) := by decide +kernel
theorem d_MD_init_65 : decode b_MD_init 65 = .ok (.newarray .int, 2) := by decide +kernel
theorem d_MD_init_67 : decode b_MD_init 67 = .ok (.putfield 32, 3) := by decide +kernel
theorem d_MD_init_70 : decode b_MD_init 70 = .ok (.aload_n 0, 1) := by decide +kernel
theorem d_MD_init_71 : decode b_MD_init 71 = .ok (.bipush 40, 2) := by decide +kernel
theorem d_MD_init_73 : decode b_MD_init 73 = .ok (.newarray .boolean, 2) := by decide +kernel
theorem d_MD_init_75 : decode b_MD_init 75 = .ok (.putfield 35, 3) := by decide +kernel
theorem d_MD_init_78 : decode b_MD_init 78 = .ok (.aload_n 0, 1) := by decide +kernel
theorem d_MD_init_79 : decode b_MD_init 79 = .ok (.bipush 15, 2) := by decide +kernel
theorem d_MD_init_81 : decode b_MD_init 81 = .ok (.newarray .int, 2) := by decide +kernel
theorem d_MD_init_83 : decode b_MD_init 83 = .ok (.putfield 38, 3) := by decide +kernel
theorem d_MD_init_86 : decode b_MD_init 86 = .ok (.aload_n 0, 1) := by decide +kernel
theorem d_MD_init_87 : decode b_MD_init 87 = .ok (.bipush 40, 2) := by decide +kernel
theorem d_MD_init_89 : decode b_MD_init 89 = .ok (.newarray .long, 2) := by decide +kernel
theorem d_MD_init_91 : decode b_MD_init 91 = .ok (.putfield 41, 3) := by decide +kernel
theorem d_MD_init_94 : decode b_MD_init 94 = .ok (.aload_n 0, 1) := by decide +kernel
theorem d_MD_init_95 : decode b_MD_init 95 = .ok (.bipush 26, 2) := by decide +kernel
theorem d_MD_init_97 : decode b_MD_init 97 = .ok (.newarray .long, 2) := by decide +kernel
theorem d_MD_init_99 : decode b_MD_init 99 = .ok (.putfield 45, 3) := by decide +kernel
theorem d_MD_init_102 : decode b_MD_init 102 = .ok (.aload_n 0, 1) := by decide +kernel
theorem d_MD_init_103 : decode b_MD_init 103 = .ok (.sipush 480, 3) := by decide +kernel
theorem d_MD_init_106 : decode b_MD_init 106 = .ok (.newarray .boolean, 2) := by decide +kernel
theorem d_MD_init_108 : decode b_MD_init 108 = .ok (.putfield 48, 3) := by decide +kernel
theorem d_MD_init_111 : decode b_MD_init 111 = .ok (.aload_n 0, 1) := by decide +kernel
theorem d_MD_init_112 : decode b_MD_init 112 = .ok (.bipush 12, 2) := by decide +kernel
theorem d_MD_init_114 : decode b_MD_init 114 = .ok (.newarray .int, 2) := by decide +kernel
theorem d_MD_init_116 : decode b_MD_init 116 = .ok (.putfield 51, 3) := by decide +kernel
theorem d_MD_init_119 : decode b_MD_init 119 = .ok (.aload_n 0, 1) := by decide +kernel
theorem d_MD_init_120 : decode b_MD_init 120 = .ok (.sipush 384, 3) := by decide +kernel
theorem d_MD_init_123 : decode b_MD_init 123 = .ok (.newarray .int, 2) := by decide +kernel
theorem d_MD_init_125 : decode b_MD_init 125 = .ok (.putfield 54, 3) := by decide +kernel
theorem d_MD_init_128 : decode b_MD_init 128 = .ok (.aload_n 0, 1) := by decide +kernel
theorem d_MD_init_129 : decode b_MD_init 129 = .ok (.sipush 384, 3) := by decide +kernel
theorem d_MD_init_132 : decode b_MD_init 132 = .ok (.newarray .int, 2) := by decide +kernel
theorem d_MD_init_134 : decode b_MD_init 134 = .ok (.putfield 57, 3) := by decide +kernel
theorem d_MD_init_137 : decode b_MD_init 137 = .ok (.aload_n 0, 1) := by decide +kernel
theorem d_MD_init_138 : decode b_MD_init 138 = .ok (.sipush 384, 3) := by decide +kernel
theorem d_MD_init_141 : decode b_MD_init 141 = .ok (.newarray .int, 2) := by decide +kernel
theorem d_MD_init_143 : decode b_MD_init 143 = .ok (.putfield 60, 3) := by decide +kernel
theorem d_MD_init_146 : decode b_MD_init 146 = .ok (.aload_n 0, 1) := by decide +kernel
theorem d_MD_init_147 : decode b_MD_init 147 = .ok (.sipush 384, 3) := by decide +kernel
theorem d_MD_init_150 : decode b_MD_init 150 = .ok (.newarray .int, 2) := by decide +kernel
theorem d_MD_init_152 : decode b_MD_init 152 = .ok (.putfield 63, 3) := by decide +kernel
theorem d_MD_init_155 : decode b_MD_init 155 = .ok (.aload_n 0, 1) := by decide +kernel
theorem d_MD_init_156 : decode b_MD_init 156 = .ok (.sipush 384, 3) := by decide +kernel
theorem d_MD_init_159 : decode b_MD_init 159 = .ok (.newarray .int, 2) := by decide +kernel
theorem d_MD_init_161 : decode b_MD_init 161 = .ok (.putfield 66, 3) := by decide +kernel
theorem d_MD_init_164 : decode b_MD_init 164 = .ok (.aload_n 0, 1) := by decide +kernel
theorem d_MD_init_165 : decode b_MD_init 165 = .ok (.sipush 384, 3) := by decide +kernel
theorem d_MD_init_168 : decode b_MD_init 168 = .ok (.newarray .int, 2) := by decide +kernel
theorem d_MD_init_170 : decode b_MD_init 170 = .ok (.putfield 69, 3) := by decide +kernel
theorem d_MD_init_173 : decode b_MD_init 173 = .ok (.aload_n 0, 1) := by decide +kernel
theorem d_MD_init_174 : decode b_MD_init 174 = .ok (.sipush 384, 3) := by decide +kernel
theorem d_MD_init_177 : decode b_MD_init 177 = .ok (.newarray .int, 2) := by decide +kernel
theorem d_MD_init_179 : decode b_MD_init 179 = .ok (.putfield 72, 3) := by decide +kernel
theorem d_MD_init_182 : decode b_MD_init 182 = .ok (.aload_n 0, 1) := by decide +kernel
theorem d_MD_init_183 : decode b_MD_init 183 = .ok (.sipush 384, 3) := by decide +kernel
theorem d_MD_init_186 : decode b_MD_init 186 = .ok (.newarray .long, 2) := by decide +kernel
theorem d_MD_init_188 : decode b_MD_init 188 = .ok (.putfield 75, 3) := by decide +kernel
theorem d_MD_init_191 : decode b_MD_init 191 = .ok (.aload_n 0, 1) := by decide +kernel
theorem d_MD_init_192 : decode b_MD_init 192 = .ok (.sipush 384, 3) := by decide +kernel
theorem d_MD_init_195 : decode b_MD_init 195 = .ok (.newarray .long, 2) := by decide +kernel
theorem d_MD_init_197 : decode b_MD_init 197 = .ok (.putfield 78, 3) := by decide +kernel
theorem d_MD_init_200 : decode b_MD_init 200 = .ok (.aload_n 0, 1) := by decide +kernel
theorem d_MD_init_201 : decode b_MD_init 201 = .ok (.bipush 40, 2) := by decide +kernel
theorem d_MD_init_203 : decode b_MD_init 203 = .ok (.newarray .int, 2) := by decide +kernel
theorem d_MD_init_205 : decode b_MD_init 205 = .ok (.putfield 81, 3) := by decide +kernel
theorem d_MD_init_208 : decode b_MD_init 208 = .ok (.aload_n 0, 1) := by decide +kernel
theorem d_MD_init_209 : decode b_MD_init 209 = .ok (.bipush 32, 2) := by decide +kernel
theorem d_MD_init_211 : decode b_MD_init 211 = .ok (.newarray .long, 2) := by decide +kernel
theorem d_MD_init_213 : decode b_MD_init 213 = .ok (.putfield 84, 3) := by decide +kernel
theorem d_MD_init_216 : decode b_MD_init 216 = .ok (.aload_n 0, 1) := by decide +kernel
theorem d_MD_init_217 : decode b_MD_init 217 = .ok (.getfield 23, 3) := by decide +kernel
theorem d_MD_init_220 : decode b_MD_init 220 = .ok (.iconst 0, 1) := by decide +kernel
theorem d_MD_init_221 : decode b_MD_init 221 = .ok (.iconst 3, 1) := by decide +kernel
theorem d_MD_init_222 : decode b_MD_init 222 = .ok (.iastore, 1) := by decide +kernel
theorem d_MD_init_223 : decode b_MD_init 223 = .ok (.aload_n 0, 1) := by decide +kernel
theorem d_MD_init_224 : decode b_MD_init 224 = .ok (.getfield 23, 3) := by decide +kernel
theorem d_MD_init_227 : decode b_MD_init 227 = .ok (.iconst 1, 1) := by decide +kernel
theorem d_MD_init_228 : decode b_MD_init 228 = .ok (.iconst 1, 1) := by decide +kernel
theorem d_MD_init_229 : decode b_MD_init 229 = .ok (.iastore, 1) := by decide +kernel
theorem d_MD_init_230 : decode b_MD_init 230 = .ok (.aload_n 0, 1) := by decide +kernel
theorem d_MD_init_231 : decode b_MD_init 231 = .ok (.getfield 23, 3) := by decide +kernel
theorem d_MD_init_234 : decode b_MD_init 234 = .ok (.iconst 2, 1) := by decide +kernel
theorem d_MD_init_235 : decode b_MD_init 235 = .ok (.iconst 1, 1) := by decide +kernel
theorem d_MD_init_236 : decode b_MD_init 236 = .ok (.iastore, 1) := by decide +kernel
theorem d_MD_init_237 : decode b_MD_init 237 = .ok (.aload_n 0, 1) := by decide +kernel
theorem d_MD_init_238 : decode b_MD_init 238 = .ok (.getfield 23, 3) := by decide +kernel
theorem d_MD_init_241 : decode b_MD_init 241 = .ok (.iconst 3, 1) := by decide +kernel
theorem d_MD_init_242 : decode b_MD_init 242 = .ok (.sipush 256, 3) := by decide +kernel
theorem d_MD_init_245 : decode b_MD_init 245 = .ok (.iastore, 1) := by decide +kernel
theorem d_MD_init_246 : decode b_MD_init 246 = .ok (.aload_n 0, 1) := by decide +kernel
theorem d_MD_init_247 : decode b_MD_init 247 = .ok (.getfield 23, 3) := by decide +kernel
theorem d_MD_init_250 : decode b_MD_init 250 = .ok (.iconst 4, 1) := by decide +kernel
theorem d_MD_init_251 : decode b_MD_init 251 = .ok (.iconst 4, 1) := by decide +kernel
theorem d_MD_init_252 : decode b_MD_init 252 = .ok (.iastore, 1) := by decide +kernel
theorem d_MD_init_253 : decode b_MD_init 253 = .ok (.aload_n 0, 1) := by decide +kernel
theorem d_MD_init_254 : decode b_MD_init 254 = .ok (.getfield 23, 3) := by decide +kernel
theorem d_MD_init_257 : decode b_MD_init 257 = .ok (.bipush 6, 2) := by decide +kernel
theorem d_MD_init_259 : decode b_MD_init 259 = .ok (.sipush 256, 3) := by decide +kernel
theorem d_MD_init_262 : decode b_MD_init 262 = .ok (.iastore, 1) := by decide +kernel
theorem d_MD_init_263 : decode b_MD_init 263 = .ok (.aload_n 0, 1) := by decide +kernel
theorem d_MD_init_264 : decode b_MD_init 264 = .ok (.getfield 23, 3) := by decide +kernel
theorem d_MD_init_267 : decode b_MD_init 267 = .ok (.bipush 7, 2) := by decide +kernel
theorem d_MD_init_269 : decode b_MD_init 269 = .ok (.sipush 256, 3) := by decide +kernel
theorem d_MD_init_272 : decode b_MD_init 272 = .ok (.iastore, 1) := by decide +kernel
theorem d_MD_init_273 : decode b_MD_init 273 = .ok (.return_, 1) := by decide +kernel
theorem d_MD_isNumber_0 : decode b_MD_isNumber 0 = .ok (.iload_n 0, 1) := by decide +kernel
theorem d_MD_isNumber_1 : decode b_MD_isNumber 1 = .ok (.iconst (-1), 1) := by decide +kernel
theorem d_MD_isNumber_2 : decode b_MD_isNumber 2 = .ok (.if_icmp .lt 13, 3) := by decide +kernel
theorem d_MD_isNumber_5 : decode b_MD_isNumber 5 = .ok (.iload_n 0, 1) := by decide +kernel
theorem d_MD_isNumber_6 : decode b_MD_isNumber 6 = .ok (.bipush 32, 2) := by decide +kernel
theorem d_MD_isNumber_8 : decode b_MD_isNumber 8 = .ok (.if_icmp .ge 7, 3) := by decide +kernel
theorem d_MD_isNumber_11 : decode b_MD_isNumber 11 = .ok (.iconst 1, 1) := by decide +kernel
theorem d_MD_isNumber_12 : decode b_MD_isNumber 12 = .ok (.goto 4, 3) := by decide +kernel
theorem d_MD_isNumber_15 : decode b_MD_isNumber 15 = .ok (.iconst 0, 1) := by decide +kernel
theorem d_MD_isNumber_16 : decode b_MD_isNumber 16 = .ok (.ireturn, 1) := by decide +kernel
theorem d_MD_areNumbers_0 : decode b_MD_areNumbers 0 = .ok (.iload_n 0, 1) := by decide +kernel
theorem d_MD_areNumbers_1 : decode b_MD_areNumbers 1 = .ok (.invokestatic 87, 3) := by decide +kernel
theorem d_MD_areNumbers_4 : decode b_MD_areNumbers 4 = .ok (.ifCond .eq 28, 3) := by decide +kernel
theorem d_MD_areNumbers_7 : decode b_MD_areNumbers 7 = .ok (.iload_n 1, 1) := by decide +kernel
theorem d_MD_areNumbers_8 : decode b_MD_areNumbers 8 = .ok (.invokestatic 87, 3) := by decide +kernel
theorem d_MD_areNumbers_11 : decode b_MD_areNumbers 11 = .ok (.ifCond .eq 21, 3) := by decide +kernel
theorem d_MD_areNumbers_14 : decode b_MD_areNumbers 14 = .ok (.iload_n 2, 1) := by decide +kernel
theorem d_MD_areNumbers_15 : decode b_MD_areNumbers 15 = .ok (.invokestatic 87, 3) := by decide +kernel
theorem d_MD_areNumbers_18 : decode b_MD_areNumbers 18 = .ok (.ifCond .eq 14, 3) := by decide +kernel
theorem d_MD_areNumbers_21 : decode b_MD_areNumbers 21 = .ok (.iload_n 3, 1) := by decide +kernel
theorem d_MD_areNumbers_22 : decode b_MD_areNumbers 22 = .ok (.invokestatic 87, 3) := by decide +kernel
theorem d_MD_areNumbers_25 : decode b_MD_areNumbers 25 = .ok (.ifCond .eq 7, 3) := by decide +kernel
theorem d_MD_areNumbers_28 : decode b_MD_areNumbers 28 = .ok (.iconst 1, 1) := by decide +kernel
theorem d_MD_areNumbers_29 : decode b_MD_areNumbers 29 = .ok (.goto 4, 3) := by decide +kernel
theorem d_MD_areNumbers_32 : decode b_MD_areNumbers 32 = .ok (.iconst 0, 1) := by decide +kernel
theorem d_MD_areNumbers_33 : decode b_MD_areNumbers 33 = .ok (.ireturn, 1) := by decide +kernel
theorem d_MD_number_0 : decode b_MD_number 0 = .ok (.iload_n 0, 1) := by decide +kernel
theorem d_MD_number_1 : decode b_MD_number 1 = .ok (.ifCond .ne 7, 3) := by decide +kernel
theorem d_MD_number_4 : decode b_MD_number 4 = .ok (.iload_n 1, 1) := by decide +kernel
theorem d_MD_number_5 : decode b_MD_number 5 = .ok (.goto 23, 3) := by decide +kernel
theorem d_MD_number_8 : decode b_MD_number 8 = .ok (.iload_n 0, 1) := by decide +kernel
theorem d_MD_number_9 : decode b_MD_number 9 = .ok (.iconst 1, 1) := by decide +kernel
theorem d_MD_number_10 : decode b_MD_number 10 = .ok (.if_icmp .ne 7, 3) := by decide +kernel
theorem d_MD_number_13 : decode b_MD_number 13 = .ok (.iload_n 2, 1) := by decide +kernel
theorem d_MD_number_14 : decode b_MD_number 14 = .ok (.goto 14, 3) := by decide +kernel
theorem d_MD_number_17 : decode b_MD_number 17 = .ok (.iload_n 0, 1) := by decide +kernel
theorem d_MD_number_18 : decode b_MD_number 18 = .ok (.iconst 2, 1) := by decide +kernel
theorem d_MD_number_19 : decode b_MD_number 19 = .ok (.if_icmp .ne 7, 3) := by decide +kernel
theorem d_MD_number_22 : decode b_MD_number 22 = .ok (.iload_n 3, 1) := by decide +kernel
theorem d_MD_number_23 : decode b_MD_number 23 = .ok (.goto 5, 3) := by decide +kernel
theorem d_MD_number_26 : decode b_MD_number 26 = .ok (.iload 4, 2) := by decide +kernel
theorem d_MD_number_28 : decode b_MD_number 28 = .ok (.ireturn, 1) := by decide +kernel
theorem d_MD_row_0 : decode b_MD_row 0 = .ok (.iload_n 1, 1) := by decide +kernel
theorem d_MD_row_1 : decode b_MD_row 1 = .ok (.iload_n 2, 1) := by decide +kernel
theorem d_MD_row_2 : decode b_MD_row 2 = .ok (.iload_n 3, 1) := by decide +kernel
theorem d_MD_row_3 : decode b_MD_row 3 = .ok (.iload 4, 2) := by decide +kernel
theorem d_MD_row_5 : decode b_MD_row 5 = .ok (.invokestatic 91, 3) := by decide +kernel
theorem d_MD_row_8 : decode b_MD_row 8 = .ok (.ifCond .eq 39, 3) := by decide +kernel
theorem d_MD_row_11 : decode b_MD_row 11 = .ok (.iload 5, 2) := by decide +kernel
theorem d_MD_row_13 : decode b_MD_row 13 = .ok (.bipush (-100), 2) := by decide +kernel
theorem d_MD_row_15 : decode b_MD_row 15 = .ok (.if_icmp .lt 32, 3) := by decide +kernel
theorem d_MD_row_18 : decode b_MD_row 18 = .ok (.iload 5, 2) := by decide +kernel
theorem d_MD_row_20 : decode b_MD_row 20 = .ok (.bipush 100, 2) := by decide +kernel
theorem d_MD_row_22 : decode b_MD_row 22 = .ok (.if_icmp .gt 25, 3) := by decide +kernel
theorem d_MD_row_25 : decode b_MD_row 25 = .ok (.iload 6, 2) := by decide +kernel
theorem d_MD_row_27 : decode b_MD_row 27 = .ok (.iconst 1, 1) := by decide +kernel
theorem d_MD_row_28 : decode b_MD_row 28 = .ok (.if_icmp .lt 19, 3) := by decide +kernel
theorem d_MD_row_31 : decode b_MD_row 31 = .ok (.iload 6, 2) := by decide +kernel
theorem d_MD_row_33 : decode b_MD_row 33 = .ok (.bipush 8, 2) := by decide +kernel
theorem d_MD_row_35 : decode b_MD_row 35 = .ok (.if_icmp .gt 12, 3) := by decide +kernel
theorem d_MD_row_38 : decode b_MD_row 38 = .ok (.aload_n 0, 1) := by decide +kernel
theorem d_MD_row_39 : decode b_MD_row 39 = .ok (.getfield 95, 3) := by decide +kernel
theorem d_MD_row_42 : decode b_MD_row 42 = .ok (.bipush 40, 2) := by decide +kernel
theorem d_MD_row_44 : decode b_MD_row 44 = .ok (.if_icmp .ne 6, 3) := by decide +kernel
theorem d_MD_row_47 : decode b_MD_row 47 = .ok (.bipush (-2), 2) := by decide +kernel
theorem d_MD_row_49 : decode b_MD_row 49 = .ok (.ireturn, 1) := by decide +kernel
theorem d_MD_row_50 : decode b_MD_row 50 = .ok (.iconst 0, 1) := by decide +kernel
theorem d_MD_row_51 : decode b_MD_row 51 = .ok (.istore 7, 2) := by decide +kernel
theorem d_MD_row_53 : decode b_MD_row 53 = .ok (.iload 7, 2) := by decide +kernel
theorem d_MD_row_55 : decode b_MD_row 55 = .ok (.iconst 4, 1) := by decide +kernel
theorem d_MD_row_56 : decode b_MD_row 56 = .ok (.if_icmp .ge 33, 3) := by decide +kernel
theorem d_MD_row_59 : decode b_MD_row 59 = .ok (.aload_n 0, 1) := by decide +kernel
theorem d_MD_row_60 : decode b_MD_row 60 = .ok (.getfield 7, 3) := by decide +kernel
theorem d_MD_row_63 : decode b_MD_row 63 = .ok (.iconst 4, 1) := by decide +kernel
theorem d_MD_row_64 : decode b_MD_row 64 = .ok (.aload_n 0, 1) := by decide +kernel
theorem d_MD_row_65 : decode b_MD_row 65 = .ok (.getfield 95, 3) := by decide +kernel
theorem d_MD_row_68 : decode b_MD_row 68 = .ok (.imul, 1) := by decide +kernel
theorem d_MD_row_69 : decode b_MD_row 69 = .ok (.iload 7, 2) := by decide +kernel
theorem d_MD_row_71 : decode b_MD_row 71 = .ok (.iadd, 1) := by decide +kernel
theorem d_MD_row_72 : decode b_MD_row 72 = .ok (.iload 7, 2) := by decide +kernel
theorem d_MD_row_74 : decode b_MD_row 74 = .ok (.iload_n 1, 1) := by decide +kernel
theorem d_MD_row_75 : decode b_MD_row 75 = .ok (.iload_n 2, 1) := by decide +kernel
theorem d_MD_row_76 : decode b_MD_row 76 = .ok (.iload_n 3, 1) := by decide +kernel
theorem d_MD_row_77 : decode b_MD_row 77 = .ok (.iload 4, 2) := by decide +kernel
theorem d_MD_row_79 : decode b_MD_row 79 = .ok (.invokestatic 99, 3) := by decide +kernel
theorem d_MD_row_82 : decode b_MD_row 82 = .ok (.iastore, 1) := by decide +kernel
theorem d_MD_row_83 : decode b_MD_row 83 = .ok (.iinc 7 1, 3) := by decide +kernel
theorem d_MD_row_86 : decode b_MD_row 86 = .ok (.goto (-33), 3) := by decide +kernel
theorem d_MD_row_89 : decode b_MD_row 89 = .ok (.aload_n 0, 1) := by decide +kernel
theorem d_MD_row_90 : decode b_MD_row 90 = .ok (.getfield 13, 3) := by decide +kernel
theorem d_MD_row_93 : decode b_MD_row 93 = .ok (.aload_n 0, 1) := by decide +kernel
theorem d_MD_row_94 : decode b_MD_row 94 = .ok (.getfield 95, 3) := by decide +kernel
theorem d_MD_row_97 : decode b_MD_row 97 = .ok (.iload 5, 2) := by decide +kernel
theorem d_MD_row_99 : decode b_MD_row 99 = .ok (.iastore, 1) := by decide +kernel
theorem d_MD_row_100 : decode b_MD_row 100 = .ok (.aload_n 0, 1) := by decide +kernel
theorem d_MD_row_101 : decode b_MD_row 101 = .ok (.getfield 16, 3) := by decide +kernel
theorem d_MD_row_104 : decode b_MD_row 104 = .ok (.aload_n 0, 1) := by decide +kernel
theorem d_MD_row_105 : decode b_MD_row 105 = .ok (.getfield 95, 3) := by decide +kernel
theorem d_MD_row_108 : decode b_MD_row 108 = .ok (.iload 6, 2) := by decide +kernel
theorem d_MD_row_110 : decode b_MD_row 110 = .ok (.iastore, 1) := by decide +kernel
theorem d_MD_row_111 : decode b_MD_row 111 = .ok (.aload_n 0, 1) := by decide +kernel
theorem d_MD_row_112 : decode b_MD_row 112 = .ok (.getfield 19, 3) := by decide +kernel
theorem d_MD_row_115 : decode b_MD_row 115 = .ok (.aload_n 0, 1) := by decide +kernel
theorem d_MD_row_116 : decode b_MD_row 116 = .ok (.getfield 95, 3) := by decide +kernel
theorem d_MD_row_119 : decode b_MD_row 119 = .ok (.iconst 0, 1) := by decide +kernel
theorem d_MD_row_120 : decode b_MD_row 120 = .ok (.bastore, 1) := by decide +kernel
theorem d_MD_row_121 : decode b_MD_row 121 = .ok (.aload_n 0, 1) := by decide +kernel
theorem d_MD_row_122 : decode b_MD_row 122 = .ok (.dup, 1) := by decide +kernel
theorem d_MD_row_123 : decode b_MD_row 123 = .ok (.getfield 95, 3) := by decide +kernel
theorem d_MD_row_126 : decode b_MD_row 126 = .ok (.iconst 1, 1) := by decide +kernel
theorem d_MD_row_127 : decode b_MD_row 127 = .ok (.iadd, 1) := by decide +kernel
theorem d_MD_row_128 : decode b_MD_row 128 = .ok (.putfield 95, 3) := by decide +kernel
theorem d_MD_row_131 : decode b_MD_row 131 = .ok (.aload_n 0, 1) := by decide +kernel
theorem d_MD_row_132 : decode b_MD_row 132 = .ok (.getfield 95, 3) := by decide +kernel
theorem d_MD_row_135 : decode b_MD_row 135 = .ok (.iconst 1, 1) := by decide +kernel
theorem d_MD_row_136 : decode b_MD_row 136 = .ok (.isub, 1) := by decide +kernel
theorem d_MD_row_137 : decode b_MD_row 137 = .ok (.ireturn, 1) := by decide +kernel
theorem d_MD_hold_0 : decode b_MD_hold 0 = .ok (.iload_n 1, 1) := by decide +kernel
theorem d_MD_hold_1 : decode b_MD_hold 1 = .ok (.ifCond .lt 20, 3) := by decide +kernel
theorem d_MD_hold_4 : decode b_MD_hold 4 = .ok (.iload_n 1, 1) := by decide +kernel
theorem d_MD_hold_5 : decode b_MD_hold 5 = .ok (.aload_n 0, 1) := by decide +kernel
theorem d_MD_hold_6 : decode b_MD_hold 6 = .ok (.getfield 95, 3) := by decide +kernel
theorem d_MD_hold_9 : decode b_MD_hold 9 = .ok (.if_icmp .ge 12, 3) := by decide +kernel
theorem d_MD_hold_12 : decode b_MD_hold 12 = .ok (.iload_n 2, 1) := by decide +kernel
theorem d_MD_hold_13 : decode b_MD_hold 13 = .ok (.ifCond .lt 8, 3) := by decide +kernel
theorem d_MD_hold_16 : decode b_MD_hold 16 = .ok (.iload_n 2, 1) := by decide +kernel
theorem d_MD_hold_17 : decode b_MD_hold 17 = .ok (.iconst 1, 1) := by decide +kernel
theorem d_MD_hold_18 : decode b_MD_hold 18 = .ok (.if_icmp .le 6, 3) := by decide +kernel
theorem d_MD_hold_21 : decode b_MD_hold 21 = .ok (.bipush (-2), 2) := by decide +kernel
theorem d_MD_hold_23 : decode b_MD_hold 23 = .ok (.ireturn, 1) := by decide +kernel
theorem d_MD_hold_24 : decode b_MD_hold 24 = .ok (.aload_n 0, 1) := by decide +kernel
theorem d_MD_hold_25 : decode b_MD_hold 25 = .ok (.getfield 19, 3) := by decide +kernel
theorem d_MD_hold_28 : decode b_MD_hold 28 = .ok (.iload_n 1, 1) := by decide +kernel
theorem d_MD_hold_29 : decode b_MD_hold 29 = .ok (.baload, 1) := by decide +kernel
theorem d_MD_hold_30 : decode b_MD_hold 30 = .ok (.ifCond .eq 7, 3) := by decide +kernel
theorem d_MD_hold_33 : decode b_MD_hold 33 = .ok (.iconst 1, 1) := by decide +kernel
theorem d_MD_hold_34 : decode b_MD_hold 34 = .ok (.goto 4, 3) := by decide +kernel
theorem d_MD_hold_37 : decode b_MD_hold 37 = .ok (.iconst 0, 1) := by decide +kernel
theorem d_MD_hold_38 : decode b_MD_hold 38 = .ok (.istore_n 3, 1) := by decide +kernel
theorem d_MD_hold_39 : decode b_MD_hold 39 = .ok (.aload_n 0, 1) := by decide +kernel
theorem d_MD_hold_40 : decode b_MD_hold 40 = .ok (.getfield 19, 3) := by decide +kernel
theorem d_MD_hold_43 : decode b_MD_hold 43 = .ok (.iload_n 1, 1) := by decide +kernel
theorem d_MD_hold_44 : decode b_MD_hold 44 = .ok (.iload_n 2, 1) := by decide +kernel
theorem d_MD_hold_45 : decode b_MD_hold 45 = .ok (.iconst 1, 1) := by decide +kernel
theorem d_MD_hold_46 : decode b_MD_hold 46 = .ok (.if_icmp .ne 7, 3) := by decide +kernel
theorem d_MD_hold_49 : decode b_MD_hold 49 = .ok (.iconst 1, 1) := by decide +kernel
theorem d_MD_hold_50 : decode b_MD_hold 50 = .ok (.goto 4, 3) := by decide +kernel
theorem d_MD_hold_53 : decode b_MD_hold 53 = .ok (.iconst 0, 1) := by decide +kernel
theorem d_MD_hold_54 : decode b_MD_hold 54 = .ok (.bastore, 1) := by decide +kernel
theorem d_MD_hold_55 : decode b_MD_hold 55 = .ok (.iload_n 3, 1) := by decide +kernel
theorem d_MD_hold_56 : decode b_MD_hold 56 = .ok (.ireturn, 1) := by decide +kernel
theorem d_MD_isSetting_0 : decode b_MD_isSetting 0 = .ok (.iload_n 0, 1) := by decide +kernel
theorem d_MD_isSetting_1 : decode b_MD_isSetting 1 = .ok (.tableswitch 179 0 10 #[59, 75, 92, 109, 127, 143, 109, 109, 127, 159, 177], 59) := by decide +kernel
theorem d_MD_isSetting_60 : decode b_MD_isSetting 60 = .ok (.iload_n 1, 1) := by decide +kernel
theorem d_MD_isSetting_61 : decode b_MD_isSetting 61 = .ok (.iconst 1, 1) := by decide +kernel
theorem d_MD_isSetting_62 : decode b_MD_isSetting 62 = .ok (.if_icmp .lt 12, 3) := by decide +kernel
theorem d_MD_isSetting_65 : decode b_MD_isSetting 65 = .ok (.iload_n 1, 1) := by decide +kernel
theorem d_MD_isSetting_66 : decode b_MD_isSetting 66 = .ok (.iconst 4, 1) := by decide +kernel
theorem d_MD_isSetting_67 : decode b_MD_isSetting 67 = .ok (.if_icmp .gt 7, 3) := by decide +kernel
theorem d_MD_isSetting_70 : decode b_MD_isSetting 70 = .ok (.iconst 1, 1) := by decide +kernel
theorem d_MD_isSetting_71 : decode b_MD_isSetting 71 = .ok (.goto 4, 3) := by decide +kernel
theorem d_MD_isSetting_74 : decode b_MD_isSetting 74 = .ok (.iconst 0, 1) := by decide +kernel
theorem d_MD_isSetting_75 : decode b_MD_isSetting 75 = .ok (.ireturn, 1) := by decide +kernel
theorem d_MD_isSetting_76 : decode b_MD_isSetting 76 = .ok (.iload_n 1, 1) := by decide +kernel
theorem d_MD_isSetting_77 : decode b_MD_isSetting 77 = .ok (.iconst 1, 1) := by decide +kernel
theorem d_MD_isSetting_78 : decode b_MD_isSetting 78 = .ok (.if_icmp .lt 13, 3) := by decide +kernel
theorem d_MD_isSetting_81 : decode b_MD_isSetting 81 = .ok (.iload_n 1, 1) := by decide +kernel
theorem d_MD_isSetting_82 : decode b_MD_isSetting 82 = .ok (.bipush 20, 2) := by decide +kernel
theorem d_MD_isSetting_84 : decode b_MD_isSetting 84 = .ok (.if_icmp .gt 7, 3) := by decide +kernel
theorem d_MD_isSetting_87 : decode b_MD_isSetting 87 = .ok (.iconst 1, 1) := by decide +kernel
theorem d_MD_isSetting_88 : decode b_MD_isSetting 88 = .ok (.goto 4, 3) := by decide +kernel
theorem d_MD_isSetting_91 : decode b_MD_isSetting 91 = .ok (.iconst 0, 1) := by decide +kernel
theorem d_MD_isSetting_92 : decode b_MD_isSetting 92 = .ok (.ireturn, 1) := by decide +kernel
theorem d_MD_isSetting_93 : decode b_MD_isSetting 93 = .ok (.iload_n 1, 1) := by decide +kernel
theorem d_MD_isSetting_94 : decode b_MD_isSetting 94 = .ok (.ifCond .lt 14, 3) := by decide +kernel
theorem d_MD_isSetting_97 : decode b_MD_isSetting 97 = .ok (.iload_n 1, 1) := by decide +kernel
theorem d_MD_isSetting_98 : decode b_MD_isSetting 98 = .ok (.sipush 1000, 3) := by decide +kernel
theorem d_MD_isSetting_101 : decode b_MD_isSetting 101 = .ok (.if_icmp .gt 7, 3) := by decide +kernel
theorem d_MD_isSetting_104 : decode b_MD_isSetting 104 = .ok (.iconst 1, 1) := by decide +kernel
theorem d_MD_isSetting_105 : decode b_MD_isSetting 105 = .ok (.goto 4, 3) := by decide +kernel
theorem d_MD_isSetting_108 : decode b_MD_isSetting 108 = .ok (.iconst 0, 1) := by decide +kernel
theorem d_MD_isSetting_109 : decode b_MD_isSetting 109 = .ok (.ireturn, 1) := by decide +kernel
theorem d_MD_isSetting_110 : decode b_MD_isSetting 110 = .ok (.iload_n 1, 1) := by decide +kernel
theorem d_MD_isSetting_111 : decode b_MD_isSetting 111 = .ok (.iconst 1, 1) := by decide +kernel
theorem d_MD_isSetting_112 : decode b_MD_isSetting 112 = .ok (.if_icmp .lt 14, 3) := by decide +kernel
theorem d_MD_isSetting_115 : decode b_MD_isSetting 115 = .ok (.iload_n 1, 1) := by decide +kernel
theorem d_MD_isSetting_116 : decode b_MD_isSetting 116 = .ok (.sipush 256, 3) := by decide +kernel
theorem d_MD_isSetting_119 : decode b_MD_isSetting 119 = .ok (.if_icmp .gt 7, 3) := by decide +kernel
theorem d_MD_isSetting_122 : decode b_MD_isSetting 122 = .ok (.iconst 1, 1) := by decide +kernel
theorem d_MD_isSetting_123 : decode b_MD_isSetting 123 = .ok (.goto 4, 3) := by decide +kernel
theorem d_MD_isSetting_126 : decode b_MD_isSetting 126 = .ok (.iconst 0, 1) := by decide +kernel
theorem d_MD_isSetting_127 : decode b_MD_isSetting 127 = .ok (.ireturn, 1) := by decide +kernel
theorem d_MD_isSetting_128 : decode b_MD_isSetting 128 = .ok (.iload_n 1, 1) := by decide +kernel
theorem d_MD_isSetting_129 : decode b_MD_isSetting 129 = .ok (.ifCond .lt 13, 3) := by decide +kernel
theorem d_MD_isSetting_132 : decode b_MD_isSetting 132 = .ok (.iload_n 1, 1) := by decide +kernel
theorem d_MD_isSetting_133 : decode b_MD_isSetting 133 = .ok (.bipush 12, 2) := by decide +kernel
theorem d_MD_isSetting_135 : decode b_MD_isSetting 135 = .ok (.if_icmp .gt 7, 3) := by decide +kernel
theorem d_MD_isSetting_138 : decode b_MD_isSetting 138 = .ok (.iconst 1, 1) := by decide +kernel
theorem d_MD_isSetting_139 : decode b_MD_isSetting 139 = .ok (.goto 4, 3) := by decide +kernel
theorem d_MD_isSetting_142 : decode b_MD_isSetting 142 = .ok (.iconst 0, 1) := by decide +kernel
theorem d_MD_isSetting_143 : decode b_MD_isSetting 143 = .ok (.ireturn, 1) := by decide +kernel
theorem d_MD_isSetting_144 : decode b_MD_isSetting 144 = .ok (.iload_n 1, 1) := by decide +kernel
theorem d_MD_isSetting_145 : decode b_MD_isSetting 145 = .ok (.ifCond .lt 13, 3) := by decide +kernel
theorem d_MD_isSetting_148 : decode b_MD_isSetting 148 = .ok (.iload_n 1, 1) := by decide +kernel
theorem d_MD_isSetting_149 : decode b_MD_isSetting 149 = .ok (.ldc 103, 2) := by decide +kernel
theorem d_MD_isSetting_151 : decode b_MD_isSetting 151 = .ok (.if_icmp .gt 7, 3) := by decide +kernel
theorem d_MD_isSetting_154 : decode b_MD_isSetting 154 = .ok (.iconst 1, 1) := by decide +kernel
theorem d_MD_isSetting_155 : decode b_MD_isSetting 155 = .ok (.goto 4, 3) := by decide +kernel
theorem d_MD_isSetting_158 : decode b_MD_isSetting 158 = .ok (.iconst 0, 1) := by decide +kernel
theorem d_MD_isSetting_159 : decode b_MD_isSetting 159 = .ok (.ireturn, 1) := by decide +kernel
theorem d_MD_isSetting_160 : decode b_MD_isSetting 160 = .ok (.iload_n 1, 1) := by decide +kernel
theorem d_MD_isSetting_161 : decode b_MD_isSetting 161 = .ok (.bipush (-100), 2) := by decide +kernel
theorem d_MD_isSetting_163 : decode b_MD_isSetting 163 = .ok (.if_icmp .lt 13, 3) := by decide +kernel
theorem d_MD_isSetting_166 : decode b_MD_isSetting 166 = .ok (.iload_n 1, 1) := by decide +kernel
theorem d_MD_isSetting_167 : decode b_MD_isSetting 167 = .ok (.bipush 100, 2) := by decide +kernel
theorem d_MD_isSetting_169 : decode b_MD_isSetting 169 = .ok (.if_icmp .gt 7, 3) := by decide +kernel
theorem d_MD_isSetting_172 : decode b_MD_isSetting 172 = .ok (.iconst 1, 1) := by decide +kernel
theorem d_MD_isSetting_173 : decode b_MD_isSetting 173 = .ok (.goto 4, 3) := by decide +kernel
theorem d_MD_isSetting_176 : decode b_MD_isSetting 176 = .ok (.iconst 0, 1) := by decide +kernel
theorem d_MD_isSetting_177 : decode b_MD_isSetting 177 = .ok (.ireturn, 1) := by decide +kernel
theorem d_MD_isSetting_178 : decode b_MD_isSetting 178 = .ok (.iconst 1, 1) := by decide +kernel
theorem d_MD_isSetting_179 : decode b_MD_isSetting 179 = .ok (.ireturn, 1) := by decide +kernel
theorem d_MD_isSetting_180 : decode b_MD_isSetting 180 = .ok (.iload_n 0, 1) := by decide +kernel
theorem d_MD_isSetting_181 : decode b_MD_isSetting 181 = .ok (.bipush 11, 2) := by decide +kernel
theorem d_MD_isSetting_183 : decode b_MD_isSetting 183 = .ok (.if_icmp .lt 23, 3) := by decide +kernel
theorem d_MD_isSetting_186 : decode b_MD_isSetting 186 = .ok (.iload_n 0, 1) := by decide +kernel
theorem d_MD_isSetting_187 : decode b_MD_isSetting 187 = .ok (.bipush 15, 2) := by decide +kernel
theorem d_MD_isSetting_189 : decode b_MD_isSetting 189 = .ok (.if_icmp .ge 17, 3) := by decide +kernel
theorem d_MD_isSetting_192 : decode b_MD_isSetting 192 = .ok (.iload_n 1, 1) := by decide +kernel
theorem d_MD_isSetting_193 : decode b_MD_isSetting 193 = .ok (.iconst (-1), 1) := by decide +kernel
theorem d_MD_isSetting_194 : decode b_MD_isSetting 194 = .ok (.if_icmp .lt 12, 3) := by decide +kernel
theorem d_MD_isSetting_197 : decode b_MD_isSetting 197 = .ok (.iload_n 1, 1) := by decide +kernel
theorem d_MD_isSetting_198 : decode b_MD_isSetting 198 = .ok (.iconst 1, 1) := by decide +kernel
theorem d_MD_isSetting_199 : decode b_MD_isSetting 199 = .ok (.if_icmp .gt 7, 3) := by decide +kernel
theorem d_MD_isSetting_202 : decode b_MD_isSetting 202 = .ok (.iconst 1, 1) := by decide +kernel
theorem d_MD_isSetting_203 : decode b_MD_isSetting 203 = .ok (.goto 4, 3) := by decide +kernel
theorem d_MD_isSetting_206 : decode b_MD_isSetting 206 = .ok (.iconst 0, 1) := by decide +kernel
theorem d_MD_isSetting_207 : decode b_MD_isSetting 207 = .ok (.ireturn, 1) := by decide +kernel
theorem d_MD_set_0 : decode b_MD_set 0 = .ok (.iload_n 1, 1) := by decide +kernel
theorem d_MD_set_1 : decode b_MD_set 1 = .ok (.iload_n 2, 1) := by decide +kernel
theorem d_MD_set_2 : decode b_MD_set 2 = .ok (.invokestatic 104, 3) := by decide +kernel
theorem d_MD_set_5 : decode b_MD_set 5 = .ok (.ifCond .ne 6, 3) := by decide +kernel
theorem d_MD_set_8 : decode b_MD_set 8 = .ok (.bipush (-2), 2) := by decide +kernel
theorem d_MD_set_10 : decode b_MD_set 10 = .ok (.ireturn, 1) := by decide +kernel
theorem d_MD_set_11 : decode b_MD_set 11 = .ok (.aload_n 0, 1) := by decide +kernel
theorem d_MD_set_12 : decode b_MD_set 12 = .ok (.getfield 23, 3) := by decide +kernel
theorem d_MD_set_15 : decode b_MD_set 15 = .ok (.iload_n 1, 1) := by decide +kernel
theorem d_MD_set_16 : decode b_MD_set 16 = .ok (.iaload, 1) := by decide +kernel
theorem d_MD_set_17 : decode b_MD_set 17 = .ok (.istore_n 3, 1) := by decide +kernel
theorem d_MD_set_18 : decode b_MD_set 18 = .ok (.aload_n 0, 1) := by decide +kernel
theorem d_MD_set_19 : decode b_MD_set 19 = .ok (.getfield 23, 3) := by decide +kernel
theorem d_MD_set_22 : decode b_MD_set 22 = .ok (.iload_n 1, 1) := by decide +kernel
theorem d_MD_set_23 : decode b_MD_set 23 = .ok (.iload_n 2, 1) := by decide +kernel
theorem d_MD_set_24 : decode b_MD_set 24 = .ok (.iastore, 1) := by decide +kernel
theorem d_MD_set_25 : decode b_MD_set 25 = .ok (.iload_n 3, 1) := by decide +kernel
theorem d_MD_set_26 : decode b_MD_set 26 = .ok (.ireturn, 1) := by decide +kernel
theorem d_MD_clear_0 : decode b_MD_clear 0 = .ok (.aload_n 0, 1) := by decide +kernel
theorem d_MD_clear_1 : decode b_MD_clear 1 = .ok (.getfield 95, 3) := by decide +kernel
theorem d_MD_clear_4 : decode b_MD_clear 4 = .ok (.istore_n 1, 1) := by decide +kernel
theorem d_MD_clear_5 : decode b_MD_clear 5 = .ok (.aload_n 0, 1) := by decide +kernel
theorem d_MD_clear_6 : decode b_MD_clear 6 = .ok (.iconst 0, 1) := by decide +kernel
theorem d_MD_clear_7 : decode b_MD_clear 7 = .ok (.putfield 95, 3) := by decide +kernel
theorem d_MD_clear_10 : decode b_MD_clear 10 = .ok (.iload_n 1, 1) := by decide +kernel
theorem d_MD_clear_11 : decode b_MD_clear 11 = .ok (.ireturn, 1) := by decide +kernel
theorem d_MD_drawn_0 : decode b_MD_drawn 0 = .ok (.aload_n 0, 1) := by decide +kernel
theorem d_MD_drawn_1 : decode b_MD_drawn 1 = .ok (.getfield 38, 3) := by decide +kernel
theorem d_MD_drawn_4 : decode b_MD_drawn 4 = .ok (.bipush 10, 2) := by decide +kernel
theorem d_MD_drawn_6 : decode b_MD_drawn 6 = .ok (.iaload, 1) := by decide +kernel
theorem d_MD_drawn_7 : decode b_MD_drawn 7 = .ok (.ldc 108, 2) := by decide +kernel
theorem d_MD_drawn_9 : decode b_MD_drawn 9 = .ok (.iload_n 1, 1) := by decide +kernel
theorem d_MD_drawn_10 : decode b_MD_drawn 10 = .ok (.imul, 1) := by decide +kernel
theorem d_MD_drawn_11 : decode b_MD_drawn 11 = .ok (.iadd, 1) := by decide +kernel
theorem d_MD_drawn_12 : decode b_MD_drawn 12 = .ok (.istore_n 2, 1) := by decide +kernel
theorem d_MD_drawn_13 : decode b_MD_drawn 13 = .ok (.iload_n 2, 1) := by decide +kernel
theorem d_MD_drawn_14 : decode b_MD_drawn 14 = .ok (.iload_n 2, 1) := by decide +kernel
theorem d_MD_drawn_15 : decode b_MD_drawn 15 = .ok (.bipush 15, 2) := by decide +kernel
theorem d_MD_drawn_17 : decode b_MD_drawn 17 = .ok (.iushr, 1) := by decide +kernel
theorem d_MD_drawn_18 : decode b_MD_drawn 18 = .ok (.ixor, 1) := by decide +kernel
theorem d_MD_drawn_19 : decode b_MD_drawn 19 = .ok (.ldc 109, 2) := by decide +kernel
theorem d_MD_drawn_21 : decode b_MD_drawn 21 = .ok (.imul, 1) := by decide +kernel
theorem d_MD_drawn_22 : decode b_MD_drawn 22 = .ok (.istore_n 2, 1) := by decide +kernel
theorem d_MD_drawn_23 : decode b_MD_drawn 23 = .ok (.iload_n 2, 1) := by decide +kernel
theorem d_MD_drawn_24 : decode b_MD_drawn 24 = .ok (.iload_n 2, 1) := by decide +kernel
theorem d_MD_drawn_25 : decode b_MD_drawn 25 = .ok (.bipush 12, 2) := by decide +kernel
theorem d_MD_drawn_27 : decode b_MD_drawn 27 = .ok (.iushr, 1) := by decide +kernel
theorem d_MD_drawn_28 : decode b_MD_drawn 28 = .ok (.ixor, 1) := by decide +kernel
theorem d_MD_drawn_29 : decode b_MD_drawn 29 = .ok (.ldc 110, 2) := by decide +kernel
theorem d_MD_drawn_31 : decode b_MD_drawn 31 = .ok (.imul, 1) := by decide +kernel
theorem d_MD_drawn_32 : decode b_MD_drawn 32 = .ok (.istore_n 2, 1) := by decide +kernel
theorem d_MD_drawn_33 : decode b_MD_drawn 33 = .ok (.iload_n 2, 1) := by decide +kernel
theorem d_MD_drawn_34 : decode b_MD_drawn 34 = .ok (.bipush 24, 2) := by decide +kernel
theorem d_MD_drawn_36 : decode b_MD_drawn 36 = .ok (.iushr, 1) := by decide +kernel
theorem d_MD_drawn_37 : decode b_MD_drawn 37 = .ok (.ireturn, 1) := by decide +kernel
theorem d_MD_train_0 : decode b_MD_train 0 = .ok (.iconst 0, 1) := by decide +kernel
theorem d_MD_train_1 : decode b_MD_train 1 = .ok (.istore_n 1, 1) := by decide +kernel
theorem d_MD_train_2 : decode b_MD_train 2 = .ok (.iconst 0, 1) := by decide +kernel
theorem d_MD_train_3 : decode b_MD_train 3 = .ok (.istore_n 2, 1) := by decide +kernel
theorem d_MD_train_4 : decode b_MD_train 4 = .ok (.iload_n 2, 1) := by decide +kernel
theorem d_MD_train_5 : decode b_MD_train 5 = .ok (.aload_n 0, 1) := by decide +kernel
theorem d_MD_train_6 : decode b_MD_train 6 = .ok (.getfield 95, 3) := by decide +kernel
theorem d_MD_train_9 : decode b_MD_train 9 = .ok (.if_icmp .ge 28, 3) := by decide +kernel
theorem d_MD_train_12 : decode b_MD_train 12 = .ok (.iload_n 1, 1) := by decide +kernel
theorem d_MD_train_13 : decode b_MD_train 13 = .ok (.ifCond .ne 12, 3) := by decide +kernel
theorem d_MD_train_16 : decode b_MD_train 16 = .ok (.aload_n 0, 1) := by decide +kernel
theorem d_MD_train_17 : decode b_MD_train 17 = .ok (.getfield 19, 3) := by decide +kernel
theorem d_MD_train_20 : decode b_MD_train 20 = .ok (.iload_n 2, 1) := by decide +kernel
theorem d_MD_train_21 : decode b_MD_train 21 = .ok (.baload, 1) := by decide +kernel
theorem d_MD_train_22 : decode b_MD_train 22 = .ok (.ifCond .ne 7, 3) := by decide +kernel
theorem d_MD_train_25 : decode b_MD_train 25 = .ok (.iconst 1, 1) := by decide +kernel
theorem d_MD_train_26 : decode b_MD_train 26 = .ok (.goto 4, 3) := by decide +kernel
theorem d_MD_train_29 : decode b_MD_train 29 = .ok (.iconst 0, 1) := by decide +kernel
theorem d_MD_train_30 : decode b_MD_train 30 = .ok (.istore_n 1, 1) := by decide +kernel
theorem d_MD_train_31 : decode b_MD_train 31 = .ok (.iinc 2 1, 3) := by decide +kernel
theorem d_MD_train_34 : decode b_MD_train 34 = .ok (.goto (-30), 3) := by decide +kernel
theorem d_MD_train_37 : decode b_MD_train 37 = .ok (.iload_n 1, 1) := by decide +kernel
theorem d_MD_train_38 : decode b_MD_train 38 = .ok (.ifCond .ne 6, 3) := by decide +kernel
theorem d_MD_train_41 : decode b_MD_train 41 = .ok (.bipush (-2), 2) := by decide +kernel
theorem d_MD_train_43 : decode b_MD_train 43 = .ok (.ireturn, 1) := by decide +kernel
theorem d_MD_train_44 : decode b_MD_train 44 = .ok (.aload_n 0, 1) := by decide +kernel
theorem d_MD_train_45 : decode b_MD_train 45 = .ok (.iconst 1, 1) := by decide +kernel
theorem d_MD_train_46 : decode b_MD_train 46 = .ok (.putfield 111, 3) := by decide +kernel
theorem d_MD_train_49 : decode b_MD_train 49 = .ok (.aload_n 0, 1) := by decide +kernel
theorem d_MD_train_50 : decode b_MD_train 50 = .ok (.aload_n 0, 1) := by decide +kernel
theorem d_MD_train_51 : decode b_MD_train 51 = .ok (.getfield 95, 3) := by decide +kernel
theorem d_MD_train_54 : decode b_MD_train 54 = .ok (.putfield 115, 3) := by decide +kernel
theorem d_MD_train_57 : decode b_MD_train 57 = .ok (.iconst 0, 1) := by decide +kernel
theorem d_MD_train_58 : decode b_MD_train 58 = .ok (.istore_n 2, 1) := by decide +kernel
theorem d_MD_train_59 : decode b_MD_train 59 = .ok (.iload_n 2, 1) := by decide +kernel
theorem d_MD_train_60 : decode b_MD_train 60 = .ok (.bipush 15, 2) := by decide +kernel
theorem d_MD_train_62 : decode b_MD_train 62 = .ok (.if_icmp .ge 21, 3) := by decide +kernel
theorem d_MD_train_65 : decode b_MD_train 65 = .ok (.aload_n 0, 1) := by decide +kernel
theorem d_MD_train_66 : decode b_MD_train 66 = .ok (.getfield 38, 3) := by decide +kernel
theorem d_MD_train_69 : decode b_MD_train 69 = .ok (.iload_n 2, 1) := by decide +kernel
theorem d_MD_train_70 : decode b_MD_train 70 = .ok (.aload_n 0, 1) := by decide +kernel
theorem d_MD_train_71 : decode b_MD_train 71 = .ok (.getfield 23, 3) := by decide +kernel
theorem d_MD_train_74 : decode b_MD_train 74 = .ok (.iload_n 2, 1) := by decide +kernel
theorem d_MD_train_75 : decode b_MD_train 75 = .ok (.iaload, 1) := by decide +kernel
theorem d_MD_train_76 : decode b_MD_train 76 = .ok (.iastore, 1) := by decide +kernel
theorem d_MD_train_77 : decode b_MD_train 77 = .ok (.iinc 2 1, 3) := by decide +kernel
theorem d_MD_train_80 : decode b_MD_train 80 = .ok (.goto (-21), 3) := by decide +kernel
theorem d_MD_train_83 : decode b_MD_train 83 = .ok (.iconst 0, 1) := by decide +kernel
theorem d_MD_train_84 : decode b_MD_train 84 = .ok (.istore_n 2, 1) := by decide +kernel
theorem d_MD_train_85 : decode b_MD_train 85 = .ok (.iconst 0, 1) := by decide +kernel
theorem d_MD_train_86 : decode b_MD_train 86 = .ok (.istore_n 3, 1) := by decide +kernel
theorem d_MD_train_87 : decode b_MD_train 87 = .ok (.iload_n 3, 1) := by decide +kernel
theorem d_MD_train_88 : decode b_MD_train 88 = .ok (.aload_n 0, 1) := by decide +kernel
theorem d_MD_train_89 : decode b_MD_train 89 = .ok (.getfield 95, 3) := by decide +kernel
theorem d_MD_train_92 : decode b_MD_train 92 = .ok (.if_icmp .ge 119, 3) := by decide +kernel
theorem d_MD_train_95 : decode b_MD_train 95 = .ok (.iconst 0, 1) := by decide +kernel
theorem d_MD_train_96 : decode b_MD_train 96 = .ok (.istore 4, 2) := by decide +kernel
theorem d_MD_train_98 : decode b_MD_train 98 = .ok (.iload 4, 2) := by decide +kernel
theorem d_MD_train_100 : decode b_MD_train 100 = .ok (.iconst 4, 1) := by decide +kernel
theorem d_MD_train_101 : decode b_MD_train 101 = .ok (.if_icmp .ge 31, 3) := by decide +kernel
theorem d_MD_train_104 : decode b_MD_train 104 = .ok (.aload_n 0, 1) := by decide +kernel
theorem d_MD_train_105 : decode b_MD_train 105 = .ok (.getfield 26, 3) := by decide +kernel
theorem d_MD_train_108 : decode b_MD_train 108 = .ok (.iconst 4, 1) := by decide +kernel
theorem d_MD_train_109 : decode b_MD_train 109 = .ok (.iload_n 3, 1) := by decide +kernel
theorem d_MD_train_110 : decode b_MD_train 110 = .ok (.imul, 1) := by decide +kernel
theorem d_MD_train_111 : decode b_MD_train 111 = .ok (.iload 4, 2) := by decide +kernel
theorem d_MD_train_113 : decode b_MD_train 113 = .ok (.iadd, 1) := by decide +kernel
theorem d_MD_train_114 : decode b_MD_train 114 = .ok (.aload_n 0, 1) := by decide +kernel
theorem d_MD_train_115 : decode b_MD_train 115 = .ok (.getfield 7, 3) := by decide +kernel
theorem d_MD_train_118 : decode b_MD_train 118 = .ok (.iconst 4, 1) := by decide +kernel
theorem d_MD_train_119 : decode b_MD_train 119 = .ok (.iload_n 3, 1) := by decide +kernel
theorem d_MD_train_120 : decode b_MD_train 120 = .ok (.imul, 1) := by decide +kernel
theorem d_MD_train_121 : decode b_MD_train 121 = .ok (.iload 4, 2) := by decide +kernel
theorem d_MD_train_123 : decode b_MD_train 123 = .ok (.iadd, 1) := by decide +kernel
theorem d_MD_train_124 : decode b_MD_train 124 = .ok (.iaload, 1) := by decide +kernel
theorem d_MD_train_125 : decode b_MD_train 125 = .ok (.iastore, 1) := by decide +kernel
theorem d_MD_train_126 : decode b_MD_train 126 = .ok (.iinc 4 1, 3) := by decide +kernel
theorem d_MD_train_129 : decode b_MD_train 129 = .ok (.goto (-31), 3) := by decide +kernel
theorem d_MD_train_132 : decode b_MD_train 132 = .ok (.aload_n 0, 1) := by decide +kernel
theorem d_MD_train_133 : decode b_MD_train 133 = .ok (.getfield 29, 3) := by decide +kernel
theorem d_MD_train_136 : decode b_MD_train 136 = .ok (.iload_n 3, 1) := by decide +kernel
theorem d_MD_train_137 : decode b_MD_train 137 = .ok (.aload_n 0, 1) := by decide +kernel
theorem d_MD_train_138 : decode b_MD_train 138 = .ok (.getfield 13, 3) := by decide +kernel
theorem d_MD_train_141 : decode b_MD_train 141 = .ok (.iload_n 3, 1) := by decide +kernel
theorem d_MD_train_142 : decode b_MD_train 142 = .ok (.iaload, 1) := by decide +kernel
theorem d_MD_train_143 : decode b_MD_train 143 = .ok (.iastore, 1) := by decide +kernel
theorem d_MD_train_144 : decode b_MD_train 144 = .ok (.aload_n 0, 1) := by decide +kernel
theorem d_MD_train_145 : decode b_MD_train 145 = .ok (.getfield 32, 3) := by decide +kernel
theorem d_MD_train_148 : decode b_MD_train 148 = .ok (.iload_n 3, 1) := by decide +kernel
theorem d_MD_train_149 : decode b_MD_train 149 = .ok (.aload_n 0, 1) := by decide +kernel
theorem d_MD_train_150 : decode b_MD_train 150 = .ok (.getfield 16, 3) := by decide +kernel
theorem d_MD_train_153 : decode b_MD_train 153 = .ok (.iload_n 3, 1) := by decide +kernel
theorem d_MD_train_154 : decode b_MD_train 154 = .ok (.iaload, 1) := by decide +kernel
theorem d_MD_train_155 : decode b_MD_train 155 = .ok (.iastore, 1) := by decide +kernel
theorem d_MD_train_156 : decode b_MD_train 156 = .ok (.aload_n 0, 1) := by decide +kernel
theorem d_MD_train_157 : decode b_MD_train 157 = .ok (.getfield 35, 3) := by decide +kernel
theorem d_MD_train_160 : decode b_MD_train 160 = .ok (.iload_n 3, 1) := by decide +kernel
theorem d_MD_train_161 : decode b_MD_train 161 = .ok (.aload_n 0, 1) := by decide +kernel
theorem d_MD_train_162 : decode b_MD_train 162 = .ok (.getfield 19, 3) := by decide +kernel
theorem d_MD_train_165 : decode b_MD_train 165 = .ok (.iload_n 3, 1) := by decide +kernel
theorem d_MD_train_166 : decode b_MD_train 166 = .ok (.baload, 1) := by decide +kernel
theorem d_MD_train_167 : decode b_MD_train 167 = .ok (.bastore, 1) := by decide +kernel
theorem d_MD_train_168 : decode b_MD_train 168 = .ok (.iload_n 2, 1) := by decide +kernel
theorem d_MD_train_169 : decode b_MD_train 169 = .ok (.ifCond .ne 12, 3) := by decide +kernel
theorem d_MD_train_172 : decode b_MD_train 172 = .ok (.aload_n 0, 1) := by decide +kernel
theorem d_MD_train_173 : decode b_MD_train 173 = .ok (.getfield 19, 3) := by decide +kernel
theorem d_MD_train_176 : decode b_MD_train 176 = .ok (.iload_n 3, 1) := by decide +kernel
theorem d_MD_train_177 : decode b_MD_train 177 = .ok (.baload, 1) := by decide +kernel
theorem d_MD_train_178 : decode b_MD_train 178 = .ok (.ifCond .eq 7, 3) := by decide +kernel
theorem d_MD_train_181 : decode b_MD_train 181 = .ok (.iconst 1, 1) := by decide +kernel
theorem d_MD_train_182 : decode b_MD_train 182 = .ok (.goto 4, 3) := by decide +kernel
theorem d_MD_train_185 : decode b_MD_train 185 = .ok (.iconst 0, 1) := by decide +kernel
theorem d_MD_train_186 : decode b_MD_train 186 = .ok (.istore_n 2, 1) := by decide +kernel
theorem d_MD_train_187 : decode b_MD_train 187 = .ok (.aload_n 0, 1) := by decide +kernel
theorem d_MD_train_188 : decode b_MD_train 188 = .ok (.getfield 41, 3) := by decide +kernel
theorem d_MD_train_191 : decode b_MD_train 191 = .ok (.iload_n 3, 1) := by decide +kernel
theorem d_MD_train_192 : decode b_MD_train 192 = .ok (.ldc2_w 118, 3) := by decide +kernel
theorem d_MD_train_195 : decode b_MD_train 195 = .ok (.aload_n 0, 1) := by decide +kernel
theorem d_MD_train_196 : decode b_MD_train 196 = .ok (.getfield 38, 3) := by decide +kernel
theorem d_MD_train_199 : decode b_MD_train 199 = .ok (.bipush 9, 2) := by decide +kernel
theorem d_MD_train_201 : decode b_MD_train 201 = .ok (.iaload, 1) := by decide +kernel
theorem d_MD_train_202 : decode b_MD_train 202 = .ok (.i2l, 1) := by decide +kernel
theorem d_MD_train_203 : decode b_MD_train 203 = .ok (.lmul, 1) := by decide +kernel
theorem d_MD_train_204 : decode b_MD_train 204 = .ok (.lastore, 1) := by decide +kernel
theorem d_MD_train_205 : decode b_MD_train 205 = .ok (.iinc 3 1, 3) := by decide +kernel
theorem d_MD_train_208 : decode b_MD_train 208 = .ok (.goto (-121), 3) := by decide +kernel
theorem d_MD_train_211 : decode b_MD_train 211 = .ok (.aload_n 0, 1) := by decide +kernel
theorem d_MD_train_212 : decode b_MD_train 212 = .ok (.iconst 0, 1) := by decide +kernel
theorem d_MD_train_213 : decode b_MD_train 213 = .ok (.putfield 120, 3) := by decide +kernel
theorem d_MD_train_216 : decode b_MD_train 216 = .ok (.aload_n 0, 1) := by decide +kernel
theorem d_MD_train_217 : decode b_MD_train 217 = .ok (.invokevirtual 123, 3) := by decide +kernel
theorem d_MD_train_220 : decode b_MD_train 220 = .ok (.aload_n 0, 1) := by decide +kernel
theorem d_MD_train_221 : decode b_MD_train 221 = .ok (.getfield 45, 3) := by decide +kernel
theorem d_MD_train_224 : decode b_MD_train 224 = .ok (.bipush 13, 2) := by decide +kernel
theorem d_MD_train_226 : decode b_MD_train 226 = .ok (.laload, 1) := by decide +kernel
theorem d_MD_train_227 : decode b_MD_train 227 = .ok (.lstore_n 3, 1) := by decide +kernel
theorem d_MD_train_228 : decode b_MD_train 228 = .ok (.iconst 0, 1) := by decide +kernel
theorem d_MD_train_229 : decode b_MD_train 229 = .ok (.istore 5, 2) := by decide +kernel
theorem d_MD_train_231 : decode b_MD_train 231 = .ok (.iconst 0, 1) := by decide +kernel
theorem d_MD_train_232 : decode b_MD_train 232 = .ok (.istore 6, 2) := by decide +kernel
theorem d_MD_train_234 : decode b_MD_train 234 = .ok (.aload_n 0, 1) := by decide +kernel
theorem d_MD_train_235 : decode b_MD_train 235 = .ok (.getfield 120, 3) := by decide +kernel
theorem d_MD_train_238 : decode b_MD_train 238 = .ok (.aload_n 0, 1) := by decide +kernel
theorem d_MD_train_239 : decode b_MD_train 239 = .ok (.getfield 38, 3) := by decide +kernel
theorem d_MD_train_242 : decode b_MD_train 242 = .ok (.iconst 4, 1) := by decide +kernel
theorem d_MD_train_243 : decode b_MD_train 243 = .ok (.iaload, 1) := by decide +kernel
theorem d_MD_train_244 : decode b_MD_train 244 = .ok (.if_icmp .ge 213, 3) := by decide +kernel
theorem d_MD_train_247 : decode b_MD_train 247 = .ok (.iload 6, 2) := by decide +kernel
theorem d_MD_train_249 : decode b_MD_train 249 = .ok (.ifCond .ne 208, 3) := by decide +kernel
theorem d_MD_train_252 : decode b_MD_train 252 = .ok (.aload_n 0, 1) := by decide +kernel
theorem d_MD_train_253 : decode b_MD_train 253 = .ok (.aload_n 0, 1) := by decide +kernel
theorem d_MD_train_254 : decode b_MD_train 254 = .ok (.getfield 120, 3) := by decide +kernel
theorem d_MD_train_257 : decode b_MD_train 257 = .ok (.invokevirtual 126, 3) := by decide +kernel
theorem d_MD_train_260 : decode b_MD_train 260 = .ok (.iconst 0, 1) := by decide +kernel
theorem d_MD_train_261 : decode b_MD_train 261 = .ok (.istore 7, 2) := by decide +kernel
theorem d_MD_train_263 : decode b_MD_train 263 = .ok (.iload 7, 2) := by decide +kernel
theorem d_MD_train_265 : decode b_MD_train 265 = .ok (.aload_n 0, 1) := by decide +kernel
theorem d_MD_train_266 : decode b_MD_train 266 = .ok (.getfield 115, 3) := by decide +kernel
theorem d_MD_train_269 : decode b_MD_train 269 = .ok (.if_icmp .ge 77, 3) := by decide +kernel
theorem d_MD_train_272 : decode b_MD_train 272 = .ok (.aload_n 0, 1) := by decide +kernel
theorem d_MD_train_273 : decode b_MD_train 273 = .ok (.getfield 41, 3) := by decide +kernel
theorem d_MD_train_276 : decode b_MD_train 276 = .ok (.iload 7, 2) := by decide +kernel
theorem d_MD_train_278 : decode b_MD_train 278 = .ok (.dup2, 1) := by decide +kernel
theorem d_MD_train_279 : decode b_MD_train 279 = .ok (.laload, 1) := by decide +kernel
theorem d_MD_train_280 : decode b_MD_train 280 = .ok (.aload_n 0, 1) := by decide +kernel
theorem d_MD_train_281 : decode b_MD_train 281 = .ok (.aload_n 0, 1) := by decide +kernel
theorem d_MD_train_282 : decode b_MD_train 282 = .ok (.getfield 120, 3) := by decide +kernel
theorem d_MD_train_285 : decode b_MD_train 285 = .ok (.aload_n 0, 1) := by decide +kernel
theorem d_MD_train_286 : decode b_MD_train 286 = .ok (.aload_n 0, 1) := by decide +kernel
theorem d_MD_train_287 : decode b_MD_train 287 = .ok (.getfield 120, 3) := by decide +kernel
theorem d_MD_train_290 : decode b_MD_train 290 = .ok (.aload_n 0, 1) := by decide +kernel
theorem d_MD_train_291 : decode b_MD_train 291 = .ok (.getfield 26, 3) := by decide +kernel
theorem d_MD_train_294 : decode b_MD_train 294 = .ok (.iconst 4, 1) := by decide +kernel
theorem d_MD_train_295 : decode b_MD_train 295 = .ok (.iload 7, 2) := by decide +kernel
theorem d_MD_train_297 : decode b_MD_train 297 = .ok (.imul, 1) := by decide +kernel
theorem d_MD_train_298 : decode b_MD_train 298 = .ok (.iaload, 1) := by decide +kernel
theorem d_MD_train_299 : decode b_MD_train 299 = .ok (.aload_n 0, 1) := by decide +kernel
theorem d_MD_train_300 : decode b_MD_train 300 = .ok (.getfield 26, 3) := by decide +kernel
theorem d_MD_train_303 : decode b_MD_train 303 = .ok (.iconst 4, 1) := by decide +kernel
theorem d_MD_train_304 : decode b_MD_train 304 = .ok (.iload 7, 2) := by decide +kernel
theorem d_MD_train_306 : decode b_MD_train 306 = .ok (.imul, 1) := by decide +kernel
theorem d_MD_train_307 : decode b_MD_train 307 = .ok (.iconst 1, 1) := by decide +kernel
theorem d_MD_train_308 : decode b_MD_train 308 = .ok (.iadd, 1) := by decide +kernel
theorem d_MD_train_309 : decode b_MD_train 309 = .ok (.iaload, 1) := by decide +kernel
theorem d_MD_train_310 : decode b_MD_train 310 = .ok (.aload_n 0, 1) := by decide +kernel
theorem d_MD_train_311 : decode b_MD_train 311 = .ok (.getfield 26, 3) := by decide +kernel
theorem d_MD_train_314 : decode b_MD_train 314 = .ok (.iconst 4, 1) := by decide +kernel
theorem d_MD_train_315 : decode b_MD_train 315 = .ok (.iload 7, 2) := by decide +kernel
theorem d_MD_train_317 : decode b_MD_train 317 = .ok (.imul, 1) := by decide +kernel
theorem d_MD_train_318 : decode b_MD_train 318 = .ok (.iconst 2, 1) := by decide +kernel
theorem d_MD_train_319 : decode b_MD_train 319 = .ok (.iadd, 1) := by decide +kernel
theorem d_MD_train_320 : decode b_MD_train 320 = .ok (.iaload, 1) := by decide +kernel
theorem d_MD_train_321 : decode b_MD_train 321 = .ok (.aload_n 0, 1) := by decide +kernel
theorem d_MD_train_322 : decode b_MD_train 322 = .ok (.getfield 26, 3) := by decide +kernel
theorem d_MD_train_325 : decode b_MD_train 325 = .ok (.iconst 4, 1) := by decide +kernel
theorem d_MD_train_326 : decode b_MD_train 326 = .ok (.iload 7, 2) := by decide +kernel
theorem d_MD_train_328 : decode b_MD_train 328 = .ok (.imul, 1) := by decide +kernel
theorem d_MD_train_329 : decode b_MD_train 329 = .ok (.iconst 3, 1) := by decide +kernel
theorem d_MD_train_330 : decode b_MD_train 330 = .ok (.iadd, 1) := by decide +kernel
theorem d_MD_train_331 : decode b_MD_train 331 = .ok (.iaload, 1) := by decide +kernel
theorem d_MD_train_332 : decode b_MD_train 332 = .ok (.invokevirtual 130, 3) := by decide +kernel
theorem d_MD_train_335 : decode b_MD_train 335 = .ok (.invokevirtual 133, 3) := by decide +kernel
theorem d_MD_train_338 : decode b_MD_train 338 = .ok (.ladd, 1) := by decide +kernel
theorem d_MD_train_339 : decode b_MD_train 339 = .ok (.lastore, 1) := by decide +kernel
theorem d_MD_train_340 : decode b_MD_train 340 = .ok (.iinc 7 1, 3) := by decide +kernel
theorem d_MD_train_343 : decode b_MD_train 343 = .ok (.goto (-80), 3) := by decide +kernel
theorem d_MD_train_346 : decode b_MD_train 346 = .ok (.aload_n 0, 1) := by decide +kernel
theorem d_MD_train_347 : decode b_MD_train 347 = .ok (.dup, 1) := by decide +kernel
theorem d_MD_train_348 : decode b_MD_train 348 = .ok (.getfield 120, 3) := by decide +kernel
theorem d_MD_train_351 : decode b_MD_train 351 = .ok (.iconst 1, 1) := by decide +kernel
theorem d_MD_train_352 : decode b_MD_train 352 = .ok (.iadd, 1) := by decide +kernel
theorem d_MD_train_353 : decode b_MD_train 353 = .ok (.putfield 120, 3) := by decide +kernel
theorem d_MD_train_356 : decode b_MD_train 356 = .ok (.aload_n 0, 1) := by decide +kernel
theorem d_MD_train_357 : decode b_MD_train 357 = .ok (.invokevirtual 123, 3) := by decide +kernel
theorem d_MD_train_360 : decode b_MD_train 360 = .ok (.aload_n 0, 1) := by decide +kernel
theorem d_MD_train_361 : decode b_MD_train 361 = .ok (.getfield 45, 3) := by decide +kernel
theorem d_MD_train_364 : decode b_MD_train 364 = .ok (.bipush 13, 2) := by decide +kernel
theorem d_MD_train_366 : decode b_MD_train 366 = .ok (.aload_n 0, 1) := by decide +kernel
theorem d_MD_train_367 : decode b_MD_train 367 = .ok (.getfield 120, 3) := by decide +kernel
theorem d_MD_train_370 : decode b_MD_train 370 = .ok (.iadd, 1) := by decide +kernel
theorem d_MD_train_371 : decode b_MD_train 371 = .ok (.laload, 1) := by decide +kernel
theorem d_MD_train_372 : decode b_MD_train 372 = .ok (.lload_n 3, 1) := by decide +kernel
theorem d_MD_train_373 : decode b_MD_train 373 = .ok (.lcmp, 1) := by decide +kernel
theorem d_MD_train_374 : decode b_MD_train 374 = .ok (.ifCond .ge 7, 3) := by decide +kernel
theorem d_MD_train_377 : decode b_MD_train 377 = .ok (.iconst 1, 1) := by decide +kernel
theorem d_MD_train_378 : decode b_MD_train 378 = .ok (.goto 4, 3) := by decide +kernel
theorem d_MD_train_381 : decode b_MD_train 381 = .ok (.iconst 0, 1) := by decide +kernel
theorem d_MD_train_382 : decode b_MD_train 382 = .ok (.istore 7, 2) := by decide +kernel
theorem d_MD_train_384 : decode b_MD_train 384 = .ok (.iload 7, 2) := by decide +kernel
theorem d_MD_train_386 : decode b_MD_train 386 = .ok (.ifCond .eq 18, 3) := by decide +kernel
theorem d_MD_train_389 : decode b_MD_train 389 = .ok (.aload_n 0, 1) := by decide +kernel
theorem d_MD_train_390 : decode b_MD_train 390 = .ok (.getfield 45, 3) := by decide +kernel
theorem d_MD_train_393 : decode b_MD_train 393 = .ok (.bipush 13, 2) := by decide +kernel
theorem d_MD_train_395 : decode b_MD_train 395 = .ok (.aload_n 0, 1) := by decide +kernel
theorem d_MD_train_396 : decode b_MD_train 396 = .ok (.getfield 120, 3) := by decide +kernel
theorem d_MD_train_399 : decode b_MD_train 399 = .ok (.iadd, 1) := by decide +kernel
theorem d_MD_train_400 : decode b_MD_train 400 = .ok (.laload, 1) := by decide +kernel
theorem d_MD_train_401 : decode b_MD_train 401 = .ok (.goto 4, 3) := by decide +kernel
theorem d_MD_train_404 : decode b_MD_train 404 = .ok (.lload_n 3, 1) := by decide +kernel
theorem d_MD_train_405 : decode b_MD_train 405 = .ok (.lstore_n 3, 1) := by decide +kernel
theorem d_MD_train_406 : decode b_MD_train 406 = .ok (.iload 7, 2) := by decide +kernel
theorem d_MD_train_408 : decode b_MD_train 408 = .ok (.ifCond .eq 7, 3) := by decide +kernel
theorem d_MD_train_411 : decode b_MD_train 411 = .ok (.iconst 0, 1) := by decide +kernel
theorem d_MD_train_412 : decode b_MD_train 412 = .ok (.goto 7, 3) := by decide +kernel
theorem d_MD_train_415 : decode b_MD_train 415 = .ok (.iload 5, 2) := by decide +kernel
theorem d_MD_train_417 : decode b_MD_train 417 = .ok (.iconst 1, 1) := by decide +kernel
theorem d_MD_train_418 : decode b_MD_train 418 = .ok (.iadd, 1) := by decide +kernel
theorem d_MD_train_419 : decode b_MD_train 419 = .ok (.istore 5, 2) := by decide +kernel
theorem d_MD_train_421 : decode b_MD_train 421 = .ok (.aload_n 0, 1) := by decide +kernel
theorem d_MD_train_422 : decode b_MD_train 422 = .ok (.getfield 38, 3) := by decide +kernel
theorem d_MD_train_425 : decode b_MD_train 425 = .ok (.bipush 8, 2) := by decide +kernel
theorem d_MD_train_427 : decode b_MD_train 427 = .ok (.iaload, 1) := by decide +kernel
theorem d_MD_train_428 : decode b_MD_train 428 = .ok (.ifCond .le 23, 3) := by decide +kernel
theorem d_MD_train_431 : decode b_MD_train 431 = .ok (.iload_n 2, 1) := by decide +kernel
theorem d_MD_train_432 : decode b_MD_train 432 = .ok (.ifCond .eq 19, 3) := by decide +kernel
theorem d_MD_train_435 : decode b_MD_train 435 = .ok (.iload 5, 2) := by decide +kernel
theorem d_MD_train_437 : decode b_MD_train 437 = .ok (.aload_n 0, 1) := by decide +kernel
theorem d_MD_train_438 : decode b_MD_train 438 = .ok (.getfield 38, 3) := by decide +kernel
theorem d_MD_train_441 : decode b_MD_train 441 = .ok (.bipush 8, 2) := by decide +kernel
theorem d_MD_train_443 : decode b_MD_train 443 = .ok (.iaload, 1) := by decide +kernel
theorem d_MD_train_444 : decode b_MD_train 444 = .ok (.if_icmp .lt 7, 3) := by decide +kernel
theorem d_MD_train_447 : decode b_MD_train 447 = .ok (.iconst 1, 1) := by decide +kernel
theorem d_MD_train_448 : decode b_MD_train 448 = .ok (.goto 4, 3) := by decide +kernel
theorem d_MD_train_451 : decode b_MD_train 451 = .ok (.iconst 0, 1) := by decide +kernel
theorem d_MD_train_452 : decode b_MD_train 452 = .ok (.istore 6, 2) := by decide +kernel
theorem d_MD_train_454 : decode b_MD_train 454 = .ok (.goto (-220), 3) := by decide +kernel
theorem d_MD_train_457 : decode b_MD_train 457 = .ok (.aload_n 0, 1) := by decide +kernel
theorem d_MD_train_458 : decode b_MD_train 458 = .ok (.getfield 120, 3) := by decide +kernel
theorem d_MD_train_461 : decode b_MD_train 461 = .ok (.ireturn, 1) := by decide +kernel
theorem d_MD_keepLosses_0 : decode b_MD_keepLosses 0 = .ok (.aload_n 0, 1) := by decide +kernel
theorem d_MD_keepLosses_1 : decode b_MD_keepLosses 1 = .ok (.getfield 45, 3) := by decide +kernel
theorem d_MD_keepLosses_4 : decode b_MD_keepLosses 4 = .ok (.aload_n 0, 1) := by decide +kernel
theorem d_MD_keepLosses_5 : decode b_MD_keepLosses 5 = .ok (.getfield 120, 3) := by decide +kernel
theorem d_MD_keepLosses_8 : decode b_MD_keepLosses 8 = .ok (.lconst 0, 1) := by decide +kernel
theorem d_MD_keepLosses_9 : decode b_MD_keepLosses 9 = .ok (.lastore, 1) := by decide +kernel
theorem d_MD_keepLosses_10 : decode b_MD_keepLosses 10 = .ok (.aload_n 0, 1) := by decide +kernel
theorem d_MD_keepLosses_11 : decode b_MD_keepLosses 11 = .ok (.getfield 45, 3) := by decide +kernel
theorem d_MD_keepLosses_14 : decode b_MD_keepLosses 14 = .ok (.bipush 13, 2) := by decide +kernel
theorem d_MD_keepLosses_16 : decode b_MD_keepLosses 16 = .ok (.aload_n 0, 1) := by decide +kernel
theorem d_MD_keepLosses_17 : decode b_MD_keepLosses 17 = .ok (.getfield 120, 3) := by decide +kernel
theorem d_MD_keepLosses_20 : decode b_MD_keepLosses 20 = .ok (.iadd, 1) := by decide +kernel
theorem d_MD_keepLosses_21 : decode b_MD_keepLosses 21 = .ok (.lconst 0, 1) := by decide +kernel
theorem d_MD_keepLosses_22 : decode b_MD_keepLosses 22 = .ok (.lastore, 1) := by decide +kernel
theorem d_MD_keepLosses_23 : decode b_MD_keepLosses 23 = .ok (.iconst 0, 1) := by decide +kernel
theorem d_MD_keepLosses_24 : decode b_MD_keepLosses 24 = .ok (.istore_n 1, 1) := by decide +kernel
theorem d_MD_keepLosses_25 : decode b_MD_keepLosses 25 = .ok (.iload_n 1, 1) := by decide +kernel
theorem d_MD_keepLosses_26 : decode b_MD_keepLosses 26 = .ok (.aload_n 0, 1) := by decide +kernel
theorem d_MD_keepLosses_27 : decode b_MD_keepLosses 27 = .ok (.getfield 115, 3) := by decide +kernel
theorem d_MD_keepLosses_30 : decode b_MD_keepLosses 30 = .ok (.if_icmp .ge 74, 3) := by decide +kernel
theorem d_MD_keepLosses_33 : decode b_MD_keepLosses 33 = .ok (.aload_n 0, 1) := by decide +kernel
theorem d_MD_keepLosses_34 : decode b_MD_keepLosses 34 = .ok (.getfield 41, 3) := by decide +kernel
theorem d_MD_keepLosses_37 : decode b_MD_keepLosses 37 = .ok (.iload_n 1, 1) := by decide +kernel
theorem d_MD_keepLosses_38 : decode b_MD_keepLosses 38 = .ok (.laload, 1) := by decide +kernel
theorem d_MD_keepLosses_39 : decode b_MD_keepLosses 39 = .ok (.ldc2_w 118, 3) := by decide +kernel
theorem d_MD_keepLosses_42 : decode b_MD_keepLosses 42 = .ok (.aload_n 0, 1) := by decide +kernel
theorem d_MD_keepLosses_43 : decode b_MD_keepLosses 43 = .ok (.getfield 29, 3) := by decide +kernel
theorem d_MD_keepLosses_46 : decode b_MD_keepLosses 46 = .ok (.iload_n 1, 1) := by decide +kernel
theorem d_MD_keepLosses_47 : decode b_MD_keepLosses 47 = .ok (.iaload, 1) := by decide +kernel
theorem d_MD_keepLosses_48 : decode b_MD_keepLosses 48 = .ok (.i2l, 1) := by decide +kernel
theorem d_MD_keepLosses_49 : decode b_MD_keepLosses 49 = .ok (.lmul, 1) := by decide +kernel
theorem d_MD_keepLosses_50 : decode b_MD_keepLosses 50 = .ok (.lsub, 1) := by decide +kernel
theorem d_MD_keepLosses_51 : decode b_MD_keepLosses 51 = .ok (.lstore_n 2, 1) := by decide +kernel
theorem d_MD_keepLosses_52 : decode b_MD_keepLosses 52 = .ok (.aload_n 0, 1) := by decide +kernel
theorem d_MD_keepLosses_53 : decode b_MD_keepLosses 53 = .ok (.getfield 35, 3) := by decide +kernel
theorem d_MD_keepLosses_56 : decode b_MD_keepLosses 56 = .ok (.iload_n 1, 1) := by decide +kernel
theorem d_MD_keepLosses_57 : decode b_MD_keepLosses 57 = .ok (.baload, 1) := by decide +kernel
theorem d_MD_keepLosses_58 : decode b_MD_keepLosses 58 = .ok (.ifCond .eq 13, 3) := by decide +kernel
theorem d_MD_keepLosses_61 : decode b_MD_keepLosses 61 = .ok (.bipush 13, 2) := by decide +kernel
theorem d_MD_keepLosses_63 : decode b_MD_keepLosses 63 = .ok (.aload_n 0, 1) := by decide +kernel
theorem d_MD_keepLosses_64 : decode b_MD_keepLosses 64 = .ok (.getfield 120, 3) := by decide +kernel
theorem d_MD_keepLosses_67 : decode b_MD_keepLosses 67 = .ok (.iadd, 1) := by decide +kernel
theorem d_MD_keepLosses_68 : decode b_MD_keepLosses 68 = .ok (.goto 7, 3) := by decide +kernel
theorem d_MD_keepLosses_71 : decode b_MD_keepLosses 71 = .ok (.aload_n 0, 1) := by decide +kernel
theorem d_MD_keepLosses_72 : decode b_MD_keepLosses 72 = .ok (.getfield 120, 3) := by decide +kernel
theorem d_MD_keepLosses_75 : decode b_MD_keepLosses 75 = .ok (.istore 4, 2) := by decide +kernel
theorem d_MD_keepLosses_77 : decode b_MD_keepLosses 77 = .ok (.aload_n 0, 1) := by decide +kernel
theorem d_MD_keepLosses_78 : decode b_MD_keepLosses 78 = .ok (.getfield 45, 3) := by decide +kernel
theorem d_MD_keepLosses_81 : decode b_MD_keepLosses 81 = .ok (.iload 4, 2) := by decide +kernel
theorem d_MD_keepLosses_83 : decode b_MD_keepLosses 83 = .ok (.dup2, 1) := by decide +kernel
theorem d_MD_keepLosses_84 : decode b_MD_keepLosses 84 = .ok (.laload, 1) := by decide +kernel
theorem d_MD_keepLosses_85 : decode b_MD_keepLosses 85 = .ok (.aload_n 0, 1) := by decide +kernel
theorem d_MD_keepLosses_86 : decode b_MD_keepLosses 86 = .ok (.getfield 32, 3) := by decide +kernel
theorem d_MD_keepLosses_89 : decode b_MD_keepLosses 89 = .ok (.iload_n 1, 1) := by decide +kernel
theorem d_MD_keepLosses_90 : decode b_MD_keepLosses 90 = .ok (.iaload, 1) := by decide +kernel
theorem d_MD_keepLosses_91 : decode b_MD_keepLosses 91 = .ok (.i2l, 1) := by decide +kernel
theorem d_MD_keepLosses_92 : decode b_MD_keepLosses 92 = .ok (.lload_n 2, 1) := by decide +kernel
theorem d_MD_keepLosses_93 : decode b_MD_keepLosses 93 = .ok (.lmul, 1) := by decide +kernel
theorem d_MD_keepLosses_94 : decode b_MD_keepLosses 94 = .ok (.lload_n 2, 1) := by decide +kernel
theorem d_MD_keepLosses_95 : decode b_MD_keepLosses 95 = .ok (.lmul, 1) := by decide +kernel
theorem d_MD_keepLosses_96 : decode b_MD_keepLosses 96 = .ok (.ladd, 1) := by decide +kernel
theorem d_MD_keepLosses_97 : decode b_MD_keepLosses 97 = .ok (.lastore, 1) := by decide +kernel
theorem d_MD_keepLosses_98 : decode b_MD_keepLosses 98 = .ok (.iinc 1 1, 3) := by decide +kernel
theorem d_MD_keepLosses_101 : decode b_MD_keepLosses 101 = .ok (.goto (-76), 3) := by decide +kernel
theorem d_MD_keepLosses_104 : decode b_MD_keepLosses 104 = .ok (.return_, 1) := by decide +kernel
theorem d_MD_valueOf_0 : decode b_MD_valueOf 0 = .ok (.iload_n 3, 1) := by decide +kernel
theorem d_MD_valueOf_1 : decode b_MD_valueOf 1 = .ok (.ifCond .ne 7, 3) := by decide +kernel
theorem d_MD_valueOf_4 : decode b_MD_valueOf 4 = .ok (.lconst 0, 1) := by decide +kernel
theorem d_MD_valueOf_5 : decode b_MD_valueOf 5 = .ok (.goto 15, 3) := by decide +kernel
theorem d_MD_valueOf_8 : decode b_MD_valueOf 8 = .ok (.lload_n 1, 1) := by decide +kernel
theorem d_MD_valueOf_9 : decode b_MD_valueOf 9 = .ok (.lneg, 1) := by decide +kernel
theorem d_MD_valueOf_10 : decode b_MD_valueOf 10 = .ok (.iload_n 3, 1) := by decide +kernel
theorem d_MD_valueOf_11 : decode b_MD_valueOf 11 = .ok (.aload_n 0, 1) := by decide +kernel
theorem d_MD_valueOf_12 : decode b_MD_valueOf 12 = .ok (.getfield 38, 3) := by decide +kernel
theorem d_MD_valueOf_15 : decode b_MD_valueOf 15 = .ok (.iconst 2, 1) := by decide +kernel
theorem d_MD_valueOf_16 : decode b_MD_valueOf 16 = .ok (.iaload, 1) := by decide +kernel
theorem d_MD_valueOf_17 : decode b_MD_valueOf 17 = .ok (.iadd, 1) := by decide +kernel
theorem d_MD_valueOf_18 : decode b_MD_valueOf 18 = .ok (.i2l, 1) := by decide +kernel
theorem d_MD_valueOf_19 : decode b_MD_valueOf 19 = .ok (.ldiv, 1) := by decide +kernel
theorem d_MD_valueOf_20 : decode b_MD_valueOf 20 = .ok (.lreturn, 1) := by decide +kernel
theorem d_MD_worthOf_0 : decode b_MD_worthOf 0 = .ok (.iload_n 3, 1) := by decide +kernel
theorem d_MD_worthOf_1 : decode b_MD_worthOf 1 = .ok (.ifCond .ne 7, 3) := by decide +kernel
theorem d_MD_worthOf_4 : decode b_MD_worthOf 4 = .ok (.lconst 0, 1) := by decide +kernel
theorem d_MD_worthOf_5 : decode b_MD_worthOf 5 = .ok (.goto 16, 3) := by decide +kernel
theorem d_MD_worthOf_8 : decode b_MD_worthOf 8 = .ok (.lload_n 1, 1) := by decide +kernel
theorem d_MD_worthOf_9 : decode b_MD_worthOf 9 = .ok (.lload_n 1, 1) := by decide +kernel
theorem d_MD_worthOf_10 : decode b_MD_worthOf 10 = .ok (.lmul, 1) := by decide +kernel
theorem d_MD_worthOf_11 : decode b_MD_worthOf 11 = .ok (.iload_n 3, 1) := by decide +kernel
theorem d_MD_worthOf_12 : decode b_MD_worthOf 12 = .ok (.aload_n 0, 1) := by decide +kernel
theorem d_MD_worthOf_13 : decode b_MD_worthOf 13 = .ok (.getfield 38, 3) := by decide +kernel
theorem d_MD_worthOf_16 : decode b_MD_worthOf 16 = .ok (.iconst 2, 1) := by decide +kernel
theorem d_MD_worthOf_17 : decode b_MD_worthOf 17 = .ok (.iaload, 1) := by decide +kernel
theorem d_MD_worthOf_18 : decode b_MD_worthOf 18 = .ok (.iadd, 1) := by decide +kernel
theorem d_MD_worthOf_19 : decode b_MD_worthOf 19 = .ok (.i2l, 1) := by decide +kernel
theorem d_MD_worthOf_20 : decode b_MD_worthOf 20 = .ok (.ldiv, 1) := by decide +kernel
theorem d_MD_worthOf_21 : decode b_MD_worthOf 21 = .ok (.lreturn, 1) := by decide +kernel
theorem d_MD_goesLeft_0 : decode b_MD_goesLeft 0 = .ok (.iload_n 0, 1) := by decide +kernel
theorem d_MD_goesLeft_1 : decode b_MD_goesLeft 1 = .ok (.ifCond .ge 15, 3) := by decide +kernel
theorem d_MD_goesLeft_4 : decode b_MD_goesLeft 4 = .ok (.iload_n 2, 1) := by decide +kernel
theorem d_MD_goesLeft_5 : decode b_MD_goesLeft 5 = .ok (.ifCond .ne 7, 3) := by decide +kernel
theorem d_MD_goesLeft_8 : decode b_MD_goesLeft 8 = .ok (.iconst 1, 1) := by decide +kernel
theorem d_MD_goesLeft_9 : decode b_MD_goesLeft 9 = .ok (.goto 17, 3) := by decide +kernel
theorem d_MD_goesLeft_12 : decode b_MD_goesLeft 12 = .ok (.iconst 0, 1) := by decide +kernel
theorem d_MD_goesLeft_13 : decode b_MD_goesLeft 13 = .ok (.goto 13, 3) := by decide +kernel
theorem d_MD_goesLeft_16 : decode b_MD_goesLeft 16 = .ok (.iload_n 0, 1) := by decide +kernel
theorem d_MD_goesLeft_17 : decode b_MD_goesLeft 17 = .ok (.iload_n 1, 1) := by decide +kernel
theorem d_MD_goesLeft_18 : decode b_MD_goesLeft 18 = .ok (.if_icmp .gt 7, 3) := by decide +kernel
theorem d_MD_goesLeft_21 : decode b_MD_goesLeft 21 = .ok (.iconst 1, 1) := by decide +kernel
theorem d_MD_goesLeft_22 : decode b_MD_goesLeft 22 = .ok (.goto 4, 3) := by decide +kernel
theorem d_MD_goesLeft_25 : decode b_MD_goesLeft 25 = .ok (.iconst 0, 1) := by decide +kernel
theorem d_MD_goesLeft_26 : decode b_MD_goesLeft 26 = .ok (.ireturn, 1) := by decide +kernel
theorem d_MD_sumUp_0 : decode b_MD_sumUp 0 = .ok (.aload_n 0, 1) := by decide +kernel
theorem d_MD_sumUp_1 : decode b_MD_sumUp 1 = .ok (.lconst 0, 1) := by decide +kernel
theorem d_MD_sumUp_2 : decode b_MD_sumUp 2 = .ok (.putfield 137, 3) := by decide +kernel
theorem d_MD_sumUp_5 : decode b_MD_sumUp 5 = .ok (.aload_n 0, 1) := by decide +kernel
theorem d_MD_sumUp_6 : decode b_MD_sumUp 6 = .ok (.iconst 0, 1) := by decide +kernel
theorem d_MD_sumUp_7 : decode b_MD_sumUp 7 = .ok (.putfield 141, 3) := by decide +kernel
theorem d_MD_sumUp_10 : decode b_MD_sumUp 10 = .ok (.aload_n 0, 1) := by decide +kernel
theorem d_MD_sumUp_11 : decode b_MD_sumUp 11 = .ok (.iconst 0, 1) := by decide +kernel
theorem d_MD_sumUp_12 : decode b_MD_sumUp 12 = .ok (.putfield 144, 3) := by decide +kernel
theorem d_MD_sumUp_15 : decode b_MD_sumUp 15 = .ok (.iconst 0, 1) := by decide +kernel
theorem d_MD_sumUp_16 : decode b_MD_sumUp 16 = .ok (.istore 6, 2) := by decide +kernel
theorem d_MD_sumUp_18 : decode b_MD_sumUp 18 = .ok (.iload 6, 2) := by decide +kernel
theorem d_MD_sumUp_20 : decode b_MD_sumUp 20 = .ok (.aload_n 0, 1) := by decide +kernel
theorem d_MD_sumUp_21 : decode b_MD_sumUp 21 = .ok (.getfield 115, 3) := by decide +kernel
theorem d_MD_sumUp_24 : decode b_MD_sumUp 24 = .ok (.if_icmp .ge 110, 3) := by decide +kernel
theorem d_MD_sumUp_27 : decode b_MD_sumUp 27 = .ok (.aload_n 0, 1) := by decide +kernel
theorem d_MD_sumUp_28 : decode b_MD_sumUp 28 = .ok (.getfield 81, 3) := by decide +kernel
theorem d_MD_sumUp_31 : decode b_MD_sumUp 31 = .ok (.iload 6, 2) := by decide +kernel
theorem d_MD_sumUp_33 : decode b_MD_sumUp 33 = .ok (.iaload, 1) := by decide +kernel
theorem d_MD_sumUp_34 : decode b_MD_sumUp 34 = .ok (.iload_n 1, 1) := by decide +kernel
theorem d_MD_sumUp_35 : decode b_MD_sumUp 35 = .ok (.if_icmp .ne 93, 3) := by decide +kernel
theorem d_MD_sumUp_38 : decode b_MD_sumUp 38 = .ok (.iload_n 2, 1) := by decide +kernel
theorem d_MD_sumUp_39 : decode b_MD_sumUp 39 = .ok (.ifCond .lt 25, 3) := by decide +kernel
theorem d_MD_sumUp_42 : decode b_MD_sumUp 42 = .ok (.aload_n 0, 1) := by decide +kernel
theorem d_MD_sumUp_43 : decode b_MD_sumUp 43 = .ok (.getfield 26, 3) := by decide +kernel
theorem d_MD_sumUp_46 : decode b_MD_sumUp 46 = .ok (.iconst 4, 1) := by decide +kernel
theorem d_MD_sumUp_47 : decode b_MD_sumUp 47 = .ok (.iload 6, 2) := by decide +kernel
theorem d_MD_sumUp_49 : decode b_MD_sumUp 49 = .ok (.imul, 1) := by decide +kernel
theorem d_MD_sumUp_50 : decode b_MD_sumUp 50 = .ok (.iload_n 2, 1) := by decide +kernel
theorem d_MD_sumUp_51 : decode b_MD_sumUp 51 = .ok (.iadd, 1) := by decide +kernel
theorem d_MD_sumUp_52 : decode b_MD_sumUp 52 = .ok (.iaload, 1) := by decide +kernel
theorem d_MD_sumUp_53 : decode b_MD_sumUp 53 = .ok (.iload_n 3, 1) := by decide +kernel
theorem d_MD_sumUp_54 : decode b_MD_sumUp 54 = .ok (.iload 4, 2) := by decide +kernel
theorem d_MD_sumUp_56 : decode b_MD_sumUp 56 = .ok (.invokestatic 147, 3) := by decide +kernel
theorem d_MD_sumUp_59 : decode b_MD_sumUp 59 = .ok (.iload 5, 2) := by decide +kernel
theorem d_MD_sumUp_61 : decode b_MD_sumUp 61 = .ok (.if_icmp .ne 67, 3) := by decide +kernel
theorem d_MD_sumUp_64 : decode b_MD_sumUp 64 = .ok (.aload_n 0, 1) := by decide +kernel
theorem d_MD_sumUp_65 : decode b_MD_sumUp 65 = .ok (.dup, 1) := by decide +kernel
theorem d_MD_sumUp_66 : decode b_MD_sumUp 66 = .ok (.getfield 137, 3) := by decide +kernel
theorem d_MD_sumUp_69 : decode b_MD_sumUp 69 = .ok (.aload_n 0, 1) := by decide +kernel
theorem d_MD_sumUp_70 : decode b_MD_sumUp 70 = .ok (.getfield 32, 3) := by decide +kernel
theorem d_MD_sumUp_73 : decode b_MD_sumUp 73 = .ok (.iload 6, 2) := by decide +kernel
theorem d_MD_sumUp_75 : decode b_MD_sumUp 75 = .ok (.iaload, 1) := by decide +kernel
theorem d_MD_sumUp_76 : decode b_MD_sumUp 76 = .ok (.i2l, 1) := by decide +kernel
theorem d_MD_sumUp_77 : decode b_MD_sumUp 77 = .ok (.aload_n 0, 1) := by decide +kernel
theorem d_MD_sumUp_78 : decode b_MD_sumUp 78 = .ok (.getfield 41, 3) := by decide +kernel
theorem d_MD_sumUp_81 : decode b_MD_sumUp 81 = .ok (.iload 6, 2) := by decide +kernel
theorem d_MD_sumUp_83 : decode b_MD_sumUp 83 = .ok (.laload, 1) := by decide +kernel
theorem d_MD_sumUp_84 : decode b_MD_sumUp 84 = .ok (.ldc2_w 118, 3) := by decide +kernel
theorem d_MD_sumUp_87 : decode b_MD_sumUp 87 = .ok (.aload_n 0, 1) := by decide +kernel
theorem d_MD_sumUp_88 : decode b_MD_sumUp 88 = .ok (.getfield 29, 3) := by decide +kernel
theorem d_MD_sumUp_91 : decode b_MD_sumUp 91 = .ok (.iload 6, 2) := by decide +kernel
theorem d_MD_sumUp_93 : decode b_MD_sumUp 93 = .ok (.iaload, 1) := by decide +kernel
theorem d_MD_sumUp_94 : decode b_MD_sumUp 94 = .ok (.i2l, 1) := by decide +kernel
theorem d_MD_sumUp_95 : decode b_MD_sumUp 95 = .ok (.lmul, 1) := by decide +kernel
theorem d_MD_sumUp_96 : decode b_MD_sumUp 96 = .ok (.lsub, 1) := by decide +kernel
theorem d_MD_sumUp_97 : decode b_MD_sumUp 97 = .ok (.lmul, 1) := by decide +kernel
theorem d_MD_sumUp_98 : decode b_MD_sumUp 98 = .ok (.ladd, 1) := by decide +kernel
theorem d_MD_sumUp_99 : decode b_MD_sumUp 99 = .ok (.putfield 137, 3) := by decide +kernel
theorem d_MD_sumUp_102 : decode b_MD_sumUp 102 = .ok (.aload_n 0, 1) := by decide +kernel
theorem d_MD_sumUp_103 : decode b_MD_sumUp 103 = .ok (.dup, 1) := by decide +kernel
theorem d_MD_sumUp_104 : decode b_MD_sumUp 104 = .ok (.getfield 141, 3) := by decide +kernel
theorem d_MD_sumUp_107 : decode b_MD_sumUp 107 = .ok (.aload_n 0, 1) := by decide +kernel
theorem d_MD_sumUp_108 : decode b_MD_sumUp 108 = .ok (.getfield 32, 3) := by decide +kernel
theorem d_MD_sumUp_111 : decode b_MD_sumUp 111 = .ok (.iload 6, 2) := by decide +kernel
theorem d_MD_sumUp_113 : decode b_MD_sumUp 113 = .ok (.iaload, 1) := by decide +kernel
theorem d_MD_sumUp_114 : decode b_MD_sumUp 114 = .ok (.iadd, 1) := by decide +kernel
theorem d_MD_sumUp_115 : decode b_MD_sumUp 115 = .ok (.putfield 141, 3) := by decide +kernel
theorem d_MD_sumUp_118 : decode b_MD_sumUp 118 = .ok (.aload_n 0, 1) := by decide +kernel
theorem d_MD_sumUp_119 : decode b_MD_sumUp 119 = .ok (.dup, 1) := by decide +kernel
theorem d_MD_sumUp_120 : decode b_MD_sumUp 120 = .ok (.getfield 144, 3) := by decide +kernel
theorem d_MD_sumUp_123 : decode b_MD_sumUp 123 = .ok (.iconst 1, 1) := by decide +kernel
theorem d_MD_sumUp_124 : decode b_MD_sumUp 124 = .ok (.iadd, 1) := by decide +kernel
theorem d_MD_sumUp_125 : decode b_MD_sumUp 125 = .ok (.putfield 144, 3) := by decide +kernel
theorem d_MD_sumUp_128 : decode b_MD_sumUp 128 = .ok (.iinc 6 1, 3) := by decide +kernel
theorem d_MD_sumUp_131 : decode b_MD_sumUp 131 = .ok (.goto (-113), 3) := by decide +kernel
theorem d_MD_sumUp_134 : decode b_MD_sumUp 134 = .ok (.return_, 1) := by decide +kernel
theorem d_MD_makeTree_0 : decode b_MD_makeTree 0 = .ok (.iconst 0, 1) := by decide +kernel
theorem d_MD_makeTree_1 : decode b_MD_makeTree 1 = .ok (.istore_n 2, 1) := by decide +kernel
theorem d_MD_makeTree_2 : decode b_MD_makeTree 2 = .ok (.iload_n 2, 1) := by decide +kernel
theorem d_MD_makeTree_3 : decode b_MD_makeTree 3 = .ok (.aload_n 0, 1) := by decide +kernel
theorem d_MD_makeTree_4 : decode b_MD_makeTree 4 = .ok (.getfield 115, 3) := by decide +kernel
theorem d_MD_makeTree_7 : decode b_MD_makeTree 7 = .ok (.if_icmp .ge 71, 3) := by decide +kernel
theorem d_MD_makeTree_10 : decode b_MD_makeTree 10 = .ok (.aload_n 0, 1) := by decide +kernel
theorem d_MD_makeTree_11 : decode b_MD_makeTree 11 = .ok (.getfield 35, 3) := by decide +kernel
theorem d_MD_makeTree_14 : decode b_MD_makeTree 14 = .ok (.iload_n 2, 1) := by decide +kernel
theorem d_MD_makeTree_15 : decode b_MD_makeTree 15 = .ok (.baload, 1) := by decide +kernel
theorem d_MD_makeTree_16 : decode b_MD_makeTree 16 = .ok (.ifCond .ne 27, 3) := by decide +kernel
theorem d_MD_makeTree_19 : decode b_MD_makeTree 19 = .ok (.aload_n 0, 1) := by decide +kernel
theorem d_MD_makeTree_20 : decode b_MD_makeTree 20 = .ok (.bipush 64, 2) := by decide +kernel
theorem d_MD_makeTree_22 : decode b_MD_makeTree 22 = .ok (.iload_n 1, 1) := by decide +kernel
theorem d_MD_makeTree_23 : decode b_MD_makeTree 23 = .ok (.imul, 1) := by decide +kernel
theorem d_MD_makeTree_24 : decode b_MD_makeTree 24 = .ok (.iload_n 2, 1) := by decide +kernel
theorem d_MD_makeTree_25 : decode b_MD_makeTree 25 = .ok (.iadd, 1) := by decide +kernel
theorem d_MD_makeTree_26 : decode b_MD_makeTree 26 = .ok (.invokevirtual 151, 3) := by decide +kernel
theorem d_MD_makeTree_29 : decode b_MD_makeTree 29 = .ok (.aload_n 0, 1) := by decide +kernel
theorem d_MD_makeTree_30 : decode b_MD_makeTree 30 = .ok (.getfield 38, 3) := by decide +kernel
theorem d_MD_makeTree_33 : decode b_MD_makeTree 33 = .ok (.bipush 6, 2) := by decide +kernel
theorem d_MD_makeTree_35 : decode b_MD_makeTree 35 = .ok (.iaload, 1) := by decide +kernel
theorem d_MD_makeTree_36 : decode b_MD_makeTree 36 = .ok (.if_icmp .ge 7, 3) := by decide +kernel
theorem d_MD_makeTree_39 : decode b_MD_makeTree 39 = .ok (.iconst 1, 1) := by decide +kernel
theorem d_MD_makeTree_40 : decode b_MD_makeTree 40 = .ok (.goto 4, 3) := by decide +kernel
theorem d_MD_makeTree_43 : decode b_MD_makeTree 43 = .ok (.iconst 0, 1) := by decide +kernel
theorem d_MD_makeTree_44 : decode b_MD_makeTree 44 = .ok (.istore_n 3, 1) := by decide +kernel
theorem d_MD_makeTree_45 : decode b_MD_makeTree 45 = .ok (.aload_n 0, 1) := by decide +kernel
theorem d_MD_makeTree_46 : decode b_MD_makeTree 46 = .ok (.getfield 48, 3) := by decide +kernel
theorem d_MD_makeTree_49 : decode b_MD_makeTree 49 = .ok (.bipush 40, 2) := by decide +kernel
theorem d_MD_makeTree_51 : decode b_MD_makeTree 51 = .ok (.iload_n 1, 1) := by decide +kernel
theorem d_MD_makeTree_52 : decode b_MD_makeTree 52 = .ok (.imul, 1) := by decide +kernel
theorem d_MD_makeTree_53 : decode b_MD_makeTree 53 = .ok (.iload_n 2, 1) := by decide +kernel
theorem d_MD_makeTree_54 : decode b_MD_makeTree 54 = .ok (.iadd, 1) := by decide +kernel
theorem d_MD_makeTree_55 : decode b_MD_makeTree 55 = .ok (.iload_n 3, 1) := by decide +kernel
theorem d_MD_makeTree_56 : decode b_MD_makeTree 56 = .ok (.bastore, 1) := by decide +kernel
theorem d_MD_makeTree_57 : decode b_MD_makeTree 57 = .ok (.aload_n 0, 1) := by decide +kernel
theorem d_MD_makeTree_58 : decode b_MD_makeTree 58 = .ok (.getfield 81, 3) := by decide +kernel
theorem d_MD_makeTree_61 : decode b_MD_makeTree 61 = .ok (.iload_n 2, 1) := by decide +kernel
theorem d_MD_makeTree_62 : decode b_MD_makeTree 62 = .ok (.iload_n 3, 1) := by decide +kernel
theorem d_MD_makeTree_63 : decode b_MD_makeTree 63 = .ok (.ifCond .eq 7, 3) := by decide +kernel
theorem d_MD_makeTree_66 : decode b_MD_makeTree 66 = .ok (.iconst 0, 1) := by decide +kernel
theorem d_MD_makeTree_67 : decode b_MD_makeTree 67 = .ok (.goto 4, 3) := by decide +kernel
theorem d_MD_makeTree_70 : decode b_MD_makeTree 70 = .ok (.iconst (-1), 1) := by decide +kernel
theorem d_MD_makeTree_71 : decode b_MD_makeTree 71 = .ok (.iastore, 1) := by decide +kernel
theorem d_MD_makeTree_72 : decode b_MD_makeTree 72 = .ok (.iinc 2 1, 3) := by decide +kernel
theorem d_MD_makeTree_75 : decode b_MD_makeTree 75 = .ok (.goto (-73), 3) := by decide +kernel
theorem d_MD_makeTree_78 : decode b_MD_makeTree 78 = .ok (.aload_n 0, 1) := by decide +kernel
theorem d_MD_makeTree_79 : decode b_MD_makeTree 79 = .ok (.getfield 51, 3) := by decide +kernel
theorem d_MD_makeTree_82 : decode b_MD_makeTree 82 = .ok (.iload_n 1, 1) := by decide +kernel
theorem d_MD_makeTree_83 : decode b_MD_makeTree 83 = .ok (.iconst 1, 1) := by decide +kernel
theorem d_MD_makeTree_84 : decode b_MD_makeTree 84 = .ok (.iastore, 1) := by decide +kernel
theorem d_MD_makeTree_85 : decode b_MD_makeTree 85 = .ok (.aload_n 0, 1) := by decide +kernel
theorem d_MD_makeTree_86 : decode b_MD_makeTree 86 = .ok (.iload_n 1, 1) := by decide +kernel
theorem d_MD_makeTree_87 : decode b_MD_makeTree 87 = .ok (.iconst 0, 1) := by decide +kernel
theorem d_MD_makeTree_88 : decode b_MD_makeTree 88 = .ok (.iconst 0, 1) := by decide +kernel
theorem d_MD_makeTree_89 : decode b_MD_makeTree 89 = .ok (.invokevirtual 155, 3) := by decide +kernel
theorem d_MD_makeTree_92 : decode b_MD_makeTree 92 = .ok (.iconst 0, 1) := by decide +kernel
theorem d_MD_makeTree_93 : decode b_MD_makeTree 93 = .ok (.istore_n 2, 1) := by decide +kernel
theorem d_MD_makeTree_94 : decode b_MD_makeTree 94 = .ok (.iload_n 2, 1) := by decide +kernel
theorem d_MD_makeTree_95 : decode b_MD_makeTree 95 = .ok (.aload_n 0, 1) := by decide +kernel
theorem d_MD_makeTree_96 : decode b_MD_makeTree 96 = .ok (.getfield 51, 3) := by decide +kernel
theorem d_MD_makeTree_99 : decode b_MD_makeTree 99 = .ok (.iload_n 1, 1) := by decide +kernel
theorem d_MD_makeTree_100 : decode b_MD_makeTree 100 = .ok (.iaload, 1) := by decide +kernel
theorem d_MD_makeTree_101 : decode b_MD_makeTree 101 = .ok (.if_icmp .ge 15, 3) := by decide +kernel
theorem d_MD_makeTree_104 : decode b_MD_makeTree 104 = .ok (.aload_n 0, 1) := by decide +kernel
theorem d_MD_makeTree_105 : decode b_MD_makeTree 105 = .ok (.iload_n 1, 1) := by decide +kernel
theorem d_MD_makeTree_106 : decode b_MD_makeTree 106 = .ok (.iload_n 2, 1) := by decide +kernel
theorem d_MD_makeTree_107 : decode b_MD_makeTree 107 = .ok (.invokevirtual 159, 3) := by decide +kernel
theorem d_MD_makeTree_110 : decode b_MD_makeTree 110 = .ok (.iinc 2 1, 3) := by decide +kernel
theorem d_MD_makeTree_113 : decode b_MD_makeTree 113 = .ok (.goto (-19), 3) := by decide +kernel
theorem d_MD_makeTree_116 : decode b_MD_makeTree 116 = .ok (.return_, 1) := by decide +kernel
theorem d_MD_layNode_0 : decode b_MD_layNode 0 = .ok (.bipush 32, 2) := by decide +kernel
theorem d_MD_layNode_2 : decode b_MD_layNode 2 = .ok (.iload_n 1, 1) := by decide +kernel
theorem d_MD_layNode_3 : decode b_MD_layNode 3 = .ok (.imul, 1) := by decide +kernel
theorem d_MD_layNode_4 : decode b_MD_layNode 4 = .ok (.iload_n 2, 1) := by decide +kernel
theorem d_MD_layNode_5 : decode b_MD_layNode 5 = .ok (.iadd, 1) := by decide +kernel
theorem d_MD_layNode_6 : decode b_MD_layNode 6 = .ok (.istore 4, 2) := by decide +kernel
theorem d_MD_layNode_8 : decode b_MD_layNode 8 = .ok (.aload_n 0, 1) := by decide +kernel
theorem d_MD_layNode_9 : decode b_MD_layNode 9 = .ok (.iload_n 2, 1) := by decide +kernel
theorem d_MD_layNode_10 : decode b_MD_layNode 10 = .ok (.iconst (-1), 1) := by decide +kernel
theorem d_MD_layNode_11 : decode b_MD_layNode 11 = .ok (.iconst 0, 1) := by decide +kernel
theorem d_MD_layNode_12 : decode b_MD_layNode 12 = .ok (.iconst 0, 1) := by decide +kernel
theorem d_MD_layNode_13 : decode b_MD_layNode 13 = .ok (.iconst 1, 1) := by decide +kernel
theorem d_MD_layNode_14 : decode b_MD_layNode 14 = .ok (.invokevirtual 163, 3) := by decide +kernel
theorem d_MD_layNode_17 : decode b_MD_layNode 17 = .ok (.aload_n 0, 1) := by decide +kernel
theorem d_MD_layNode_18 : decode b_MD_layNode 18 = .ok (.getfield 75, 3) := by decide +kernel
theorem d_MD_layNode_21 : decode b_MD_layNode 21 = .ok (.iload 4, 2) := by decide +kernel
theorem d_MD_layNode_23 : decode b_MD_layNode 23 = .ok (.aload_n 0, 1) := by decide +kernel
theorem d_MD_layNode_24 : decode b_MD_layNode 24 = .ok (.getfield 137, 3) := by decide +kernel
theorem d_MD_layNode_27 : decode b_MD_layNode 27 = .ok (.lastore, 1) := by decide +kernel
theorem d_MD_layNode_28 : decode b_MD_layNode 28 = .ok (.aload_n 0, 1) := by decide +kernel
theorem d_MD_layNode_29 : decode b_MD_layNode 29 = .ok (.getfield 69, 3) := by decide +kernel
theorem d_MD_layNode_32 : decode b_MD_layNode 32 = .ok (.iload 4, 2) := by decide +kernel
theorem d_MD_layNode_34 : decode b_MD_layNode 34 = .ok (.aload_n 0, 1) := by decide +kernel
theorem d_MD_layNode_35 : decode b_MD_layNode 35 = .ok (.getfield 141, 3) := by decide +kernel
theorem d_MD_layNode_38 : decode b_MD_layNode 38 = .ok (.iastore, 1) := by decide +kernel
theorem d_MD_layNode_39 : decode b_MD_layNode 39 = .ok (.aload_n 0, 1) := by decide +kernel
theorem d_MD_layNode_40 : decode b_MD_layNode 40 = .ok (.getfield 66, 3) := by decide +kernel
theorem d_MD_layNode_43 : decode b_MD_layNode 43 = .ok (.iload 4, 2) := by decide +kernel
theorem d_MD_layNode_45 : decode b_MD_layNode 45 = .ok (.aload_n 0, 1) := by decide +kernel
theorem d_MD_layNode_46 : decode b_MD_layNode 46 = .ok (.getfield 144, 3) := by decide +kernel
theorem d_MD_layNode_49 : decode b_MD_layNode 49 = .ok (.iastore, 1) := by decide +kernel
theorem d_MD_layNode_50 : decode b_MD_layNode 50 = .ok (.aload_n 0, 1) := by decide +kernel
theorem d_MD_layNode_51 : decode b_MD_layNode 51 = .ok (.getfield 72, 3) := by decide +kernel
theorem d_MD_layNode_54 : decode b_MD_layNode 54 = .ok (.iload 4, 2) := by decide +kernel
theorem d_MD_layNode_56 : decode b_MD_layNode 56 = .ok (.iload_n 3, 1) := by decide +kernel
theorem d_MD_layNode_57 : decode b_MD_layNode 57 = .ok (.iastore, 1) := by decide +kernel
theorem d_MD_layNode_58 : decode b_MD_layNode 58 = .ok (.aload_n 0, 1) := by decide +kernel
theorem d_MD_layNode_59 : decode b_MD_layNode 59 = .ok (.getfield 54, 3) := by decide +kernel
theorem d_MD_layNode_62 : decode b_MD_layNode 62 = .ok (.iload 4, 2) := by decide +kernel
theorem d_MD_layNode_64 : decode b_MD_layNode 64 = .ok (.iconst (-1), 1) := by decide +kernel
theorem d_MD_layNode_65 : decode b_MD_layNode 65 = .ok (.iastore, 1) := by decide +kernel
theorem d_MD_layNode_66 : decode b_MD_layNode 66 = .ok (.aload_n 0, 1) := by decide +kernel
theorem d_MD_layNode_67 : decode b_MD_layNode 67 = .ok (.getfield 57, 3) := by decide +kernel
theorem d_MD_layNode_70 : decode b_MD_layNode 70 = .ok (.iload 4, 2) := by decide +kernel
theorem d_MD_layNode_72 : decode b_MD_layNode 72 = .ok (.iconst (-1), 1) := by decide +kernel
theorem d_MD_layNode_73 : decode b_MD_layNode 73 = .ok (.iastore, 1) := by decide +kernel
theorem d_MD_layNode_74 : decode b_MD_layNode 74 = .ok (.aload_n 0, 1) := by decide +kernel
theorem d_MD_layNode_75 : decode b_MD_layNode 75 = .ok (.getfield 60, 3) := by decide +kernel
theorem d_MD_layNode_78 : decode b_MD_layNode 78 = .ok (.iload 4, 2) := by decide +kernel
theorem d_MD_layNode_80 : decode b_MD_layNode 80 = .ok (.iconst (-1), 1) := by decide +kernel
theorem d_MD_layNode_81 : decode b_MD_layNode 81 = .ok (.iastore, 1) := by decide +kernel
theorem d_MD_layNode_82 : decode b_MD_layNode 82 = .ok (.aload_n 0, 1) := by decide +kernel
theorem d_MD_layNode_83 : decode b_MD_layNode 83 = .ok (.getfield 63, 3) := by decide +kernel
theorem d_MD_layNode_86 : decode b_MD_layNode 86 = .ok (.iload 4, 2) := by decide +kernel
theorem d_MD_layNode_88 : decode b_MD_layNode 88 = .ok (.iconst (-1), 1) := by decide +kernel
theorem d_MD_layNode_89 : decode b_MD_layNode 89 = .ok (.iastore, 1) := by decide +kernel
theorem d_MD_layNode_90 : decode b_MD_layNode 90 = .ok (.aload_n 0, 1) := by decide +kernel
theorem d_MD_layNode_91 : decode b_MD_layNode 91 = .ok (.getfield 78, 3) := by decide +kernel
theorem d_MD_layNode_94 : decode b_MD_layNode 94 = .ok (.iload 4, 2) := by decide +kernel
theorem d_MD_layNode_96 : decode b_MD_layNode 96 = .ok (.lconst 0, 1) := by decide +kernel
theorem d_MD_layNode_97 : decode b_MD_layNode 97 = .ok (.lastore, 1) := by decide +kernel
theorem d_MD_layNode_98 : decode b_MD_layNode 98 = .ok (.return_, 1) := by decide +kernel
theorem d_MD_isCut_0 : decode b_MD_isCut 0 = .ok (.iconst 0, 1) := by decide +kernel
theorem d_MD_isCut_1 : decode b_MD_isCut 1 = .ok (.istore 4, 2) := by decide +kernel
theorem d_MD_isCut_3 : decode b_MD_isCut 3 = .ok (.iconst 0, 1) := by decide +kernel
theorem d_MD_isCut_4 : decode b_MD_isCut 4 = .ok (.istore 5, 2) := by decide +kernel
theorem d_MD_isCut_6 : decode b_MD_isCut 6 = .ok (.iconst 0, 1) := by decide +kernel
theorem d_MD_isCut_7 : decode b_MD_isCut 7 = .ok (.istore 6, 2) := by decide +kernel
theorem d_MD_isCut_9 : decode b_MD_isCut 9 = .ok (.iload 6, 2) := by decide +kernel
theorem d_MD_isCut_11 : decode b_MD_isCut 11 = .ok (.aload_n 0, 1) := by decide +kernel
theorem d_MD_isCut_12 : decode b_MD_isCut 12 = .ok (.getfield 115, 3) := by decide +kernel
theorem d_MD_isCut_15 : decode b_MD_isCut 15 = .ok (.if_icmp .ge 69, 3) := by decide +kernel
theorem d_MD_isCut_18 : decode b_MD_isCut 18 = .ok (.aload_n 0, 1) := by decide +kernel
theorem d_MD_isCut_19 : decode b_MD_isCut 19 = .ok (.getfield 81, 3) := by decide +kernel
theorem d_MD_isCut_22 : decode b_MD_isCut 22 = .ok (.iload 6, 2) := by decide +kernel
theorem d_MD_isCut_24 : decode b_MD_isCut 24 = .ok (.iaload, 1) := by decide +kernel
theorem d_MD_isCut_25 : decode b_MD_isCut 25 = .ok (.iload_n 1, 1) := by decide +kernel
theorem d_MD_isCut_26 : decode b_MD_isCut 26 = .ok (.if_icmp .ne 52, 3) := by decide +kernel
theorem d_MD_isCut_29 : decode b_MD_isCut 29 = .ok (.aload_n 0, 1) := by decide +kernel
theorem d_MD_isCut_30 : decode b_MD_isCut 30 = .ok (.getfield 26, 3) := by decide +kernel
theorem d_MD_isCut_33 : decode b_MD_isCut 33 = .ok (.iconst 4, 1) := by decide +kernel
theorem d_MD_isCut_34 : decode b_MD_isCut 34 = .ok (.iload 6, 2) := by decide +kernel
theorem d_MD_isCut_36 : decode b_MD_isCut 36 = .ok (.imul, 1) := by decide +kernel
theorem d_MD_isCut_37 : decode b_MD_isCut 37 = .ok (.iload_n 2, 1) := by decide +kernel
theorem d_MD_isCut_38 : decode b_MD_isCut 38 = .ok (.iadd, 1) := by decide +kernel
theorem d_MD_isCut_39 : decode b_MD_isCut 39 = .ok (.iaload, 1) := by decide +kernel
theorem d_MD_isCut_40 : decode b_MD_isCut 40 = .ok (.istore 7, 2) := by decide +kernel
theorem d_MD_isCut_42 : decode b_MD_isCut 42 = .ok (.iload 4, 2) := by decide +kernel
theorem d_MD_isCut_44 : decode b_MD_isCut 44 = .ok (.ifCond .ne 9, 3) := by decide +kernel
theorem d_MD_isCut_47 : decode b_MD_isCut 47 = .ok (.iload 7, 2) := by decide +kernel
theorem d_MD_isCut_49 : decode b_MD_isCut 49 = .ok (.iload_n 3, 1) := by decide +kernel
theorem d_MD_isCut_50 : decode b_MD_isCut 50 = .ok (.if_icmp .ne 7, 3) := by decide +kernel
theorem d_MD_isCut_53 : decode b_MD_isCut 53 = .ok (.iconst 1, 1) := by decide +kernel
theorem d_MD_isCut_54 : decode b_MD_isCut 54 = .ok (.goto 4, 3) := by decide +kernel
theorem d_MD_isCut_57 : decode b_MD_isCut 57 = .ok (.iconst 0, 1) := by decide +kernel
theorem d_MD_isCut_58 : decode b_MD_isCut 58 = .ok (.istore 4, 2) := by decide +kernel
theorem d_MD_isCut_60 : decode b_MD_isCut 60 = .ok (.iload 5, 2) := by decide +kernel
theorem d_MD_isCut_62 : decode b_MD_isCut 62 = .ok (.ifCond .ne 9, 3) := by decide +kernel
theorem d_MD_isCut_65 : decode b_MD_isCut 65 = .ok (.iload 7, 2) := by decide +kernel
theorem d_MD_isCut_67 : decode b_MD_isCut 67 = .ok (.iload_n 3, 1) := by decide +kernel
theorem d_MD_isCut_68 : decode b_MD_isCut 68 = .ok (.if_icmp .le 7, 3) := by decide +kernel
theorem d_MD_isCut_71 : decode b_MD_isCut 71 = .ok (.iconst 1, 1) := by decide +kernel
theorem d_MD_isCut_72 : decode b_MD_isCut 72 = .ok (.goto 4, 3) := by decide +kernel
theorem d_MD_isCut_75 : decode b_MD_isCut 75 = .ok (.iconst 0, 1) := by decide +kernel
theorem d_MD_isCut_76 : decode b_MD_isCut 76 = .ok (.istore 5, 2) := by decide +kernel
theorem d_MD_isCut_78 : decode b_MD_isCut 78 = .ok (.iinc 6 1, 3) := by decide +kernel
theorem d_MD_isCut_81 : decode b_MD_isCut 81 = .ok (.goto (-72), 3) := by decide +kernel
theorem d_MD_isCut_84 : decode b_MD_isCut 84 = .ok (.iload 4, 2) := by decide +kernel
theorem d_MD_isCut_86 : decode b_MD_isCut 86 = .ok (.ifCond .eq 12, 3) := by decide +kernel
theorem d_MD_isCut_89 : decode b_MD_isCut 89 = .ok (.iload 5, 2) := by decide +kernel
theorem d_MD_isCut_91 : decode b_MD_isCut 91 = .ok (.ifCond .eq 7, 3) := by decide +kernel
theorem d_MD_isCut_94 : decode b_MD_isCut 94 = .ok (.iconst 1, 1) := by decide +kernel
theorem d_MD_isCut_95 : decode b_MD_isCut 95 = .ok (.goto 4, 3) := by decide +kernel
theorem d_MD_isCut_98 : decode b_MD_isCut 98 = .ok (.iconst 0, 1) := by decide +kernel
theorem d_MD_isCut_99 : decode b_MD_isCut 99 = .ok (.ireturn, 1) := by decide +kernel
theorem d_MD_split_0 : decode b_MD_split 0 = .ok (.bipush 32, 2) := by decide +kernel
theorem d_MD_split_2 : decode b_MD_split 2 = .ok (.iload_n 1, 1) := by decide +kernel
theorem d_MD_split_3 : decode b_MD_split 3 = .ok (.imul, 1) := by decide +kernel
theorem d_MD_split_4 : decode b_MD_split 4 = .ok (.iload_n 2, 1) := by decide +kernel
theorem d_MD_split_5 : decode b_MD_split 5 = .ok (.iadd, 1) := by decide +kernel
theorem d_MD_split_6 : decode b_MD_split 6 = .ok (.istore_n 3, 1) := by decide +kernel
theorem d_MD_split_7 : decode b_MD_split 7 = .ok (.aload_n 0, 1) := by decide +kernel
theorem d_MD_split_8 : decode b_MD_split 8 = .ok (.getfield 38, 3) := by decide +kernel
theorem d_MD_split_11 : decode b_MD_split 11 = .ok (.iconst 5, 1) := by decide +kernel
theorem d_MD_split_12 : decode b_MD_split 12 = .ok (.iaload, 1) := by decide +kernel
theorem d_MD_split_13 : decode b_MD_split 13 = .ok (.i2l, 1) := by decide +kernel
theorem d_MD_split_14 : decode b_MD_split 14 = .ok (.lstore 4, 2) := by decide +kernel
theorem d_MD_split_16 : decode b_MD_split 16 = .ok (.aload_n 0, 1) := by decide +kernel
theorem d_MD_split_17 : decode b_MD_split 17 = .ok (.getfield 72, 3) := by decide +kernel
theorem d_MD_split_20 : decode b_MD_split 20 = .ok (.iload_n 3, 1) := by decide +kernel
theorem d_MD_split_21 : decode b_MD_split 21 = .ok (.iaload, 1) := by decide +kernel
theorem d_MD_split_22 : decode b_MD_split 22 = .ok (.aload_n 0, 1) := by decide +kernel
theorem d_MD_split_23 : decode b_MD_split 23 = .ok (.getfield 38, 3) := by decide +kernel
theorem d_MD_split_26 : decode b_MD_split 26 = .ok (.iconst 0, 1) := by decide +kernel
theorem d_MD_split_27 : decode b_MD_split 27 = .ok (.iaload, 1) := by decide +kernel
theorem d_MD_split_28 : decode b_MD_split 28 = .ok (.if_icmp .ne 4, 3) := by decide +kernel
theorem d_MD_split_31 : decode b_MD_split 31 = .ok (.return_, 1) := by decide +kernel
theorem d_MD_split_32 : decode b_MD_split 32 = .ok (.iconst 0, 1) := by decide +kernel
theorem d_MD_split_33 : decode b_MD_split 33 = .ok (.istore 6, 2) := by decide +kernel
theorem d_MD_split_35 : decode b_MD_split 35 = .ok (.iload 6, 2) := by decide +kernel
theorem d_MD_split_37 : decode b_MD_split 37 = .ok (.iconst 4, 1) := by decide +kernel
theorem d_MD_split_38 : decode b_MD_split 38 = .ok (.if_icmp .ge 133, 3) := by decide +kernel
theorem d_MD_split_41 : decode b_MD_split 41 = .ok (.aload_n 0, 1) := by decide +kernel
theorem d_MD_split_42 : decode b_MD_split 42 = .ok (.ldc 167, 2) := by decide +kernel
theorem d_MD_split_44 : decode b_MD_split 44 = .ok (.iconst 4, 1) := by decide +kernel
theorem d_MD_split_45 : decode b_MD_split 45 = .ok (.iload_n 1, 1) := by decide +kernel
theorem d_MD_split_46 : decode b_MD_split 46 = .ok (.imul, 1) := by decide +kernel
theorem d_MD_split_47 : decode b_MD_split 47 = .ok (.iadd, 1) := by decide +kernel
theorem d_MD_split_48 : decode b_MD_split 48 = .ok (.iload 6, 2) := by decide +kernel
theorem d_MD_split_50 : decode b_MD_split 50 = .ok (.iadd, 1) := by decide +kernel
theorem d_MD_split_51 : decode b_MD_split 51 = .ok (.invokevirtual 151, 3) := by decide +kernel
theorem d_MD_split_54 : decode b_MD_split 54 = .ok (.aload_n 0, 1) := by decide +kernel
theorem d_MD_split_55 : decode b_MD_split 55 = .ok (.getfield 38, 3) := by decide +kernel
theorem d_MD_split_58 : decode b_MD_split 58 = .ok (.bipush 7, 2) := by decide +kernel
theorem d_MD_split_60 : decode b_MD_split 60 = .ok (.iaload, 1) := by decide +kernel
theorem d_MD_split_61 : decode b_MD_split 61 = .ok (.if_icmp .ge 104, 3) := by decide +kernel
theorem d_MD_split_64 : decode b_MD_split 64 = .ok (.iconst 0, 1) := by decide +kernel
theorem d_MD_split_65 : decode b_MD_split 65 = .ok (.istore 7, 2) := by decide +kernel
theorem d_MD_split_67 : decode b_MD_split 67 = .ok (.iload 7, 2) := by decide +kernel
theorem d_MD_split_69 : decode b_MD_split 69 = .ok (.bipush 32, 2) := by decide +kernel
theorem d_MD_split_71 : decode b_MD_split 71 = .ok (.if_icmp .ge 94, 3) := by decide +kernel
theorem d_MD_split_74 : decode b_MD_split 74 = .ok (.iconst 0, 1) := by decide +kernel
theorem d_MD_split_75 : decode b_MD_split 75 = .ok (.istore 8, 2) := by decide +kernel
theorem d_MD_split_77 : decode b_MD_split 77 = .ok (.iload 8, 2) := by decide +kernel
theorem d_MD_split_79 : decode b_MD_split 79 = .ok (.iconst 2, 1) := by decide +kernel
theorem d_MD_split_80 : decode b_MD_split 80 = .ok (.if_icmp .ge 79, 3) := by decide +kernel
theorem d_MD_split_83 : decode b_MD_split 83 = .ok (.aload_n 0, 1) := by decide +kernel
theorem d_MD_split_84 : decode b_MD_split 84 = .ok (.iload_n 2, 1) := by decide +kernel
theorem d_MD_split_85 : decode b_MD_split 85 = .ok (.iload 6, 2) := by decide +kernel
theorem d_MD_split_87 : decode b_MD_split 87 = .ok (.iload 7, 2) := by decide +kernel
theorem d_MD_split_89 : decode b_MD_split 89 = .ok (.invokevirtual 168, 3) := by decide +kernel
theorem d_MD_split_92 : decode b_MD_split 92 = .ok (.ifCond .eq 67, 3) := by decide +kernel
theorem d_MD_split_95 : decode b_MD_split 95 = .ok (.aload_n 0, 1) := by decide +kernel
theorem d_MD_split_96 : decode b_MD_split 96 = .ok (.iload_n 3, 1) := by decide +kernel
theorem d_MD_split_97 : decode b_MD_split 97 = .ok (.iload_n 2, 1) := by decide +kernel
theorem d_MD_split_98 : decode b_MD_split 98 = .ok (.iload 6, 2) := by decide +kernel
theorem d_MD_split_100 : decode b_MD_split 100 = .ok (.iload 7, 2) := by decide +kernel
theorem d_MD_split_102 : decode b_MD_split 102 = .ok (.iload 8, 2) := by decide +kernel
theorem d_MD_split_104 : decode b_MD_split 104 = .ok (.invokevirtual 171, 3) := by decide +kernel
theorem d_MD_split_107 : decode b_MD_split 107 = .ok (.lstore 9, 2) := by decide +kernel
theorem d_MD_split_109 : decode b_MD_split 109 = .ok (.lload 9, 2) := by decide +kernel
theorem d_MD_split_111 : decode b_MD_split 111 = .ok (.lload 4, 2) := by decide +kernel
theorem d_MD_split_113 : decode b_MD_split 113 = .ok (.lcmp, 1) := by decide +kernel
theorem d_MD_split_114 : decode b_MD_split 114 = .ok (.ifCond .le 39, 3) := by decide +kernel
theorem d_MD_split_117 : decode b_MD_split 117 = .ok (.lload 9, 2) := by decide +kernel
theorem d_MD_split_119 : decode b_MD_split 119 = .ok (.lstore 4, 2) := by decide +kernel
theorem d_MD_split_121 : decode b_MD_split 121 = .ok (.aload_n 0, 1) := by decide +kernel
theorem d_MD_split_122 : decode b_MD_split 122 = .ok (.getfield 54, 3) := by decide +kernel
theorem d_MD_split_125 : decode b_MD_split 125 = .ok (.iload_n 3, 1) := by decide +kernel
theorem d_MD_split_126 : decode b_MD_split 126 = .ok (.iload 6, 2) := by decide +kernel
theorem d_MD_split_128 : decode b_MD_split 128 = .ok (.iastore, 1) := by decide +kernel
theorem d_MD_split_129 : decode b_MD_split 129 = .ok (.aload_n 0, 1) := by decide +kernel
theorem d_MD_split_130 : decode b_MD_split 130 = .ok (.getfield 57, 3) := by decide +kernel
theorem d_MD_split_133 : decode b_MD_split 133 = .ok (.iload_n 3, 1) := by decide +kernel
theorem d_MD_split_134 : decode b_MD_split 134 = .ok (.iload 7, 2) := by decide +kernel
theorem d_MD_split_136 : decode b_MD_split 136 = .ok (.iastore, 1) := by decide +kernel
theorem d_MD_split_137 : decode b_MD_split 137 = .ok (.aload_n 0, 1) := by decide +kernel
theorem d_MD_split_138 : decode b_MD_split 138 = .ok (.getfield 60, 3) := by decide +kernel
theorem d_MD_split_141 : decode b_MD_split 141 = .ok (.iload_n 3, 1) := by decide +kernel
theorem d_MD_split_142 : decode b_MD_split 142 = .ok (.iload 8, 2) := by decide +kernel
theorem d_MD_split_144 : decode b_MD_split 144 = .ok (.iastore, 1) := by decide +kernel
theorem d_MD_split_145 : decode b_MD_split 145 = .ok (.aload_n 0, 1) := by decide +kernel
theorem d_MD_split_146 : decode b_MD_split 146 = .ok (.getfield 78, 3) := by decide +kernel
theorem d_MD_split_149 : decode b_MD_split 149 = .ok (.iload_n 3, 1) := by decide +kernel
theorem d_MD_split_150 : decode b_MD_split 150 = .ok (.lload 9, 2) := by decide +kernel
theorem d_MD_split_152 : decode b_MD_split 152 = .ok (.lastore, 1) := by decide +kernel
theorem d_MD_split_153 : decode b_MD_split 153 = .ok (.iinc 8 1, 3) := by decide +kernel
theorem d_MD_split_156 : decode b_MD_split 156 = .ok (.goto (-79), 3) := by decide +kernel
theorem d_MD_split_159 : decode b_MD_split 159 = .ok (.iinc 7 1, 3) := by decide +kernel
theorem d_MD_split_162 : decode b_MD_split 162 = .ok (.goto (-95), 3) := by decide +kernel
theorem d_MD_split_165 : decode b_MD_split 165 = .ok (.iinc 6 1, 3) := by decide +kernel
theorem d_MD_split_168 : decode b_MD_split 168 = .ok (.goto (-133), 3) := by decide +kernel
theorem d_MD_split_171 : decode b_MD_split 171 = .ok (.aload_n 0, 1) := by decide +kernel
theorem d_MD_split_172 : decode b_MD_split 172 = .ok (.getfield 54, 3) := by decide +kernel
theorem d_MD_split_175 : decode b_MD_split 175 = .ok (.iload_n 3, 1) := by decide +kernel
theorem d_MD_split_176 : decode b_MD_split 176 = .ok (.iaload, 1) := by decide +kernel
theorem d_MD_split_177 : decode b_MD_split 177 = .ok (.ifCond .ge 4, 3) := by decide +kernel
theorem d_MD_split_180 : decode b_MD_split 180 = .ok (.return_, 1) := by decide +kernel
theorem d_MD_split_181 : decode b_MD_split 181 = .ok (.aload_n 0, 1) := by decide +kernel
theorem d_MD_split_182 : decode b_MD_split 182 = .ok (.getfield 51, 3) := by decide +kernel
theorem d_MD_split_185 : decode b_MD_split 185 = .ok (.iload_n 1, 1) := by decide +kernel
theorem d_MD_split_186 : decode b_MD_split 186 = .ok (.iaload, 1) := by decide +kernel
theorem d_MD_split_187 : decode b_MD_split 187 = .ok (.istore 6, 2) := by decide +kernel
theorem d_MD_split_189 : decode b_MD_split 189 = .ok (.aload_n 0, 1) := by decide +kernel
theorem d_MD_split_190 : decode b_MD_split 190 = .ok (.getfield 63, 3) := by decide +kernel
theorem d_MD_split_193 : decode b_MD_split 193 = .ok (.iload_n 3, 1) := by decide +kernel
theorem d_MD_split_194 : decode b_MD_split 194 = .ok (.iload 6, 2) := by decide +kernel
theorem d_MD_split_196 : decode b_MD_split 196 = .ok (.iastore, 1) := by decide +kernel
theorem d_MD_split_197 : decode b_MD_split 197 = .ok (.aload_n 0, 1) := by decide +kernel
theorem d_MD_split_198 : decode b_MD_split 198 = .ok (.getfield 51, 3) := by decide +kernel
theorem d_MD_split_201 : decode b_MD_split 201 = .ok (.iload_n 1, 1) := by decide +kernel
theorem d_MD_split_202 : decode b_MD_split 202 = .ok (.dup2, 1) := by decide +kernel
theorem d_MD_split_203 : decode b_MD_split 203 = .ok (.iaload, 1) := by decide +kernel
theorem d_MD_split_204 : decode b_MD_split 204 = .ok (.iconst 2, 1) := by decide +kernel
theorem d_MD_split_205 : decode b_MD_split 205 = .ok (.iadd, 1) := by decide +kernel
theorem d_MD_split_206 : decode b_MD_split 206 = .ok (.iastore, 1) := by decide +kernel
theorem d_MD_split_207 : decode b_MD_split 207 = .ok (.iconst 0, 1) := by decide +kernel
theorem d_MD_split_208 : decode b_MD_split 208 = .ok (.istore 7, 2) := by decide +kernel
theorem d_MD_split_210 : decode b_MD_split 210 = .ok (.iload 7, 2) := by decide +kernel
theorem d_MD_split_212 : decode b_MD_split 212 = .ok (.aload_n 0, 1) := by decide +kernel
theorem d_MD_split_213 : decode b_MD_split 213 = .ok (.getfield 115, 3) := by decide +kernel
theorem d_MD_split_216 : decode b_MD_split 216 = .ok (.if_icmp .ge 70, 3) := by decide +kernel
theorem d_MD_split_219 : decode b_MD_split 219 = .ok (.aload_n 0, 1) := by decide +kernel
theorem d_MD_split_220 : decode b_MD_split 220 = .ok (.getfield 81, 3) := by decide +kernel
theorem d_MD_split_223 : decode b_MD_split 223 = .ok (.iload 7, 2) := by decide +kernel
theorem d_MD_split_225 : decode b_MD_split 225 = .ok (.iaload, 1) := by decide +kernel
theorem d_MD_split_226 : decode b_MD_split 226 = .ok (.iload_n 2, 1) := by decide +kernel
theorem d_MD_split_227 : decode b_MD_split 227 = .ok (.if_icmp .ne 53, 3) := by decide +kernel
theorem d_MD_split_230 : decode b_MD_split 230 = .ok (.aload_n 0, 1) := by decide +kernel
theorem d_MD_split_231 : decode b_MD_split 231 = .ok (.getfield 81, 3) := by decide +kernel
theorem d_MD_split_234 : decode b_MD_split 234 = .ok (.iload 7, 2) := by decide +kernel
theorem d_MD_split_236 : decode b_MD_split 236 = .ok (.aload_n 0, 1) := by decide +kernel
theorem d_MD_split_237 : decode b_MD_split 237 = .ok (.getfield 26, 3) := by decide +kernel
theorem d_MD_split_240 : decode b_MD_split 240 = .ok (.iconst 4, 1) := by decide +kernel
theorem d_MD_split_241 : decode b_MD_split 241 = .ok (.iload 7, 2) := by decide +kernel
theorem d_MD_split_243 : decode b_MD_split 243 = .ok (.imul, 1) := by decide +kernel
theorem d_MD_split_244 : decode b_MD_split 244 = .ok (.aload_n 0, 1) := by decide +kernel
theorem d_MD_split_245 : decode b_MD_split 245 = .ok (.getfield 54, 3) := by decide +kernel
theorem d_MD_split_248 : decode b_MD_split 248 = .ok (.iload_n 3, 1) := by decide +kernel
theorem d_MD_split_249 : decode b_MD_split 249 = .ok (.iaload, 1) := by decide +kernel
theorem d_MD_split_250 : decode b_MD_split 250 = .ok (.iadd, 1) := by decide +kernel
theorem d_MD_split_251 : decode b_MD_split 251 = .ok (.iaload, 1) := by decide +kernel
theorem d_MD_split_252 : decode b_MD_split 252 = .ok (.aload_n 0, 1) := by decide +kernel
theorem d_MD_split_253 : decode b_MD_split 253 = .ok (.getfield 57, 3) := by decide +kernel
theorem d_MD_split_256 : decode b_MD_split 256 = .ok (.iload_n 3, 1) := by decide +kernel
theorem d_MD_split_257 : decode b_MD_split 257 = .ok (.iaload, 1) := by decide +kernel
theorem d_MD_split_258 : decode b_MD_split 258 = .ok (.aload_n 0, 1) := by decide +kernel
theorem d_MD_split_259 : decode b_MD_split 259 = .ok (.getfield 60, 3) := by decide +kernel
theorem d_MD_split_262 : decode b_MD_split 262 = .ok (.iload_n 3, 1) := by decide +kernel
theorem d_MD_split_263 : decode b_MD_split 263 = .ok (.iaload, 1) := by decide +kernel
theorem d_MD_split_264 : decode b_MD_split 264 = .ok (.invokestatic 147, 3) := by decide +kernel
theorem d_MD_split_267 : decode b_MD_split 267 = .ok (.ifCond .eq 8, 3) := by decide +kernel
theorem d_MD_split_270 : decode b_MD_split 270 = .ok (.iload 6, 2) := by decide +kernel
theorem d_MD_split_272 : decode b_MD_split 272 = .ok (.goto 7, 3) := by decide +kernel
theorem d_MD_split_275 : decode b_MD_split 275 = .ok (.iload 6, 2) := by decide +kernel
theorem d_MD_split_277 : decode b_MD_split 277 = .ok (.iconst 1, 1) := by decide +kernel
theorem d_MD_split_278 : decode b_MD_split 278 = .ok (.iadd, 1) := by decide +kernel
theorem d_MD_split_279 : decode b_MD_split 279 = .ok (.iastore, 1) := by decide +kernel
theorem d_MD_split_280 : decode b_MD_split 280 = .ok (.iinc 7 1, 3) := by decide +kernel
theorem d_MD_split_283 : decode b_MD_split 283 = .ok (.goto (-73), 3) := by decide +kernel
theorem d_MD_split_286 : decode b_MD_split 286 = .ok (.aload_n 0, 1) := by decide +kernel
theorem d_MD_split_287 : decode b_MD_split 287 = .ok (.iload_n 1, 1) := by decide +kernel
theorem d_MD_split_288 : decode b_MD_split 288 = .ok (.iload 6, 2) := by decide +kernel
theorem d_MD_split_290 : decode b_MD_split 290 = .ok (.aload_n 0, 1) := by decide +kernel
theorem d_MD_split_291 : decode b_MD_split 291 = .ok (.getfield 72, 3) := by decide +kernel
theorem d_MD_split_294 : decode b_MD_split 294 = .ok (.iload_n 3, 1) := by decide +kernel
theorem d_MD_split_295 : decode b_MD_split 295 = .ok (.iaload, 1) := by decide +kernel
theorem d_MD_split_296 : decode b_MD_split 296 = .ok (.iconst 1, 1) := by decide +kernel
theorem d_MD_split_297 : decode b_MD_split 297 = .ok (.iadd, 1) := by decide +kernel
theorem d_MD_split_298 : decode b_MD_split 298 = .ok (.invokevirtual 155, 3) := by decide +kernel
theorem d_MD_split_301 : decode b_MD_split 301 = .ok (.aload_n 0, 1) := by decide +kernel
theorem d_MD_split_302 : decode b_MD_split 302 = .ok (.iload_n 1, 1) := by decide +kernel
theorem d_MD_split_303 : decode b_MD_split 303 = .ok (.iload 6, 2) := by decide +kernel
theorem d_MD_split_305 : decode b_MD_split 305 = .ok (.iconst 1, 1) := by decide +kernel
theorem d_MD_split_306 : decode b_MD_split 306 = .ok (.iadd, 1) := by decide +kernel
theorem d_MD_split_307 : decode b_MD_split 307 = .ok (.aload_n 0, 1) := by decide +kernel
theorem d_MD_split_308 : decode b_MD_split 308 = .ok (.getfield 72, 3) := by decide +kernel
theorem d_MD_split_311 : decode b_MD_split 311 = .ok (.iload_n 3, 1) := by decide +kernel
theorem d_MD_split_312 : decode b_MD_split 312 = .ok (.iaload, 1) := by decide +kernel
theorem d_MD_split_313 : decode b_MD_split 313 = .ok (.iconst 1, 1) := by decide +kernel
theorem d_MD_split_314 : decode b_MD_split 314 = .ok (.iadd, 1) := by decide +kernel
theorem d_MD_split_315 : decode b_MD_split 315 = .ok (.invokevirtual 155, 3) := by decide +kernel
theorem d_MD_split_318 : decode b_MD_split 318 = .ok (.return_, 1) := by decide +kernel
theorem d_MD_difference_0 : decode b_MD_difference 0 = .ok (.aload_n 0, 1) := by decide +kernel
theorem d_MD_difference_1 : decode b_MD_difference 1 = .ok (.iload_n 2, 1) := by decide +kernel
theorem d_MD_difference_2 : decode b_MD_difference 2 = .ok (.iload_n 3, 1) := by decide +kernel
theorem d_MD_difference_3 : decode b_MD_difference 3 = .ok (.iload 4, 2) := by decide +kernel
theorem d_MD_difference_5 : decode b_MD_difference 5 = .ok (.iload 5, 2) := by decide +kernel
theorem d_MD_difference_7 : decode b_MD_difference 7 = .ok (.iconst 1, 1) := by decide +kernel
theorem d_MD_difference_8 : decode b_MD_difference 8 = .ok (.invokevirtual 163, 3) := by decide +kernel
theorem d_MD_difference_11 : decode b_MD_difference 11 = .ok (.aload_n 0, 1) := by decide +kernel
theorem d_MD_difference_12 : decode b_MD_difference 12 = .ok (.getfield 137, 3) := by decide +kernel
theorem d_MD_difference_15 : decode b_MD_difference 15 = .ok (.lstore 6, 2) := by decide +kernel
theorem d_MD_difference_17 : decode b_MD_difference 17 = .ok (.aload_n 0, 1) := by decide +kernel
theorem d_MD_difference_18 : decode b_MD_difference 18 = .ok (.getfield 141, 3) := by decide +kernel
theorem d_MD_difference_21 : decode b_MD_difference 21 = .ok (.istore 8, 2) := by decide +kernel
theorem d_MD_difference_23 : decode b_MD_difference 23 = .ok (.aload_n 0, 1) := by decide +kernel
theorem d_MD_difference_24 : decode b_MD_difference 24 = .ok (.getfield 144, 3) := by decide +kernel
theorem d_MD_difference_27 : decode b_MD_difference 27 = .ok (.istore 9, 2) := by decide +kernel
theorem d_MD_difference_29 : decode b_MD_difference 29 = .ok (.aload_n 0, 1) := by decide +kernel
theorem d_MD_difference_30 : decode b_MD_difference 30 = .ok (.iload_n 2, 1) := by decide +kernel
theorem d_MD_difference_31 : decode b_MD_difference 31 = .ok (.iload_n 3, 1) := by decide +kernel
theorem d_MD_difference_32 : decode b_MD_difference 32 = .ok (.iload 4, 2) := by decide +kernel
theorem d_MD_difference_34 : decode b_MD_difference 34 = .ok (.iload 5, 2) := by decide +kernel
theorem d_MD_difference_36 : decode b_MD_difference 36 = .ok (.iconst 0, 1) := by decide +kernel
theorem d_MD_difference_37 : decode b_MD_difference 37 = .ok (.invokevirtual 163, 3) := by decide +kernel
theorem d_MD_difference_40 : decode b_MD_difference 40 = .ok (.iload 9, 2) := by decide +kernel
theorem d_MD_difference_42 : decode b_MD_difference 42 = .ok (.aload_n 0, 1) := by decide +kernel
theorem d_MD_difference_43 : decode b_MD_difference 43 = .ok (.getfield 38, 3) := by decide +kernel
theorem d_MD_difference_46 : decode b_MD_difference 46 = .ok (.iconst 1, 1) := by decide +kernel
theorem d_MD_difference_47 : decode b_MD_difference 47 = .ok (.iaload, 1) := by decide +kernel
theorem d_MD_difference_48 : decode b_MD_difference 48 = .ok (.if_icmp .lt 16, 3) := by decide +kernel
theorem d_MD_difference_51 : decode b_MD_difference 51 = .ok (.aload_n 0, 1) := by decide +kernel
theorem d_MD_difference_52 : decode b_MD_difference 52 = .ok (.getfield 144, 3) := by decide +kernel
theorem d_MD_difference_55 : decode b_MD_difference 55 = .ok (.aload_n 0, 1) := by decide +kernel
theorem d_MD_difference_56 : decode b_MD_difference 56 = .ok (.getfield 38, 3) := by decide +kernel
theorem d_MD_difference_59 : decode b_MD_difference 59 = .ok (.iconst 1, 1) := by decide +kernel
theorem d_MD_difference_60 : decode b_MD_difference 60 = .ok (.iaload, 1) := by decide +kernel
theorem d_MD_difference_61 : decode b_MD_difference 61 = .ok (.if_icmp .ge 7, 3) := by decide +kernel
theorem d_MD_difference_64 : decode b_MD_difference 64 = .ok (.ldc2_w 175, 3) := by decide +kernel
theorem d_MD_difference_67 : decode b_MD_difference 67 = .ok (.lreturn, 1) := by decide +kernel
theorem d_MD_difference_68 : decode b_MD_difference 68 = .ok (.aload_n 0, 1) := by decide +kernel
theorem d_MD_difference_69 : decode b_MD_difference 69 = .ok (.lload 6, 2) := by decide +kernel
theorem d_MD_difference_71 : decode b_MD_difference 71 = .ok (.iload 8, 2) := by decide +kernel
theorem d_MD_difference_73 : decode b_MD_difference 73 = .ok (.invokevirtual 177, 3) := by decide +kernel
theorem d_MD_difference_76 : decode b_MD_difference 76 = .ok (.lstore 10, 2) := by decide +kernel
theorem d_MD_difference_78 : decode b_MD_difference 78 = .ok (.aload_n 0, 1) := by decide +kernel
theorem d_MD_difference_79 : decode b_MD_difference 79 = .ok (.aload_n 0, 1) := by decide +kernel
theorem d_MD_difference_80 : decode b_MD_difference 80 = .ok (.getfield 137, 3) := by decide +kernel
theorem d_MD_difference_83 : decode b_MD_difference 83 = .ok (.aload_n 0, 1) := by decide +kernel
theorem d_MD_difference_84 : decode b_MD_difference 84 = .ok (.getfield 141, 3) := by decide +kernel
theorem d_MD_difference_87 : decode b_MD_difference 87 = .ok (.invokevirtual 177, 3) := by decide +kernel
theorem d_MD_difference_90 : decode b_MD_difference 90 = .ok (.lstore 12, 2) := by decide +kernel
theorem d_MD_difference_92 : decode b_MD_difference 92 = .ok (.aload_n 0, 1) := by decide +kernel
theorem d_MD_difference_93 : decode b_MD_difference 93 = .ok (.getfield 38, 3) := by decide +kernel
theorem d_MD_difference_96 : decode b_MD_difference 96 = .ok (.bipush 11, 2) := by decide +kernel
theorem d_MD_difference_98 : decode b_MD_difference 98 = .ok (.iload_n 3, 1) := by decide +kernel
theorem d_MD_difference_99 : decode b_MD_difference 99 = .ok (.iadd, 1) := by decide +kernel
theorem d_MD_difference_100 : decode b_MD_difference 100 = .ok (.iaload, 1) := by decide +kernel
theorem d_MD_difference_101 : decode b_MD_difference 101 = .ok (.istore 14, 2) := by decide +kernel
theorem d_MD_difference_103 : decode b_MD_difference 103 = .ok (.iload 14, 2) := by decide +kernel
theorem d_MD_difference_105 : decode b_MD_difference 105 = .ok (.iconst 1, 1) := by decide +kernel
theorem d_MD_difference_106 : decode b_MD_difference 106 = .ok (.if_icmp .ne 11, 3) := by decide +kernel
theorem d_MD_difference_109 : decode b_MD_difference 109 = .ok (.lload 10, 2) := by decide +kernel
theorem d_MD_difference_111 : decode b_MD_difference 111 = .ok (.lload 12, 2) := by decide +kernel
theorem d_MD_difference_113 : decode b_MD_difference 113 = .ok (.lcmp, 1) := by decide +kernel
theorem d_MD_difference_114 : decode b_MD_difference 114 = .ok (.ifCond .gt 17, 3) := by decide +kernel
theorem d_MD_difference_117 : decode b_MD_difference 117 = .ok (.iload 14, 2) := by decide +kernel
theorem d_MD_difference_119 : decode b_MD_difference 119 = .ok (.iconst (-1), 1) := by decide +kernel
theorem d_MD_difference_120 : decode b_MD_difference 120 = .ok (.if_icmp .ne 15, 3) := by decide +kernel
theorem d_MD_difference_123 : decode b_MD_difference 123 = .ok (.lload 10, 2) := by decide +kernel
theorem d_MD_difference_125 : decode b_MD_difference 125 = .ok (.lload 12, 2) := by decide +kernel
theorem d_MD_difference_127 : decode b_MD_difference 127 = .ok (.lcmp, 1) := by decide +kernel
theorem d_MD_difference_128 : decode b_MD_difference 128 = .ok (.ifCond .ge 7, 3) := by decide +kernel
theorem d_MD_difference_131 : decode b_MD_difference 131 = .ok (.ldc2_w 175, 3) := by decide +kernel
theorem d_MD_difference_134 : decode b_MD_difference 134 = .ok (.lreturn, 1) := by decide +kernel
theorem d_MD_difference_135 : decode b_MD_difference 135 = .ok (.aload_n 0, 1) := by decide +kernel
theorem d_MD_difference_136 : decode b_MD_difference 136 = .ok (.lload 6, 2) := by decide +kernel
theorem d_MD_difference_138 : decode b_MD_difference 138 = .ok (.iload 8, 2) := by decide +kernel
theorem d_MD_difference_140 : decode b_MD_difference 140 = .ok (.invokevirtual 181, 3) := by decide +kernel
theorem d_MD_difference_143 : decode b_MD_difference 143 = .ok (.aload_n 0, 1) := by decide +kernel
theorem d_MD_difference_144 : decode b_MD_difference 144 = .ok (.aload_n 0, 1) := by decide +kernel
theorem d_MD_difference_145 : decode b_MD_difference 145 = .ok (.getfield 137, 3) := by decide +kernel
theorem d_MD_difference_148 : decode b_MD_difference 148 = .ok (.aload_n 0, 1) := by decide +kernel
theorem d_MD_difference_149 : decode b_MD_difference 149 = .ok (.getfield 141, 3) := by decide +kernel
theorem d_MD_difference_152 : decode b_MD_difference 152 = .ok (.invokevirtual 181, 3) := by decide +kernel
theorem d_MD_difference_155 : decode b_MD_difference 155 = .ok (.ladd, 1) := by decide +kernel
theorem d_MD_difference_156 : decode b_MD_difference 156 = .ok (.aload_n 0, 1) := by decide +kernel
theorem d_MD_difference_157 : decode b_MD_difference 157 = .ok (.aload_n 0, 1) := by decide +kernel
theorem d_MD_difference_158 : decode b_MD_difference 158 = .ok (.getfield 75, 3) := by decide +kernel
theorem d_MD_difference_161 : decode b_MD_difference 161 = .ok (.iload_n 1, 1) := by decide +kernel
theorem d_MD_difference_162 : decode b_MD_difference 162 = .ok (.laload, 1) := by decide +kernel
theorem d_MD_difference_163 : decode b_MD_difference 163 = .ok (.aload_n 0, 1) := by decide +kernel
theorem d_MD_difference_164 : decode b_MD_difference 164 = .ok (.getfield 69, 3) := by decide +kernel
theorem d_MD_difference_167 : decode b_MD_difference 167 = .ok (.iload_n 1, 1) := by decide +kernel
theorem d_MD_difference_168 : decode b_MD_difference 168 = .ok (.iaload, 1) := by decide +kernel
theorem d_MD_difference_169 : decode b_MD_difference 169 = .ok (.invokevirtual 181, 3) := by decide +kernel
theorem d_MD_difference_172 : decode b_MD_difference 172 = .ok (.lsub, 1) := by decide +kernel
theorem d_MD_difference_173 : decode b_MD_difference 173 = .ok (.lreturn, 1) := by decide +kernel
theorem d_MD_leafOf_0 : decode b_MD_leafOf 0 = .ok (.iconst 0, 1) := by decide +kernel
theorem d_MD_leafOf_1 : decode b_MD_leafOf 1 = .ok (.istore 6, 2) := by decide +kernel
theorem d_MD_leafOf_3 : decode b_MD_leafOf 3 = .ok (.aload_n 0, 1) := by decide +kernel
theorem d_MD_leafOf_4 : decode b_MD_leafOf 4 = .ok (.getfield 54, 3) := by decide +kernel
theorem d_MD_leafOf_7 : decode b_MD_leafOf 7 = .ok (.bipush 32, 2) := by decide +kernel
theorem d_MD_leafOf_9 : decode b_MD_leafOf 9 = .ok (.iload_n 1, 1) := by decide +kernel
theorem d_MD_leafOf_10 : decode b_MD_leafOf 10 = .ok (.imul, 1) := by decide +kernel
theorem d_MD_leafOf_11 : decode b_MD_leafOf 11 = .ok (.iload 6, 2) := by decide +kernel
theorem d_MD_leafOf_13 : decode b_MD_leafOf 13 = .ok (.iadd, 1) := by decide +kernel
theorem d_MD_leafOf_14 : decode b_MD_leafOf 14 = .ok (.iaload, 1) := by decide +kernel
theorem d_MD_leafOf_15 : decode b_MD_leafOf 15 = .ok (.ifCond .lt 66, 3) := by decide +kernel
theorem d_MD_leafOf_18 : decode b_MD_leafOf 18 = .ok (.bipush 32, 2) := by decide +kernel
theorem d_MD_leafOf_20 : decode b_MD_leafOf 20 = .ok (.iload_n 1, 1) := by decide +kernel
theorem d_MD_leafOf_21 : decode b_MD_leafOf 21 = .ok (.imul, 1) := by decide +kernel
theorem d_MD_leafOf_22 : decode b_MD_leafOf 22 = .ok (.iload 6, 2) := by decide +kernel
theorem d_MD_leafOf_24 : decode b_MD_leafOf 24 = .ok (.iadd, 1) := by decide +kernel
theorem d_MD_leafOf_25 : decode b_MD_leafOf 25 = .ok (.istore 7, 2) := by decide +kernel
theorem d_MD_leafOf_27 : decode b_MD_leafOf 27 = .ok (.aload_n 0, 1) := by decide +kernel
theorem d_MD_leafOf_28 : decode b_MD_leafOf 28 = .ok (.getfield 63, 3) := by decide +kernel
theorem d_MD_leafOf_31 : decode b_MD_leafOf 31 = .ok (.iload 7, 2) := by decide +kernel
theorem d_MD_leafOf_33 : decode b_MD_leafOf 33 = .ok (.iaload, 1) := by decide +kernel
theorem d_MD_leafOf_34 : decode b_MD_leafOf 34 = .ok (.aload_n 0, 1) := by decide +kernel
theorem d_MD_leafOf_35 : decode b_MD_leafOf 35 = .ok (.getfield 54, 3) := by decide +kernel
theorem d_MD_leafOf_38 : decode b_MD_leafOf 38 = .ok (.iload 7, 2) := by decide +kernel
theorem d_MD_leafOf_40 : decode b_MD_leafOf 40 = .ok (.iaload, 1) := by decide +kernel
theorem d_MD_leafOf_41 : decode b_MD_leafOf 41 = .ok (.iload_n 2, 1) := by decide +kernel
theorem d_MD_leafOf_42 : decode b_MD_leafOf 42 = .ok (.iload_n 3, 1) := by decide +kernel
theorem d_MD_leafOf_43 : decode b_MD_leafOf 43 = .ok (.iload 4, 2) := by decide +kernel
theorem d_MD_leafOf_45 : decode b_MD_leafOf 45 = .ok (.iload 5, 2) := by decide +kernel
theorem d_MD_leafOf_47 : decode b_MD_leafOf 47 = .ok (.invokestatic 99, 3) := by decide +kernel
theorem d_MD_leafOf_50 : decode b_MD_leafOf 50 = .ok (.aload_n 0, 1) := by decide +kernel
theorem d_MD_leafOf_51 : decode b_MD_leafOf 51 = .ok (.getfield 57, 3) := by decide +kernel
theorem d_MD_leafOf_54 : decode b_MD_leafOf 54 = .ok (.iload 7, 2) := by decide +kernel
theorem d_MD_leafOf_56 : decode b_MD_leafOf 56 = .ok (.iaload, 1) := by decide +kernel
theorem d_MD_leafOf_57 : decode b_MD_leafOf 57 = .ok (.aload_n 0, 1) := by decide +kernel
theorem d_MD_leafOf_58 : decode b_MD_leafOf 58 = .ok (.getfield 60, 3) := by decide +kernel
theorem d_MD_leafOf_61 : decode b_MD_leafOf 61 = .ok (.iload 7, 2) := by decide +kernel
theorem d_MD_leafOf_63 : decode b_MD_leafOf 63 = .ok (.iaload, 1) := by decide +kernel
theorem d_MD_leafOf_64 : decode b_MD_leafOf 64 = .ok (.invokestatic 147, 3) := by decide +kernel
theorem d_MD_leafOf_67 : decode b_MD_leafOf 67 = .ok (.ifCond .eq 7, 3) := by decide +kernel
theorem d_MD_leafOf_70 : decode b_MD_leafOf 70 = .ok (.iconst 0, 1) := by decide +kernel
theorem d_MD_leafOf_71 : decode b_MD_leafOf 71 = .ok (.goto 4, 3) := by decide +kernel
theorem d_MD_leafOf_74 : decode b_MD_leafOf 74 = .ok (.iconst 1, 1) := by decide +kernel
theorem d_MD_leafOf_75 : decode b_MD_leafOf 75 = .ok (.iadd, 1) := by decide +kernel
theorem d_MD_leafOf_76 : decode b_MD_leafOf 76 = .ok (.istore 6, 2) := by decide +kernel
theorem d_MD_leafOf_78 : decode b_MD_leafOf 78 = .ok (.goto (-75), 3) := by decide +kernel
theorem d_MD_leafOf_81 : decode b_MD_leafOf 81 = .ok (.iload 6, 2) := by decide +kernel
theorem d_MD_leafOf_83 : decode b_MD_leafOf 83 = .ok (.ireturn, 1) := by decide +kernel
theorem d_MD_addOf_0 : decode b_MD_addOf 0 = .ok (.bipush 32, 2) := by decide +kernel
theorem d_MD_addOf_2 : decode b_MD_addOf 2 = .ok (.iload_n 1, 1) := by decide +kernel
theorem d_MD_addOf_3 : decode b_MD_addOf 3 = .ok (.imul, 1) := by decide +kernel
theorem d_MD_addOf_4 : decode b_MD_addOf 4 = .ok (.iload_n 2, 1) := by decide +kernel
theorem d_MD_addOf_5 : decode b_MD_addOf 5 = .ok (.iadd, 1) := by decide +kernel
theorem d_MD_addOf_6 : decode b_MD_addOf 6 = .ok (.istore_n 3, 1) := by decide +kernel
theorem d_MD_addOf_7 : decode b_MD_addOf 7 = .ok (.aload_n 0, 1) := by decide +kernel
theorem d_MD_addOf_8 : decode b_MD_addOf 8 = .ok (.aload_n 0, 1) := by decide +kernel
theorem d_MD_addOf_9 : decode b_MD_addOf 9 = .ok (.getfield 75, 3) := by decide +kernel
theorem d_MD_addOf_12 : decode b_MD_addOf 12 = .ok (.iload_n 3, 1) := by decide +kernel
theorem d_MD_addOf_13 : decode b_MD_addOf 13 = .ok (.laload, 1) := by decide +kernel
theorem d_MD_addOf_14 : decode b_MD_addOf 14 = .ok (.aload_n 0, 1) := by decide +kernel
theorem d_MD_addOf_15 : decode b_MD_addOf 15 = .ok (.getfield 69, 3) := by decide +kernel
theorem d_MD_addOf_18 : decode b_MD_addOf 18 = .ok (.iload_n 3, 1) := by decide +kernel
theorem d_MD_addOf_19 : decode b_MD_addOf 19 = .ok (.iaload, 1) := by decide +kernel
theorem d_MD_addOf_20 : decode b_MD_addOf 20 = .ok (.invokevirtual 177, 3) := by decide +kernel
theorem d_MD_addOf_23 : decode b_MD_addOf 23 = .ok (.aload_n 0, 1) := by decide +kernel
theorem d_MD_addOf_24 : decode b_MD_addOf 24 = .ok (.getfield 38, 3) := by decide +kernel
theorem d_MD_addOf_27 : decode b_MD_addOf 27 = .ok (.iconst 3, 1) := by decide +kernel
theorem d_MD_addOf_28 : decode b_MD_addOf 28 = .ok (.iaload, 1) := by decide +kernel
theorem d_MD_addOf_29 : decode b_MD_addOf 29 = .ok (.i2l, 1) := by decide +kernel
theorem d_MD_addOf_30 : decode b_MD_addOf 30 = .ok (.lmul, 1) := by decide +kernel
theorem d_MD_addOf_31 : decode b_MD_addOf 31 = .ok (.ldc2_w 118, 3) := by decide +kernel
theorem d_MD_addOf_34 : decode b_MD_addOf 34 = .ok (.ldiv, 1) := by decide +kernel
theorem d_MD_addOf_35 : decode b_MD_addOf 35 = .ok (.lreturn, 1) := by decide +kernel
theorem d_MD_isTree_0 : decode b_MD_isTree 0 = .ok (.iload_n 1, 1) := by decide +kernel
theorem d_MD_isTree_1 : decode b_MD_isTree 1 = .ok (.ifCond .lt 15, 3) := by decide +kernel
theorem d_MD_isTree_4 : decode b_MD_isTree 4 = .ok (.iload_n 1, 1) := by decide +kernel
theorem d_MD_isTree_5 : decode b_MD_isTree 5 = .ok (.aload_n 0, 1) := by decide +kernel
theorem d_MD_isTree_6 : decode b_MD_isTree 6 = .ok (.getfield 120, 3) := by decide +kernel
theorem d_MD_isTree_9 : decode b_MD_isTree 9 = .ok (.if_icmp .ge 7, 3) := by decide +kernel
theorem d_MD_isTree_12 : decode b_MD_isTree 12 = .ok (.iconst 1, 1) := by decide +kernel
theorem d_MD_isTree_13 : decode b_MD_isTree 13 = .ok (.goto 4, 3) := by decide +kernel
theorem d_MD_isTree_16 : decode b_MD_isTree 16 = .ok (.iconst 0, 1) := by decide +kernel
theorem d_MD_isTree_17 : decode b_MD_isTree 17 = .ok (.ireturn, 1) := by decide +kernel
theorem d_MD_isNode_0 : decode b_MD_isNode 0 = .ok (.aload_n 0, 1) := by decide +kernel
theorem d_MD_isNode_1 : decode b_MD_isNode 1 = .ok (.iload_n 1, 1) := by decide +kernel
theorem d_MD_isNode_2 : decode b_MD_isNode 2 = .ok (.invokevirtual 184, 3) := by decide +kernel
theorem d_MD_isNode_5 : decode b_MD_isNode 5 = .ok (.ifCond .eq 21, 3) := by decide +kernel
theorem d_MD_isNode_8 : decode b_MD_isNode 8 = .ok (.iload_n 2, 1) := by decide +kernel
theorem d_MD_isNode_9 : decode b_MD_isNode 9 = .ok (.ifCond .lt 17, 3) := by decide +kernel
theorem d_MD_isNode_12 : decode b_MD_isNode 12 = .ok (.iload_n 2, 1) := by decide +kernel
theorem d_MD_isNode_13 : decode b_MD_isNode 13 = .ok (.aload_n 0, 1) := by decide +kernel
theorem d_MD_isNode_14 : decode b_MD_isNode 14 = .ok (.getfield 51, 3) := by decide +kernel
theorem d_MD_isNode_17 : decode b_MD_isNode 17 = .ok (.iload_n 1, 1) := by decide +kernel
theorem d_MD_isNode_18 : decode b_MD_isNode 18 = .ok (.iaload, 1) := by decide +kernel
theorem d_MD_isNode_19 : decode b_MD_isNode 19 = .ok (.if_icmp .ge 7, 3) := by decide +kernel
theorem d_MD_isNode_22 : decode b_MD_isNode 22 = .ok (.iconst 1, 1) := by decide +kernel
theorem d_MD_isNode_23 : decode b_MD_isNode 23 = .ok (.goto 4, 3) := by decide +kernel
theorem d_MD_isNode_26 : decode b_MD_isNode 26 = .ok (.iconst 0, 1) := by decide +kernel
theorem d_MD_isNode_27 : decode b_MD_isNode 27 = .ok (.ireturn, 1) := by decide +kernel
theorem d_MD_node_0 : decode b_MD_node 0 = .ok (.aload_n 0, 1) := by decide +kernel
theorem d_MD_node_1 : decode b_MD_node 1 = .ok (.iload_n 1, 1) := by decide +kernel
theorem d_MD_node_2 : decode b_MD_node 2 = .ok (.iload_n 2, 1) := by decide +kernel
theorem d_MD_node_3 : decode b_MD_node 3 = .ok (.invokevirtual 187, 3) := by decide +kernel
theorem d_MD_node_6 : decode b_MD_node 6 = .ok (.ifCond .ne 6, 3) := by decide +kernel
theorem d_MD_node_9 : decode b_MD_node 9 = .ok (.bipush (-2), 2) := by decide +kernel
theorem d_MD_node_11 : decode b_MD_node 11 = .ok (.ireturn, 1) := by decide +kernel
theorem d_MD_node_12 : decode b_MD_node 12 = .ok (.bipush 32, 2) := by decide +kernel
theorem d_MD_node_14 : decode b_MD_node 14 = .ok (.iload_n 1, 1) := by decide +kernel
theorem d_MD_node_15 : decode b_MD_node 15 = .ok (.imul, 1) := by decide +kernel
theorem d_MD_node_16 : decode b_MD_node 16 = .ok (.iload_n 2, 1) := by decide +kernel
theorem d_MD_node_17 : decode b_MD_node 17 = .ok (.iadd, 1) := by decide +kernel
theorem d_MD_node_18 : decode b_MD_node 18 = .ok (.istore 4, 2) := by decide +kernel
theorem d_MD_node_20 : decode b_MD_node 20 = .ok (.iload_n 3, 1) := by decide +kernel
theorem d_MD_node_21 : decode b_MD_node 21 = .ok (.tableswitch 99 0 6 #[43, 51, 59, 67, 75, 83, 91], 43) := by decide +kernel
theorem d_MD_node_64 : decode b_MD_node 64 = .ok (.aload_n 0, 1) := by decide +kernel
theorem d_MD_node_65 : decode b_MD_node 65 = .ok (.getfield 54, 3) := by decide +kernel
theorem d_MD_node_68 : decode b_MD_node 68 = .ok (.iload 4, 2) := by decide +kernel
theorem d_MD_node_70 : decode b_MD_node 70 = .ok (.iaload, 1) := by decide +kernel
theorem d_MD_node_71 : decode b_MD_node 71 = .ok (.ireturn, 1) := by decide +kernel
theorem d_MD_node_72 : decode b_MD_node 72 = .ok (.aload_n 0, 1) := by decide +kernel
theorem d_MD_node_73 : decode b_MD_node 73 = .ok (.getfield 57, 3) := by decide +kernel
theorem d_MD_node_76 : decode b_MD_node 76 = .ok (.iload 4, 2) := by decide +kernel
theorem d_MD_node_78 : decode b_MD_node 78 = .ok (.iaload, 1) := by decide +kernel
theorem d_MD_node_79 : decode b_MD_node 79 = .ok (.ireturn, 1) := by decide +kernel
theorem d_MD_node_80 : decode b_MD_node 80 = .ok (.aload_n 0, 1) := by decide +kernel
theorem d_MD_node_81 : decode b_MD_node 81 = .ok (.getfield 60, 3) := by decide +kernel
theorem d_MD_node_84 : decode b_MD_node 84 = .ok (.iload 4, 2) := by decide +kernel
theorem d_MD_node_86 : decode b_MD_node 86 = .ok (.iaload, 1) := by decide +kernel
theorem d_MD_node_87 : decode b_MD_node 87 = .ok (.ireturn, 1) := by decide +kernel
theorem d_MD_node_88 : decode b_MD_node 88 = .ok (.aload_n 0, 1) := by decide +kernel
theorem d_MD_node_89 : decode b_MD_node 89 = .ok (.getfield 63, 3) := by decide +kernel
theorem d_MD_node_92 : decode b_MD_node 92 = .ok (.iload 4, 2) := by decide +kernel
theorem d_MD_node_94 : decode b_MD_node 94 = .ok (.iaload, 1) := by decide +kernel
theorem d_MD_node_95 : decode b_MD_node 95 = .ok (.ireturn, 1) := by decide +kernel
theorem d_MD_node_96 : decode b_MD_node 96 = .ok (.aload_n 0, 1) := by decide +kernel
theorem d_MD_node_97 : decode b_MD_node 97 = .ok (.getfield 66, 3) := by decide +kernel
theorem d_MD_node_100 : decode b_MD_node 100 = .ok (.iload 4, 2) := by decide +kernel
theorem d_MD_node_102 : decode b_MD_node 102 = .ok (.iaload, 1) := by decide +kernel
theorem d_MD_node_103 : decode b_MD_node 103 = .ok (.ireturn, 1) := by decide +kernel
theorem d_MD_node_104 : decode b_MD_node 104 = .ok (.aload_n 0, 1) := by decide +kernel
theorem d_MD_node_105 : decode b_MD_node 105 = .ok (.getfield 69, 3) := by decide +kernel
theorem d_MD_node_108 : decode b_MD_node 108 = .ok (.iload 4, 2) := by decide +kernel
theorem d_MD_node_110 : decode b_MD_node 110 = .ok (.iaload, 1) := by decide +kernel
theorem d_MD_node_111 : decode b_MD_node 111 = .ok (.ireturn, 1) := by decide +kernel
theorem d_MD_node_112 : decode b_MD_node 112 = .ok (.aload_n 0, 1) := by decide +kernel
theorem d_MD_node_113 : decode b_MD_node 113 = .ok (.getfield 72, 3) := by decide +kernel
theorem d_MD_node_116 : decode b_MD_node 116 = .ok (.iload 4, 2) := by decide +kernel
theorem d_MD_node_118 : decode b_MD_node 118 = .ok (.iaload, 1) := by decide +kernel
theorem d_MD_node_119 : decode b_MD_node 119 = .ok (.ireturn, 1) := by decide +kernel
theorem d_MD_node_120 : decode b_MD_node 120 = .ok (.bipush (-2), 2) := by decide +kernel
theorem d_MD_node_122 : decode b_MD_node 122 = .ok (.ireturn, 1) := by decide +kernel
theorem d_MD_sum_0 : decode b_MD_sum 0 = .ok (.aload_n 0, 1) := by decide +kernel
theorem d_MD_sum_1 : decode b_MD_sum 1 = .ok (.iload_n 1, 1) := by decide +kernel
theorem d_MD_sum_2 : decode b_MD_sum 2 = .ok (.iload_n 2, 1) := by decide +kernel
theorem d_MD_sum_3 : decode b_MD_sum 3 = .ok (.invokevirtual 187, 3) := by decide +kernel
theorem d_MD_sum_6 : decode b_MD_sum 6 = .ok (.ifCond .ne 5, 3) := by decide +kernel
theorem d_MD_sum_9 : decode b_MD_sum 9 = .ok (.lconst 0, 1) := by decide +kernel
theorem d_MD_sum_10 : decode b_MD_sum 10 = .ok (.lreturn, 1) := by decide +kernel
theorem d_MD_sum_11 : decode b_MD_sum 11 = .ok (.bipush 32, 2) := by decide +kernel
theorem d_MD_sum_13 : decode b_MD_sum 13 = .ok (.iload_n 1, 1) := by decide +kernel
theorem d_MD_sum_14 : decode b_MD_sum 14 = .ok (.imul, 1) := by decide +kernel
theorem d_MD_sum_15 : decode b_MD_sum 15 = .ok (.iload_n 2, 1) := by decide +kernel
theorem d_MD_sum_16 : decode b_MD_sum 16 = .ok (.iadd, 1) := by decide +kernel
theorem d_MD_sum_17 : decode b_MD_sum 17 = .ok (.istore 4, 2) := by decide +kernel
theorem d_MD_sum_19 : decode b_MD_sum 19 = .ok (.iload_n 3, 1) := by decide +kernel
theorem d_MD_sum_20 : decode b_MD_sum 20 = .ok (.ifCond .ne 13, 3) := by decide +kernel
theorem d_MD_sum_23 : decode b_MD_sum 23 = .ok (.aload_n 0, 1) := by decide +kernel
theorem d_MD_sum_24 : decode b_MD_sum 24 = .ok (.getfield 75, 3) := by decide +kernel
theorem d_MD_sum_27 : decode b_MD_sum 27 = .ok (.iload 4, 2) := by decide +kernel
theorem d_MD_sum_29 : decode b_MD_sum 29 = .ok (.laload, 1) := by decide +kernel
theorem d_MD_sum_30 : decode b_MD_sum 30 = .ok (.goto 45, 3) := by decide +kernel
theorem d_MD_sum_33 : decode b_MD_sum 33 = .ok (.iload_n 3, 1) := by decide +kernel
theorem d_MD_sum_34 : decode b_MD_sum 34 = .ok (.iconst 1, 1) := by decide +kernel
theorem d_MD_sum_35 : decode b_MD_sum 35 = .ok (.if_icmp .ne 24, 3) := by decide +kernel
theorem d_MD_sum_38 : decode b_MD_sum 38 = .ok (.aload_n 0, 1) := by decide +kernel
theorem d_MD_sum_39 : decode b_MD_sum 39 = .ok (.aload_n 0, 1) := by decide +kernel
theorem d_MD_sum_40 : decode b_MD_sum 40 = .ok (.getfield 75, 3) := by decide +kernel
theorem d_MD_sum_43 : decode b_MD_sum 43 = .ok (.iload 4, 2) := by decide +kernel
theorem d_MD_sum_45 : decode b_MD_sum 45 = .ok (.laload, 1) := by decide +kernel
theorem d_MD_sum_46 : decode b_MD_sum 46 = .ok (.aload_n 0, 1) := by decide +kernel
theorem d_MD_sum_47 : decode b_MD_sum 47 = .ok (.getfield 69, 3) := by decide +kernel
theorem d_MD_sum_50 : decode b_MD_sum 50 = .ok (.iload 4, 2) := by decide +kernel
theorem d_MD_sum_52 : decode b_MD_sum 52 = .ok (.iaload, 1) := by decide +kernel
theorem d_MD_sum_53 : decode b_MD_sum 53 = .ok (.invokevirtual 177, 3) := by decide +kernel
theorem d_MD_sum_56 : decode b_MD_sum 56 = .ok (.goto 19, 3) := by decide +kernel
theorem d_MD_sum_59 : decode b_MD_sum 59 = .ok (.iload_n 3, 1) := by decide +kernel
theorem d_MD_sum_60 : decode b_MD_sum 60 = .ok (.iconst 2, 1) := by decide +kernel
theorem d_MD_sum_61 : decode b_MD_sum 61 = .ok (.if_icmp .ne 13, 3) := by decide +kernel
theorem d_MD_sum_64 : decode b_MD_sum 64 = .ok (.aload_n 0, 1) := by decide +kernel
theorem d_MD_sum_65 : decode b_MD_sum 65 = .ok (.getfield 78, 3) := by decide +kernel
theorem d_MD_sum_68 : decode b_MD_sum 68 = .ok (.iload 4, 2) := by decide +kernel
theorem d_MD_sum_70 : decode b_MD_sum 70 = .ok (.laload, 1) := by decide +kernel
theorem d_MD_sum_71 : decode b_MD_sum 71 = .ok (.goto 4, 3) := by decide +kernel
theorem d_MD_sum_74 : decode b_MD_sum 74 = .ok (.lconst 0, 1) := by decide +kernel
theorem d_MD_sum_75 : decode b_MD_sum 75 = .ok (.lreturn, 1) := by decide +kernel
theorem d_MD_size_0 : decode b_MD_size 0 = .ok (.aload_n 0, 1) := by decide +kernel
theorem d_MD_size_1 : decode b_MD_size 1 = .ok (.iload_n 1, 1) := by decide +kernel
theorem d_MD_size_2 : decode b_MD_size 2 = .ok (.invokevirtual 184, 3) := by decide +kernel
theorem d_MD_size_5 : decode b_MD_size 5 = .ok (.ifCond .eq 12, 3) := by decide +kernel
theorem d_MD_size_8 : decode b_MD_size 8 = .ok (.aload_n 0, 1) := by decide +kernel
theorem d_MD_size_9 : decode b_MD_size 9 = .ok (.getfield 51, 3) := by decide +kernel
theorem d_MD_size_12 : decode b_MD_size 12 = .ok (.iload_n 1, 1) := by decide +kernel
theorem d_MD_size_13 : decode b_MD_size 13 = .ok (.iaload, 1) := by decide +kernel
theorem d_MD_size_14 : decode b_MD_size 14 = .ok (.goto 5, 3) := by decide +kernel
theorem d_MD_size_17 : decode b_MD_size 17 = .ok (.bipush (-2), 2) := by decide +kernel
theorem d_MD_size_19 : decode b_MD_size 19 = .ok (.ireturn, 1) := by decide +kernel
theorem d_MD_leaf_0 : decode b_MD_leaf 0 = .ok (.aload_n 0, 1) := by decide +kernel
theorem d_MD_leaf_1 : decode b_MD_leaf 1 = .ok (.iload_n 1, 1) := by decide +kernel
theorem d_MD_leaf_2 : decode b_MD_leaf 2 = .ok (.invokevirtual 184, 3) := by decide +kernel
theorem d_MD_leaf_5 : decode b_MD_leaf 5 = .ok (.ifCond .eq 29, 3) := by decide +kernel
theorem d_MD_leaf_8 : decode b_MD_leaf 8 = .ok (.iload_n 2, 1) := by decide +kernel
theorem d_MD_leaf_9 : decode b_MD_leaf 9 = .ok (.iload_n 3, 1) := by decide +kernel
theorem d_MD_leaf_10 : decode b_MD_leaf 10 = .ok (.iload 4, 2) := by decide +kernel
theorem d_MD_leaf_12 : decode b_MD_leaf 12 = .ok (.iload 5, 2) := by decide +kernel
theorem d_MD_leaf_14 : decode b_MD_leaf 14 = .ok (.invokestatic 91, 3) := by decide +kernel
theorem d_MD_leaf_17 : decode b_MD_leaf 17 = .ok (.ifCond .eq 17, 3) := by decide +kernel
theorem d_MD_leaf_20 : decode b_MD_leaf 20 = .ok (.aload_n 0, 1) := by decide +kernel
theorem d_MD_leaf_21 : decode b_MD_leaf 21 = .ok (.iload_n 1, 1) := by decide +kernel
theorem d_MD_leaf_22 : decode b_MD_leaf 22 = .ok (.iload_n 2, 1) := by decide +kernel
theorem d_MD_leaf_23 : decode b_MD_leaf 23 = .ok (.iload_n 3, 1) := by decide +kernel
theorem d_MD_leaf_24 : decode b_MD_leaf 24 = .ok (.iload 4, 2) := by decide +kernel
theorem d_MD_leaf_26 : decode b_MD_leaf 26 = .ok (.iload 5, 2) := by decide +kernel
theorem d_MD_leaf_28 : decode b_MD_leaf 28 = .ok (.invokevirtual 130, 3) := by decide +kernel
theorem d_MD_leaf_31 : decode b_MD_leaf 31 = .ok (.goto 5, 3) := by decide +kernel
theorem d_MD_leaf_34 : decode b_MD_leaf 34 = .ok (.bipush (-2), 2) := by decide +kernel
theorem d_MD_leaf_36 : decode b_MD_leaf 36 = .ok (.ireturn, 1) := by decide +kernel
theorem d_MD_answer_0 : decode b_MD_answer 0 = .ok (.iload_n 1, 1) := by decide +kernel
theorem d_MD_answer_1 : decode b_MD_answer 1 = .ok (.ifCond .lt 23, 3) := by decide +kernel
theorem d_MD_answer_4 : decode b_MD_answer 4 = .ok (.iload_n 1, 1) := by decide +kernel
theorem d_MD_answer_5 : decode b_MD_answer 5 = .ok (.aload_n 0, 1) := by decide +kernel
theorem d_MD_answer_6 : decode b_MD_answer 6 = .ok (.getfield 120, 3) := by decide +kernel
theorem d_MD_answer_9 : decode b_MD_answer 9 = .ok (.if_icmp .gt 15, 3) := by decide +kernel
theorem d_MD_answer_12 : decode b_MD_answer 12 = .ok (.iload_n 2, 1) := by decide +kernel
theorem d_MD_answer_13 : decode b_MD_answer 13 = .ok (.iload_n 3, 1) := by decide +kernel
theorem d_MD_answer_14 : decode b_MD_answer 14 = .ok (.iload 4, 2) := by decide +kernel
theorem d_MD_answer_16 : decode b_MD_answer 16 = .ok (.iload 5, 2) := by decide +kernel
theorem d_MD_answer_18 : decode b_MD_answer 18 = .ok (.invokestatic 91, 3) := by decide +kernel
theorem d_MD_answer_21 : decode b_MD_answer 21 = .ok (.ifCond .ne 5, 3) := by decide +kernel
theorem d_MD_answer_24 : decode b_MD_answer 24 = .ok (.lconst 0, 1) := by decide +kernel
theorem d_MD_answer_25 : decode b_MD_answer 25 = .ok (.lreturn, 1) := by decide +kernel
theorem d_MD_answer_26 : decode b_MD_answer 26 = .ok (.ldc2_w 118, 3) := by decide +kernel
theorem d_MD_answer_29 : decode b_MD_answer 29 = .ok (.aload_n 0, 1) := by decide +kernel
theorem d_MD_answer_30 : decode b_MD_answer 30 = .ok (.getfield 38, 3) := by decide +kernel
theorem d_MD_answer_33 : decode b_MD_answer 33 = .ok (.bipush 9, 2) := by decide +kernel
theorem d_MD_answer_35 : decode b_MD_answer 35 = .ok (.iaload, 1) := by decide +kernel
theorem d_MD_answer_36 : decode b_MD_answer 36 = .ok (.i2l, 1) := by decide +kernel
theorem d_MD_answer_37 : decode b_MD_answer 37 = .ok (.lmul, 1) := by decide +kernel
theorem d_MD_answer_38 : decode b_MD_answer 38 = .ok (.lstore 6, 2) := by decide +kernel
theorem d_MD_answer_40 : decode b_MD_answer 40 = .ok (.iconst 0, 1) := by decide +kernel
theorem d_MD_answer_41 : decode b_MD_answer 41 = .ok (.istore 8, 2) := by decide +kernel
theorem d_MD_answer_43 : decode b_MD_answer 43 = .ok (.iload 8, 2) := by decide +kernel
theorem d_MD_answer_45 : decode b_MD_answer 45 = .ok (.iload_n 1, 1) := by decide +kernel
theorem d_MD_answer_46 : decode b_MD_answer 46 = .ok (.if_icmp .ge 32, 3) := by decide +kernel
theorem d_MD_answer_49 : decode b_MD_answer 49 = .ok (.lload 6, 2) := by decide +kernel
theorem d_MD_answer_51 : decode b_MD_answer 51 = .ok (.aload_n 0, 1) := by decide +kernel
theorem d_MD_answer_52 : decode b_MD_answer 52 = .ok (.iload 8, 2) := by decide +kernel
theorem d_MD_answer_54 : decode b_MD_answer 54 = .ok (.aload_n 0, 1) := by decide +kernel
theorem d_MD_answer_55 : decode b_MD_answer 55 = .ok (.iload 8, 2) := by decide +kernel
theorem d_MD_answer_57 : decode b_MD_answer 57 = .ok (.iload_n 2, 1) := by decide +kernel
theorem d_MD_answer_58 : decode b_MD_answer 58 = .ok (.iload_n 3, 1) := by decide +kernel
theorem d_MD_answer_59 : decode b_MD_answer 59 = .ok (.iload 4, 2) := by decide +kernel
theorem d_MD_answer_61 : decode b_MD_answer 61 = .ok (.iload 5, 2) := by decide +kernel
theorem d_MD_answer_63 : decode b_MD_answer 63 = .ok (.invokevirtual 130, 3) := by decide +kernel
theorem d_MD_answer_66 : decode b_MD_answer 66 = .ok (.invokevirtual 133, 3) := by decide +kernel
theorem d_MD_answer_69 : decode b_MD_answer 69 = .ok (.ladd, 1) := by decide +kernel
theorem d_MD_answer_70 : decode b_MD_answer 70 = .ok (.lstore 6, 2) := by decide +kernel
theorem d_MD_answer_72 : decode b_MD_answer 72 = .ok (.iinc 8 1, 3) := by decide +kernel
theorem d_MD_answer_75 : decode b_MD_answer 75 = .ok (.goto (-32), 3) := by decide +kernel
theorem d_MD_answer_78 : decode b_MD_answer 78 = .ok (.lload 6, 2) := by decide +kernel
theorem d_MD_answer_80 : decode b_MD_answer 80 = .ok (.lreturn, 1) := by decide +kernel
theorem d_MD_loss_0 : decode b_MD_loss 0 = .ok (.aload_n 0, 1) := by decide +kernel
theorem d_MD_loss_1 : decode b_MD_loss 1 = .ok (.getfield 111, 3) := by decide +kernel
theorem d_MD_loss_4 : decode b_MD_loss 4 = .ok (.ifCond .eq 24, 3) := by decide +kernel
theorem d_MD_loss_7 : decode b_MD_loss 7 = .ok (.iload_n 1, 1) := by decide +kernel
theorem d_MD_loss_8 : decode b_MD_loss 8 = .ok (.ifCond .lt 20, 3) := by decide +kernel
theorem d_MD_loss_11 : decode b_MD_loss 11 = .ok (.iload_n 1, 1) := by decide +kernel
theorem d_MD_loss_12 : decode b_MD_loss 12 = .ok (.aload_n 0, 1) := by decide +kernel
theorem d_MD_loss_13 : decode b_MD_loss 13 = .ok (.getfield 120, 3) := by decide +kernel
theorem d_MD_loss_16 : decode b_MD_loss 16 = .ok (.if_icmp .gt 12, 3) := by decide +kernel
theorem d_MD_loss_19 : decode b_MD_loss 19 = .ok (.iload_n 2, 1) := by decide +kernel
theorem d_MD_loss_20 : decode b_MD_loss 20 = .ok (.ifCond .lt 8, 3) := by decide +kernel
theorem d_MD_loss_23 : decode b_MD_loss 23 = .ok (.iload_n 2, 1) := by decide +kernel
theorem d_MD_loss_24 : decode b_MD_loss 24 = .ok (.iconst 1, 1) := by decide +kernel
theorem d_MD_loss_25 : decode b_MD_loss 25 = .ok (.if_icmp .le 9, 3) := by decide +kernel
theorem d_MD_loss_28 : decode b_MD_loss 28 = .ok (.ldc2_w 190, 3) := by decide +kernel
theorem d_MD_loss_31 : decode b_MD_loss 31 = .ok (.goto 14, 3) := by decide +kernel
theorem d_MD_loss_34 : decode b_MD_loss 34 = .ok (.aload_n 0, 1) := by decide +kernel
theorem d_MD_loss_35 : decode b_MD_loss 35 = .ok (.getfield 45, 3) := by decide +kernel
theorem d_MD_loss_38 : decode b_MD_loss 38 = .ok (.bipush 13, 2) := by decide +kernel
theorem d_MD_loss_40 : decode b_MD_loss 40 = .ok (.iload_n 2, 1) := by decide +kernel
theorem d_MD_loss_41 : decode b_MD_loss 41 = .ok (.imul, 1) := by decide +kernel
theorem d_MD_loss_42 : decode b_MD_loss 42 = .ok (.iload_n 1, 1) := by decide +kernel
theorem d_MD_loss_43 : decode b_MD_loss 43 = .ok (.iadd, 1) := by decide +kernel
theorem d_MD_loss_44 : decode b_MD_loss 44 = .ok (.laload, 1) := by decide +kernel
theorem d_MD_loss_45 : decode b_MD_loss 45 = .ok (.lreturn, 1) := by decide +kernel
theorem d_MD_best_0 : decode b_MD_best 0 = .ok (.aload_n 0, 1) := by decide +kernel
theorem d_MD_best_1 : decode b_MD_best 1 = .ok (.getfield 111, 3) := by decide +kernel
theorem d_MD_best_4 : decode b_MD_best 4 = .ok (.ifCond .ne 6, 3) := by decide +kernel
theorem d_MD_best_7 : decode b_MD_best 7 = .ok (.bipush (-2), 2) := by decide +kernel
theorem d_MD_best_9 : decode b_MD_best 9 = .ok (.ireturn, 1) := by decide +kernel
theorem d_MD_best_10 : decode b_MD_best 10 = .ok (.iconst 0, 1) := by decide +kernel
theorem d_MD_best_11 : decode b_MD_best 11 = .ok (.istore_n 1, 1) := by decide +kernel
theorem d_MD_best_12 : decode b_MD_best 12 = .ok (.iconst 0, 1) := by decide +kernel
theorem d_MD_best_13 : decode b_MD_best 13 = .ok (.istore_n 2, 1) := by decide +kernel
theorem d_MD_best_14 : decode b_MD_best 14 = .ok (.iload_n 2, 1) := by decide +kernel
theorem d_MD_best_15 : decode b_MD_best 15 = .ok (.aload_n 0, 1) := by decide +kernel
theorem d_MD_best_16 : decode b_MD_best 16 = .ok (.getfield 115, 3) := by decide +kernel
theorem d_MD_best_19 : decode b_MD_best 19 = .ok (.if_icmp .ge 28, 3) := by decide +kernel
theorem d_MD_best_22 : decode b_MD_best 22 = .ok (.iload_n 1, 1) := by decide +kernel
theorem d_MD_best_23 : decode b_MD_best 23 = .ok (.ifCond .ne 12, 3) := by decide +kernel
theorem d_MD_best_26 : decode b_MD_best 26 = .ok (.aload_n 0, 1) := by decide +kernel
theorem d_MD_best_27 : decode b_MD_best 27 = .ok (.getfield 35, 3) := by decide +kernel
theorem d_MD_best_30 : decode b_MD_best 30 = .ok (.iload_n 2, 1) := by decide +kernel
theorem d_MD_best_31 : decode b_MD_best 31 = .ok (.baload, 1) := by decide +kernel
theorem d_MD_best_32 : decode b_MD_best 32 = .ok (.ifCond .eq 7, 3) := by decide +kernel
theorem d_MD_best_35 : decode b_MD_best 35 = .ok (.iconst 1, 1) := by decide +kernel
theorem d_MD_best_36 : decode b_MD_best 36 = .ok (.goto 4, 3) := by decide +kernel
theorem d_MD_best_39 : decode b_MD_best 39 = .ok (.iconst 0, 1) := by decide +kernel
theorem d_MD_best_40 : decode b_MD_best 40 = .ok (.istore_n 1, 1) := by decide +kernel
theorem d_MD_best_41 : decode b_MD_best 41 = .ok (.iinc 2 1, 3) := by decide +kernel
theorem d_MD_best_44 : decode b_MD_best 44 = .ok (.goto (-30), 3) := by decide +kernel
theorem d_MD_best_47 : decode b_MD_best 47 = .ok (.iload_n 1, 1) := by decide +kernel
theorem d_MD_best_48 : decode b_MD_best 48 = .ok (.ifCond .eq 7, 3) := by decide +kernel
theorem d_MD_best_51 : decode b_MD_best 51 = .ok (.iconst 0, 1) := by decide +kernel
theorem d_MD_best_52 : decode b_MD_best 52 = .ok (.goto 7, 3) := by decide +kernel
theorem d_MD_best_55 : decode b_MD_best 55 = .ok (.aload_n 0, 1) := by decide +kernel
theorem d_MD_best_56 : decode b_MD_best 56 = .ok (.getfield 120, 3) := by decide +kernel
theorem d_MD_best_59 : decode b_MD_best 59 = .ok (.istore_n 2, 1) := by decide +kernel
theorem d_MD_best_60 : decode b_MD_best 60 = .ok (.iconst 0, 1) := by decide +kernel
theorem d_MD_best_61 : decode b_MD_best 61 = .ok (.istore_n 3, 1) := by decide +kernel
theorem d_MD_best_62 : decode b_MD_best 62 = .ok (.iload_n 3, 1) := by decide +kernel
theorem d_MD_best_63 : decode b_MD_best 63 = .ok (.aload_n 0, 1) := by decide +kernel
theorem d_MD_best_64 : decode b_MD_best 64 = .ok (.getfield 120, 3) := by decide +kernel
theorem d_MD_best_67 : decode b_MD_best 67 = .ok (.if_icmp .gt 41, 3) := by decide +kernel
theorem d_MD_best_70 : decode b_MD_best 70 = .ok (.iload_n 1, 1) := by decide +kernel
theorem d_MD_best_71 : decode b_MD_best 71 = .ok (.ifCond .eq 37, 3) := by decide +kernel
theorem d_MD_best_74 : decode b_MD_best 74 = .ok (.aload_n 0, 1) := by decide +kernel
theorem d_MD_best_75 : decode b_MD_best 75 = .ok (.getfield 45, 3) := by decide +kernel
theorem d_MD_best_78 : decode b_MD_best 78 = .ok (.bipush 13, 2) := by decide +kernel
theorem d_MD_best_80 : decode b_MD_best 80 = .ok (.iload_n 3, 1) := by decide +kernel
theorem d_MD_best_81 : decode b_MD_best 81 = .ok (.iadd, 1) := by decide +kernel
theorem d_MD_best_82 : decode b_MD_best 82 = .ok (.laload, 1) := by decide +kernel
theorem d_MD_best_83 : decode b_MD_best 83 = .ok (.aload_n 0, 1) := by decide +kernel
theorem d_MD_best_84 : decode b_MD_best 84 = .ok (.getfield 45, 3) := by decide +kernel
theorem d_MD_best_87 : decode b_MD_best 87 = .ok (.bipush 13, 2) := by decide +kernel
theorem d_MD_best_89 : decode b_MD_best 89 = .ok (.iload_n 2, 1) := by decide +kernel
theorem d_MD_best_90 : decode b_MD_best 90 = .ok (.iadd, 1) := by decide +kernel
theorem d_MD_best_91 : decode b_MD_best 91 = .ok (.laload, 1) := by decide +kernel
theorem d_MD_best_92 : decode b_MD_best 92 = .ok (.lcmp, 1) := by decide +kernel
theorem d_MD_best_93 : decode b_MD_best 93 = .ok (.ifCond .ge 7, 3) := by decide +kernel
theorem d_MD_best_96 : decode b_MD_best 96 = .ok (.iload_n 3, 1) := by decide +kernel
theorem d_MD_best_97 : decode b_MD_best 97 = .ok (.goto 4, 3) := by decide +kernel
theorem d_MD_best_100 : decode b_MD_best 100 = .ok (.iload_n 2, 1) := by decide +kernel
theorem d_MD_best_101 : decode b_MD_best 101 = .ok (.istore_n 2, 1) := by decide +kernel
theorem d_MD_best_102 : decode b_MD_best 102 = .ok (.iinc 3 1, 3) := by decide +kernel
theorem d_MD_best_105 : decode b_MD_best 105 = .ok (.goto (-43), 3) := by decide +kernel
theorem d_MD_best_108 : decode b_MD_best 108 = .ok (.iload_n 2, 1) := by decide +kernel
theorem d_MD_best_109 : decode b_MD_best 109 = .ok (.ireturn, 1) := by decide +kernel
theorem d_MD_without_0 : decode b_MD_without 0 = .ok (.aload_n 0, 1) := by decide +kernel
theorem d_MD_without_1 : decode b_MD_without 1 = .ok (.getfield 111, 3) := by decide +kernel
theorem d_MD_without_4 : decode b_MD_without 4 = .ok (.ifCond .eq 15, 3) := by decide +kernel
theorem d_MD_without_7 : decode b_MD_without 7 = .ok (.iload_n 1, 1) := by decide +kernel
theorem d_MD_without_8 : decode b_MD_without 8 = .ok (.ifCond .lt 11, 3) := by decide +kernel
theorem d_MD_without_11 : decode b_MD_without 11 = .ok (.iload_n 1, 1) := by decide +kernel
theorem d_MD_without_12 : decode b_MD_without 12 = .ok (.aload_n 0, 1) := by decide +kernel
theorem d_MD_without_13 : decode b_MD_without 13 = .ok (.getfield 115, 3) := by decide +kernel
theorem d_MD_without_16 : decode b_MD_without 16 = .ok (.if_icmp .lt 5, 3) := by decide +kernel
theorem d_MD_without_19 : decode b_MD_without 19 = .ok (.lconst 0, 1) := by decide +kernel
theorem d_MD_without_20 : decode b_MD_without 20 = .ok (.lreturn, 1) := by decide +kernel
theorem d_MD_without_21 : decode b_MD_without 21 = .ok (.ldc2_w 118, 3) := by decide +kernel
theorem d_MD_without_24 : decode b_MD_without 24 = .ok (.aload_n 0, 1) := by decide +kernel
theorem d_MD_without_25 : decode b_MD_without 25 = .ok (.getfield 38, 3) := by decide +kernel
theorem d_MD_without_28 : decode b_MD_without 28 = .ok (.bipush 9, 2) := by decide +kernel
theorem d_MD_without_30 : decode b_MD_without 30 = .ok (.iaload, 1) := by decide +kernel
theorem d_MD_without_31 : decode b_MD_without 31 = .ok (.i2l, 1) := by decide +kernel
theorem d_MD_without_32 : decode b_MD_without 32 = .ok (.lmul, 1) := by decide +kernel
theorem d_MD_without_33 : decode b_MD_without 33 = .ok (.lstore_n 2, 1) := by decide +kernel
theorem d_MD_without_34 : decode b_MD_without 34 = .ok (.iconst 0, 1) := by decide +kernel
theorem d_MD_without_35 : decode b_MD_without 35 = .ok (.istore 4, 2) := by decide +kernel
theorem d_MD_without_37 : decode b_MD_without 37 = .ok (.iload 4, 2) := by decide +kernel
theorem d_MD_without_39 : decode b_MD_without 39 = .ok (.aload_n 0, 1) := by decide +kernel
theorem d_MD_without_40 : decode b_MD_without 40 = .ok (.getfield 120, 3) := by decide +kernel
theorem d_MD_without_43 : decode b_MD_without 43 = .ok (.if_icmp .ge 81, 3) := by decide +kernel
theorem d_MD_without_46 : decode b_MD_without 46 = .ok (.lload_n 2, 1) := by decide +kernel
theorem d_MD_without_47 : decode b_MD_without 47 = .ok (.aload_n 0, 1) := by decide +kernel
theorem d_MD_without_48 : decode b_MD_without 48 = .ok (.getfield 48, 3) := by decide +kernel
theorem d_MD_without_51 : decode b_MD_without 51 = .ok (.bipush 40, 2) := by decide +kernel
theorem d_MD_without_53 : decode b_MD_without 53 = .ok (.iload 4, 2) := by decide +kernel
theorem d_MD_without_55 : decode b_MD_without 55 = .ok (.imul, 1) := by decide +kernel
theorem d_MD_without_56 : decode b_MD_without 56 = .ok (.iload_n 1, 1) := by decide +kernel
theorem d_MD_without_57 : decode b_MD_without 57 = .ok (.iadd, 1) := by decide +kernel
theorem d_MD_without_58 : decode b_MD_without 58 = .ok (.baload, 1) := by decide +kernel
theorem d_MD_without_59 : decode b_MD_without 59 = .ok (.ifCond .eq 7, 3) := by decide +kernel
theorem d_MD_without_62 : decode b_MD_without 62 = .ok (.lconst 0, 1) := by decide +kernel
theorem d_MD_without_63 : decode b_MD_without 63 = .ok (.goto 53, 3) := by decide +kernel
theorem d_MD_without_66 : decode b_MD_without 66 = .ok (.aload_n 0, 1) := by decide +kernel
theorem d_MD_without_67 : decode b_MD_without 67 = .ok (.iload 4, 2) := by decide +kernel
theorem d_MD_without_69 : decode b_MD_without 69 = .ok (.aload_n 0, 1) := by decide +kernel
theorem d_MD_without_70 : decode b_MD_without 70 = .ok (.iload 4, 2) := by decide +kernel
theorem d_MD_without_72 : decode b_MD_without 72 = .ok (.aload_n 0, 1) := by decide +kernel
theorem d_MD_without_73 : decode b_MD_without 73 = .ok (.getfield 26, 3) := by decide +kernel
theorem d_MD_without_76 : decode b_MD_without 76 = .ok (.iconst 4, 1) := by decide +kernel
theorem d_MD_without_77 : decode b_MD_without 77 = .ok (.iload_n 1, 1) := by decide +kernel
theorem d_MD_without_78 : decode b_MD_without 78 = .ok (.imul, 1) := by decide +kernel
theorem d_MD_without_79 : decode b_MD_without 79 = .ok (.iaload, 1) := by decide +kernel
theorem d_MD_without_80 : decode b_MD_without 80 = .ok (.aload_n 0, 1) := by decide +kernel
theorem d_MD_without_81 : decode b_MD_without 81 = .ok (.getfield 26, 3) := by decide +kernel
theorem d_MD_without_84 : decode b_MD_without 84 = .ok (.iconst 4, 1) := by decide +kernel
theorem d_MD_without_85 : decode b_MD_without 85 = .ok (.iload_n 1, 1) := by decide +kernel
theorem d_MD_without_86 : decode b_MD_without 86 = .ok (.imul, 1) := by decide +kernel
theorem d_MD_without_87 : decode b_MD_without 87 = .ok (.iconst 1, 1) := by decide +kernel
theorem d_MD_without_88 : decode b_MD_without 88 = .ok (.iadd, 1) := by decide +kernel
theorem d_MD_without_89 : decode b_MD_without 89 = .ok (.iaload, 1) := by decide +kernel
theorem d_MD_without_90 : decode b_MD_without 90 = .ok (.aload_n 0, 1) := by decide +kernel
theorem d_MD_without_91 : decode b_MD_without 91 = .ok (.getfield 26, 3) := by decide +kernel
theorem d_MD_without_94 : decode b_MD_without 94 = .ok (.iconst 4, 1) := by decide +kernel
theorem d_MD_without_95 : decode b_MD_without 95 = .ok (.iload_n 1, 1) := by decide +kernel
theorem d_MD_without_96 : decode b_MD_without 96 = .ok (.imul, 1) := by decide +kernel
theorem d_MD_without_97 : decode b_MD_without 97 = .ok (.iconst 2, 1) := by decide +kernel
theorem d_MD_without_98 : decode b_MD_without 98 = .ok (.iadd, 1) := by decide +kernel
theorem d_MD_without_99 : decode b_MD_without 99 = .ok (.iaload, 1) := by decide +kernel
theorem d_MD_without_100 : decode b_MD_without 100 = .ok (.aload_n 0, 1) := by decide +kernel
theorem d_MD_without_101 : decode b_MD_without 101 = .ok (.getfield 26, 3) := by decide +kernel
theorem d_MD_without_104 : decode b_MD_without 104 = .ok (.iconst 4, 1) := by decide +kernel
theorem d_MD_without_105 : decode b_MD_without 105 = .ok (.iload_n 1, 1) := by decide +kernel
theorem d_MD_without_106 : decode b_MD_without 106 = .ok (.imul, 1) := by decide +kernel
theorem d_MD_without_107 : decode b_MD_without 107 = .ok (.iconst 3, 1) := by decide +kernel
theorem d_MD_without_108 : decode b_MD_without 108 = .ok (.iadd, 1) := by decide +kernel
theorem d_MD_without_109 : decode b_MD_without 109 = .ok (.iaload, 1) := by decide +kernel
theorem d_MD_without_110 : decode b_MD_without 110 = .ok (.invokevirtual 130, 3) := by decide +kernel
theorem d_MD_without_113 : decode b_MD_without 113 = .ok (.invokevirtual 133, 3) := by decide +kernel
theorem d_MD_without_116 : decode b_MD_without 116 = .ok (.ladd, 1) := by decide +kernel
theorem d_MD_without_117 : decode b_MD_without 117 = .ok (.lstore_n 2, 1) := by decide +kernel
theorem d_MD_without_118 : decode b_MD_without 118 = .ok (.iinc 4 1, 3) := by decide +kernel
theorem d_MD_without_121 : decode b_MD_without 121 = .ok (.goto (-84), 3) := by decide +kernel
theorem d_MD_without_124 : decode b_MD_without 124 = .ok (.lload_n 2, 1) := by decide +kernel
theorem d_MD_without_125 : decode b_MD_without 125 = .ok (.lreturn, 1) := by decide +kernel
theorem d_MD_took_0 : decode b_MD_took 0 = .ok (.aload_n 0, 1) := by decide +kernel
theorem d_MD_took_1 : decode b_MD_took 1 = .ok (.getfield 111, 3) := by decide +kernel
theorem d_MD_took_4 : decode b_MD_took 4 = .ok (.ifCond .eq 15, 3) := by decide +kernel
theorem d_MD_took_7 : decode b_MD_took 7 = .ok (.iload_n 1, 1) := by decide +kernel
theorem d_MD_took_8 : decode b_MD_took 8 = .ok (.ifCond .lt 11, 3) := by decide +kernel
theorem d_MD_took_11 : decode b_MD_took 11 = .ok (.iload_n 1, 1) := by decide +kernel
theorem d_MD_took_12 : decode b_MD_took 12 = .ok (.aload_n 0, 1) := by decide +kernel
theorem d_MD_took_13 : decode b_MD_took 13 = .ok (.getfield 115, 3) := by decide +kernel
theorem d_MD_took_16 : decode b_MD_took 16 = .ok (.if_icmp .lt 6, 3) := by decide +kernel
theorem d_MD_took_19 : decode b_MD_took 19 = .ok (.bipush (-2), 2) := by decide +kernel
theorem d_MD_took_21 : decode b_MD_took 21 = .ok (.ireturn, 1) := by decide +kernel
theorem d_MD_took_22 : decode b_MD_took 22 = .ok (.iconst 0, 1) := by decide +kernel
theorem d_MD_took_23 : decode b_MD_took 23 = .ok (.istore_n 2, 1) := by decide +kernel
theorem d_MD_took_24 : decode b_MD_took 24 = .ok (.iconst 0, 1) := by decide +kernel
theorem d_MD_took_25 : decode b_MD_took 25 = .ok (.istore_n 3, 1) := by decide +kernel
theorem d_MD_took_26 : decode b_MD_took 26 = .ok (.iload_n 3, 1) := by decide +kernel
theorem d_MD_took_27 : decode b_MD_took 27 = .ok (.aload_n 0, 1) := by decide +kernel
theorem d_MD_took_28 : decode b_MD_took 28 = .ok (.getfield 120, 3) := by decide +kernel
theorem d_MD_took_31 : decode b_MD_took 31 = .ok (.if_icmp .ge 31, 3) := by decide +kernel
theorem d_MD_took_34 : decode b_MD_took 34 = .ok (.iload_n 2, 1) := by decide +kernel
theorem d_MD_took_35 : decode b_MD_took 35 = .ok (.aload_n 0, 1) := by decide +kernel
theorem d_MD_took_36 : decode b_MD_took 36 = .ok (.getfield 48, 3) := by decide +kernel
theorem d_MD_took_39 : decode b_MD_took 39 = .ok (.bipush 40, 2) := by decide +kernel
theorem d_MD_took_41 : decode b_MD_took 41 = .ok (.iload_n 3, 1) := by decide +kernel
theorem d_MD_took_42 : decode b_MD_took 42 = .ok (.imul, 1) := by decide +kernel
theorem d_MD_took_43 : decode b_MD_took 43 = .ok (.iload_n 1, 1) := by decide +kernel
theorem d_MD_took_44 : decode b_MD_took 44 = .ok (.iadd, 1) := by decide +kernel
theorem d_MD_took_45 : decode b_MD_took 45 = .ok (.baload, 1) := by decide +kernel
theorem d_MD_took_46 : decode b_MD_took 46 = .ok (.ifCond .eq 7, 3) := by decide +kernel
theorem d_MD_took_49 : decode b_MD_took 49 = .ok (.iconst 1, 1) := by decide +kernel
theorem d_MD_took_50 : decode b_MD_took 50 = .ok (.goto 4, 3) := by decide +kernel
theorem d_MD_took_53 : decode b_MD_took 53 = .ok (.iconst 0, 1) := by decide +kernel
theorem d_MD_took_54 : decode b_MD_took 54 = .ok (.iadd, 1) := by decide +kernel
theorem d_MD_took_55 : decode b_MD_took 55 = .ok (.istore_n 2, 1) := by decide +kernel
theorem d_MD_took_56 : decode b_MD_took 56 = .ok (.iinc 3 1, 3) := by decide +kernel
theorem d_MD_took_59 : decode b_MD_took 59 = .ok (.goto (-33), 3) := by decide +kernel
theorem d_MD_took_62 : decode b_MD_took 62 = .ok (.iload_n 2, 1) := by decide +kernel
theorem d_MD_took_63 : decode b_MD_took 63 = .ok (.ireturn, 1) := by decide +kernel
theorem d_MD_gain_0 : decode b_MD_gain 0 = .ok (.lconst 0, 1) := by decide +kernel
theorem d_MD_gain_1 : decode b_MD_gain 1 = .ok (.lstore_n 2, 1) := by decide +kernel
theorem d_MD_gain_2 : decode b_MD_gain 2 = .ok (.iconst 0, 1) := by decide +kernel
theorem d_MD_gain_3 : decode b_MD_gain 3 = .ok (.istore 4, 2) := by decide +kernel
theorem d_MD_gain_5 : decode b_MD_gain 5 = .ok (.iload 4, 2) := by decide +kernel
theorem d_MD_gain_7 : decode b_MD_gain 7 = .ok (.aload_n 0, 1) := by decide +kernel
theorem d_MD_gain_8 : decode b_MD_gain 8 = .ok (.getfield 120, 3) := by decide +kernel
theorem d_MD_gain_11 : decode b_MD_gain 11 = .ok (.if_icmp .ge 69, 3) := by decide +kernel
theorem d_MD_gain_14 : decode b_MD_gain 14 = .ok (.iconst 0, 1) := by decide +kernel
theorem d_MD_gain_15 : decode b_MD_gain 15 = .ok (.istore 5, 2) := by decide +kernel
theorem d_MD_gain_17 : decode b_MD_gain 17 = .ok (.iload 5, 2) := by decide +kernel
theorem d_MD_gain_19 : decode b_MD_gain 19 = .ok (.aload_n 0, 1) := by decide +kernel
theorem d_MD_gain_20 : decode b_MD_gain 20 = .ok (.getfield 51, 3) := by decide +kernel
theorem d_MD_gain_23 : decode b_MD_gain 23 = .ok (.iload 4, 2) := by decide +kernel
theorem d_MD_gain_25 : decode b_MD_gain 25 = .ok (.iaload, 1) := by decide +kernel
theorem d_MD_gain_26 : decode b_MD_gain 26 = .ok (.if_icmp .ge 48, 3) := by decide +kernel
theorem d_MD_gain_29 : decode b_MD_gain 29 = .ok (.bipush 32, 2) := by decide +kernel
theorem d_MD_gain_31 : decode b_MD_gain 31 = .ok (.iload 4, 2) := by decide +kernel
theorem d_MD_gain_33 : decode b_MD_gain 33 = .ok (.imul, 1) := by decide +kernel
theorem d_MD_gain_34 : decode b_MD_gain 34 = .ok (.iload 5, 2) := by decide +kernel
theorem d_MD_gain_36 : decode b_MD_gain 36 = .ok (.iadd, 1) := by decide +kernel
theorem d_MD_gain_37 : decode b_MD_gain 37 = .ok (.istore 6, 2) := by decide +kernel
theorem d_MD_gain_39 : decode b_MD_gain 39 = .ok (.lload_n 2, 1) := by decide +kernel
theorem d_MD_gain_40 : decode b_MD_gain 40 = .ok (.iload_n 1, 1) := by decide +kernel
theorem d_MD_gain_41 : decode b_MD_gain 41 = .ok (.ifCond .lt 24, 3) := by decide +kernel
theorem d_MD_gain_44 : decode b_MD_gain 44 = .ok (.aload_n 0, 1) := by decide +kernel
theorem d_MD_gain_45 : decode b_MD_gain 45 = .ok (.getfield 54, 3) := by decide +kernel
theorem d_MD_gain_48 : decode b_MD_gain 48 = .ok (.iload 6, 2) := by decide +kernel
theorem d_MD_gain_50 : decode b_MD_gain 50 = .ok (.iaload, 1) := by decide +kernel
theorem d_MD_gain_51 : decode b_MD_gain 51 = .ok (.iload_n 1, 1) := by decide +kernel
theorem d_MD_gain_52 : decode b_MD_gain 52 = .ok (.if_icmp .ne 13, 3) := by decide +kernel
theorem d_MD_gain_55 : decode b_MD_gain 55 = .ok (.aload_n 0, 1) := by decide +kernel
theorem d_MD_gain_56 : decode b_MD_gain 56 = .ok (.getfield 78, 3) := by decide +kernel
theorem d_MD_gain_59 : decode b_MD_gain 59 = .ok (.iload 6, 2) := by decide +kernel
theorem d_MD_gain_61 : decode b_MD_gain 61 = .ok (.laload, 1) := by decide +kernel
theorem d_MD_gain_62 : decode b_MD_gain 62 = .ok (.goto 4, 3) := by decide +kernel
theorem d_MD_gain_65 : decode b_MD_gain 65 = .ok (.lconst 0, 1) := by decide +kernel
theorem d_MD_gain_66 : decode b_MD_gain 66 = .ok (.ladd, 1) := by decide +kernel
theorem d_MD_gain_67 : decode b_MD_gain 67 = .ok (.lstore_n 2, 1) := by decide +kernel
theorem d_MD_gain_68 : decode b_MD_gain 68 = .ok (.iinc 5 1, 3) := by decide +kernel
theorem d_MD_gain_71 : decode b_MD_gain 71 = .ok (.goto (-54), 3) := by decide +kernel
theorem d_MD_gain_74 : decode b_MD_gain 74 = .ok (.iinc 4 1, 3) := by decide +kernel
theorem d_MD_gain_77 : decode b_MD_gain 77 = .ok (.goto (-72), 3) := by decide +kernel
theorem d_MD_gain_80 : decode b_MD_gain 80 = .ok (.lload_n 2, 1) := by decide +kernel
theorem d_MD_gain_81 : decode b_MD_gain 81 = .ok (.lreturn, 1) := by decide +kernel
theorem d_MD_downward_0 : decode b_MD_downward 0 = .ok (.lload_n 0, 1) := by decide +kernel
theorem d_MD_downward_1 : decode b_MD_downward 1 = .ok (.lload_n 2, 1) := by decide +kernel
theorem d_MD_downward_2 : decode b_MD_downward 2 = .ok (.ldiv, 1) := by decide +kernel
theorem d_MD_downward_3 : decode b_MD_downward 3 = .ok (.lstore 4, 2) := by decide +kernel
theorem d_MD_downward_5 : decode b_MD_downward 5 = .ok (.lload_n 0, 1) := by decide +kernel
theorem d_MD_downward_6 : decode b_MD_downward 6 = .ok (.lload_n 2, 1) := by decide +kernel
theorem d_MD_downward_7 : decode b_MD_downward 7 = .ok (.lrem, 1) := by decide +kernel
theorem d_MD_downward_8 : decode b_MD_downward 8 = .ok (.lconst 0, 1) := by decide +kernel
theorem d_MD_downward_9 : decode b_MD_downward 9 = .ok (.lcmp, 1) := by decide +kernel
theorem d_MD_downward_10 : decode b_MD_downward 10 = .ok (.ifCond .ge 10, 3) := by decide +kernel
theorem d_MD_downward_13 : decode b_MD_downward 13 = .ok (.lload 4, 2) := by decide +kernel
theorem d_MD_downward_15 : decode b_MD_downward 15 = .ok (.lconst 1, 1) := by decide +kernel
theorem d_MD_downward_16 : decode b_MD_downward 16 = .ok (.lsub, 1) := by decide +kernel
theorem d_MD_downward_17 : decode b_MD_downward 17 = .ok (.goto 5, 3) := by decide +kernel
theorem d_MD_downward_20 : decode b_MD_downward 20 = .ok (.lload 4, 2) := by decide +kernel
theorem d_MD_downward_22 : decode b_MD_downward 22 = .ok (.lreturn, 1) := by decide +kernel
theorem d_MD_tellOf_0 : decode b_MD_tellOf 0 = .ok (.aload_n 0, 1) := by decide +kernel
theorem d_MD_tellOf_1 : decode b_MD_tellOf 1 = .ok (.getfield 51, 3) := by decide +kernel
theorem d_MD_tellOf_4 : decode b_MD_tellOf 4 = .ok (.iload_n 1, 1) := by decide +kernel
theorem d_MD_tellOf_5 : decode b_MD_tellOf 5 = .ok (.iaload, 1) := by decide +kernel
theorem d_MD_tellOf_6 : decode b_MD_tellOf 6 = .ok (.iconst 1, 1) := by decide +kernel
theorem d_MD_tellOf_7 : decode b_MD_tellOf 7 = .ok (.isub, 1) := by decide +kernel
theorem d_MD_tellOf_8 : decode b_MD_tellOf 8 = .ok (.istore 7, 2) := by decide +kernel
theorem d_MD_tellOf_10 : decode b_MD_tellOf 10 = .ok (.iload 7, 2) := by decide +kernel
theorem d_MD_tellOf_12 : decode b_MD_tellOf 12 = .ok (.ifCond .lt 187, 3) := by decide +kernel
theorem d_MD_tellOf_15 : decode b_MD_tellOf 15 = .ok (.bipush 32, 2) := by decide +kernel
theorem d_MD_tellOf_17 : decode b_MD_tellOf 17 = .ok (.iload_n 1, 1) := by decide +kernel
theorem d_MD_tellOf_18 : decode b_MD_tellOf 18 = .ok (.imul, 1) := by decide +kernel
theorem d_MD_tellOf_19 : decode b_MD_tellOf 19 = .ok (.iload 7, 2) := by decide +kernel
theorem d_MD_tellOf_21 : decode b_MD_tellOf 21 = .ok (.iadd, 1) := by decide +kernel
theorem d_MD_tellOf_22 : decode b_MD_tellOf 22 = .ok (.istore 8, 2) := by decide +kernel
theorem d_MD_tellOf_24 : decode b_MD_tellOf 24 = .ok (.aload_n 0, 1) := by decide +kernel
theorem d_MD_tellOf_25 : decode b_MD_tellOf 25 = .ok (.getfield 54, 3) := by decide +kernel
theorem d_MD_tellOf_28 : decode b_MD_tellOf 28 = .ok (.iload 8, 2) := by decide +kernel
theorem d_MD_tellOf_30 : decode b_MD_tellOf 30 = .ok (.iaload, 1) := by decide +kernel
theorem d_MD_tellOf_31 : decode b_MD_tellOf 31 = .ok (.istore 9, 2) := by decide +kernel
theorem d_MD_tellOf_33 : decode b_MD_tellOf 33 = .ok (.aload_n 0, 1) := by decide +kernel
theorem d_MD_tellOf_34 : decode b_MD_tellOf 34 = .ok (.getfield 63, 3) := by decide +kernel
theorem d_MD_tellOf_37 : decode b_MD_tellOf 37 = .ok (.iload 8, 2) := by decide +kernel
theorem d_MD_tellOf_39 : decode b_MD_tellOf 39 = .ok (.iaload, 1) := by decide +kernel
theorem d_MD_tellOf_40 : decode b_MD_tellOf 40 = .ok (.istore 10, 2) := by decide +kernel
theorem d_MD_tellOf_42 : decode b_MD_tellOf 42 = .ok (.iload 9, 2) := by decide +kernel
theorem d_MD_tellOf_44 : decode b_MD_tellOf 44 = .ok (.ifCond .ge 20, 3) := by decide +kernel
theorem d_MD_tellOf_47 : decode b_MD_tellOf 47 = .ok (.aload_n 0, 1) := by decide +kernel
theorem d_MD_tellOf_48 : decode b_MD_tellOf 48 = .ok (.getfield 84, 3) := by decide +kernel
theorem d_MD_tellOf_51 : decode b_MD_tellOf 51 = .ok (.iload 7, 2) := by decide +kernel
theorem d_MD_tellOf_53 : decode b_MD_tellOf 53 = .ok (.aload_n 0, 1) := by decide +kernel
theorem d_MD_tellOf_54 : decode b_MD_tellOf 54 = .ok (.iload_n 1, 1) := by decide +kernel
theorem d_MD_tellOf_55 : decode b_MD_tellOf 55 = .ok (.iload 7, 2) := by decide +kernel
theorem d_MD_tellOf_57 : decode b_MD_tellOf 57 = .ok (.invokevirtual 133, 3) := by decide +kernel
theorem d_MD_tellOf_60 : decode b_MD_tellOf 60 = .ok (.lastore, 1) := by decide +kernel
theorem d_MD_tellOf_61 : decode b_MD_tellOf 61 = .ok (.goto 132, 3) := by decide +kernel
theorem d_MD_tellOf_64 : decode b_MD_tellOf 64 = .ok (.iload_n 2, 1) := by decide +kernel
theorem d_MD_tellOf_65 : decode b_MD_tellOf 65 = .ok (.iload 9, 2) := by decide +kernel
theorem d_MD_tellOf_67 : decode b_MD_tellOf 67 = .ok (.ishr, 1) := by decide +kernel
theorem d_MD_tellOf_68 : decode b_MD_tellOf 68 = .ok (.iconst 1, 1) := by decide +kernel
theorem d_MD_tellOf_69 : decode b_MD_tellOf 69 = .ok (.iand, 1) := by decide +kernel
theorem d_MD_tellOf_70 : decode b_MD_tellOf 70 = .ok (.iconst 1, 1) := by decide +kernel
theorem d_MD_tellOf_71 : decode b_MD_tellOf 71 = .ok (.if_icmp .ne 58, 3) := by decide +kernel
theorem d_MD_tellOf_74 : decode b_MD_tellOf 74 = .ok (.aload_n 0, 1) := by decide +kernel
theorem d_MD_tellOf_75 : decode b_MD_tellOf 75 = .ok (.getfield 84, 3) := by decide +kernel
theorem d_MD_tellOf_78 : decode b_MD_tellOf 78 = .ok (.iload 7, 2) := by decide +kernel
theorem d_MD_tellOf_80 : decode b_MD_tellOf 80 = .ok (.aload_n 0, 1) := by decide +kernel
theorem d_MD_tellOf_81 : decode b_MD_tellOf 81 = .ok (.getfield 84, 3) := by decide +kernel
theorem d_MD_tellOf_84 : decode b_MD_tellOf 84 = .ok (.iload 10, 2) := by decide +kernel
theorem d_MD_tellOf_86 : decode b_MD_tellOf 86 = .ok (.iload 9, 2) := by decide +kernel
theorem d_MD_tellOf_88 : decode b_MD_tellOf 88 = .ok (.iload_n 3, 1) := by decide +kernel
theorem d_MD_tellOf_89 : decode b_MD_tellOf 89 = .ok (.iload 4, 2) := by decide +kernel
theorem d_MD_tellOf_91 : decode b_MD_tellOf 91 = .ok (.iload 5, 2) := by decide +kernel
theorem d_MD_tellOf_93 : decode b_MD_tellOf 93 = .ok (.iload 6, 2) := by decide +kernel
theorem d_MD_tellOf_95 : decode b_MD_tellOf 95 = .ok (.invokestatic 99, 3) := by decide +kernel
theorem d_MD_tellOf_98 : decode b_MD_tellOf 98 = .ok (.aload_n 0, 1) := by decide +kernel
theorem d_MD_tellOf_99 : decode b_MD_tellOf 99 = .ok (.getfield 57, 3) := by decide +kernel
theorem d_MD_tellOf_102 : decode b_MD_tellOf 102 = .ok (.iload 8, 2) := by decide +kernel
theorem d_MD_tellOf_104 : decode b_MD_tellOf 104 = .ok (.iaload, 1) := by decide +kernel
theorem d_MD_tellOf_105 : decode b_MD_tellOf 105 = .ok (.aload_n 0, 1) := by decide +kernel
theorem d_MD_tellOf_106 : decode b_MD_tellOf 106 = .ok (.getfield 60, 3) := by decide +kernel
theorem d_MD_tellOf_109 : decode b_MD_tellOf 109 = .ok (.iload 8, 2) := by decide +kernel
theorem d_MD_tellOf_111 : decode b_MD_tellOf 111 = .ok (.iaload, 1) := by decide +kernel
theorem d_MD_tellOf_112 : decode b_MD_tellOf 112 = .ok (.invokestatic 147, 3) := by decide +kernel
theorem d_MD_tellOf_115 : decode b_MD_tellOf 115 = .ok (.ifCond .eq 7, 3) := by decide +kernel
theorem d_MD_tellOf_118 : decode b_MD_tellOf 118 = .ok (.iconst 0, 1) := by decide +kernel
theorem d_MD_tellOf_119 : decode b_MD_tellOf 119 = .ok (.goto 4, 3) := by decide +kernel
theorem d_MD_tellOf_122 : decode b_MD_tellOf 122 = .ok (.iconst 1, 1) := by decide +kernel
theorem d_MD_tellOf_123 : decode b_MD_tellOf 123 = .ok (.iadd, 1) := by decide +kernel
theorem d_MD_tellOf_124 : decode b_MD_tellOf 124 = .ok (.laload, 1) := by decide +kernel
theorem d_MD_tellOf_125 : decode b_MD_tellOf 125 = .ok (.lastore, 1) := by decide +kernel
theorem d_MD_tellOf_126 : decode b_MD_tellOf 126 = .ok (.goto 67, 3) := by decide +kernel
theorem d_MD_tellOf_129 : decode b_MD_tellOf 129 = .ok (.bipush 32, 2) := by decide +kernel
theorem d_MD_tellOf_131 : decode b_MD_tellOf 131 = .ok (.iload_n 1, 1) := by decide +kernel
theorem d_MD_tellOf_132 : decode b_MD_tellOf 132 = .ok (.imul, 1) := by decide +kernel
theorem d_MD_tellOf_133 : decode b_MD_tellOf 133 = .ok (.iload 10, 2) := by decide +kernel
theorem d_MD_tellOf_135 : decode b_MD_tellOf 135 = .ok (.iadd, 1) := by decide +kernel
theorem d_MD_tellOf_136 : decode b_MD_tellOf 136 = .ok (.istore 11, 2) := by decide +kernel
theorem d_MD_tellOf_138 : decode b_MD_tellOf 138 = .ok (.aload_n 0, 1) := by decide +kernel
theorem d_MD_tellOf_139 : decode b_MD_tellOf 139 = .ok (.getfield 84, 3) := by decide +kernel
theorem d_MD_tellOf_142 : decode b_MD_tellOf 142 = .ok (.iload 7, 2) := by decide +kernel
theorem d_MD_tellOf_144 : decode b_MD_tellOf 144 = .ok (.aload_n 0, 1) := by decide +kernel
theorem d_MD_tellOf_145 : decode b_MD_tellOf 145 = .ok (.getfield 84, 3) := by decide +kernel
theorem d_MD_tellOf_148 : decode b_MD_tellOf 148 = .ok (.iload 10, 2) := by decide +kernel
theorem d_MD_tellOf_150 : decode b_MD_tellOf 150 = .ok (.laload, 1) := by decide +kernel
theorem d_MD_tellOf_151 : decode b_MD_tellOf 151 = .ok (.aload_n 0, 1) := by decide +kernel
theorem d_MD_tellOf_152 : decode b_MD_tellOf 152 = .ok (.getfield 66, 3) := by decide +kernel
theorem d_MD_tellOf_155 : decode b_MD_tellOf 155 = .ok (.iload 11, 2) := by decide +kernel
theorem d_MD_tellOf_157 : decode b_MD_tellOf 157 = .ok (.iaload, 1) := by decide +kernel
theorem d_MD_tellOf_158 : decode b_MD_tellOf 158 = .ok (.i2l, 1) := by decide +kernel
theorem d_MD_tellOf_159 : decode b_MD_tellOf 159 = .ok (.lmul, 1) := by decide +kernel
theorem d_MD_tellOf_160 : decode b_MD_tellOf 160 = .ok (.aload_n 0, 1) := by decide +kernel
theorem d_MD_tellOf_161 : decode b_MD_tellOf 161 = .ok (.getfield 84, 3) := by decide +kernel
theorem d_MD_tellOf_164 : decode b_MD_tellOf 164 = .ok (.iload 10, 2) := by decide +kernel
theorem d_MD_tellOf_166 : decode b_MD_tellOf 166 = .ok (.iconst 1, 1) := by decide +kernel
theorem d_MD_tellOf_167 : decode b_MD_tellOf 167 = .ok (.iadd, 1) := by decide +kernel
theorem d_MD_tellOf_168 : decode b_MD_tellOf 168 = .ok (.laload, 1) := by decide +kernel
theorem d_MD_tellOf_169 : decode b_MD_tellOf 169 = .ok (.aload_n 0, 1) := by decide +kernel
theorem d_MD_tellOf_170 : decode b_MD_tellOf 170 = .ok (.getfield 66, 3) := by decide +kernel
theorem d_MD_tellOf_173 : decode b_MD_tellOf 173 = .ok (.iload 11, 2) := by decide +kernel
theorem d_MD_tellOf_175 : decode b_MD_tellOf 175 = .ok (.iconst 1, 1) := by decide +kernel
theorem d_MD_tellOf_176 : decode b_MD_tellOf 176 = .ok (.iadd, 1) := by decide +kernel
theorem d_MD_tellOf_177 : decode b_MD_tellOf 177 = .ok (.iaload, 1) := by decide +kernel
theorem d_MD_tellOf_178 : decode b_MD_tellOf 178 = .ok (.i2l, 1) := by decide +kernel
theorem d_MD_tellOf_179 : decode b_MD_tellOf 179 = .ok (.lmul, 1) := by decide +kernel
theorem d_MD_tellOf_180 : decode b_MD_tellOf 180 = .ok (.ladd, 1) := by decide +kernel
theorem d_MD_tellOf_181 : decode b_MD_tellOf 181 = .ok (.aload_n 0, 1) := by decide +kernel
theorem d_MD_tellOf_182 : decode b_MD_tellOf 182 = .ok (.getfield 66, 3) := by decide +kernel
theorem d_MD_tellOf_185 : decode b_MD_tellOf 185 = .ok (.iload 8, 2) := by decide +kernel
theorem d_MD_tellOf_187 : decode b_MD_tellOf 187 = .ok (.iaload, 1) := by decide +kernel
theorem d_MD_tellOf_188 : decode b_MD_tellOf 188 = .ok (.i2l, 1) := by decide +kernel
theorem d_MD_tellOf_189 : decode b_MD_tellOf 189 = .ok (.invokestatic 192, 3) := by decide +kernel
theorem d_MD_tellOf_192 : decode b_MD_tellOf 192 = .ok (.lastore, 1) := by decide +kernel
theorem d_MD_tellOf_193 : decode b_MD_tellOf 193 = .ok (.iinc 7 (-1), 3) := by decide +kernel
theorem d_MD_tellOf_196 : decode b_MD_tellOf 196 = .ok (.goto (-186), 3) := by decide +kernel
theorem d_MD_tellOf_199 : decode b_MD_tellOf 199 = .ok (.aload_n 0, 1) := by decide +kernel
theorem d_MD_tellOf_200 : decode b_MD_tellOf 200 = .ok (.getfield 84, 3) := by decide +kernel
theorem d_MD_tellOf_203 : decode b_MD_tellOf 203 = .ok (.iconst 0, 1) := by decide +kernel
theorem d_MD_tellOf_204 : decode b_MD_tellOf 204 = .ok (.laload, 1) := by decide +kernel
theorem d_MD_tellOf_205 : decode b_MD_tellOf 205 = .ok (.lreturn, 1) := by decide +kernel
theorem d_MD_allTell_0 : decode b_MD_allTell 0 = .ok (.ldc2_w 118, 3) := by decide +kernel
theorem d_MD_allTell_3 : decode b_MD_allTell 3 = .ok (.aload_n 0, 1) := by decide +kernel
theorem d_MD_allTell_4 : decode b_MD_allTell 4 = .ok (.getfield 38, 3) := by decide +kernel
theorem d_MD_allTell_7 : decode b_MD_allTell 7 = .ok (.bipush 9, 2) := by decide +kernel
theorem d_MD_allTell_9 : decode b_MD_allTell 9 = .ok (.iaload, 1) := by decide +kernel
theorem d_MD_allTell_10 : decode b_MD_allTell 10 = .ok (.i2l, 1) := by decide +kernel
theorem d_MD_allTell_11 : decode b_MD_allTell 11 = .ok (.lmul, 1) := by decide +kernel
theorem d_MD_allTell_12 : decode b_MD_allTell 12 = .ok (.lstore 6, 2) := by decide +kernel
theorem d_MD_allTell_14 : decode b_MD_allTell 14 = .ok (.iconst 0, 1) := by decide +kernel
theorem d_MD_allTell_15 : decode b_MD_allTell 15 = .ok (.istore 8, 2) := by decide +kernel
theorem d_MD_allTell_17 : decode b_MD_allTell 17 = .ok (.iload 8, 2) := by decide +kernel
theorem d_MD_allTell_19 : decode b_MD_allTell 19 = .ok (.aload_n 0, 1) := by decide +kernel
theorem d_MD_allTell_20 : decode b_MD_allTell 20 = .ok (.getfield 120, 3) := by decide +kernel
theorem d_MD_allTell_23 : decode b_MD_allTell 23 = .ok (.if_icmp .ge 27, 3) := by decide +kernel
theorem d_MD_allTell_26 : decode b_MD_allTell 26 = .ok (.lload 6, 2) := by decide +kernel
theorem d_MD_allTell_28 : decode b_MD_allTell 28 = .ok (.aload_n 0, 1) := by decide +kernel
theorem d_MD_allTell_29 : decode b_MD_allTell 29 = .ok (.iload 8, 2) := by decide +kernel
theorem d_MD_allTell_31 : decode b_MD_allTell 31 = .ok (.iload_n 1, 1) := by decide +kernel
theorem d_MD_allTell_32 : decode b_MD_allTell 32 = .ok (.iload_n 2, 1) := by decide +kernel
theorem d_MD_allTell_33 : decode b_MD_allTell 33 = .ok (.iload_n 3, 1) := by decide +kernel
theorem d_MD_allTell_34 : decode b_MD_allTell 34 = .ok (.iload 4, 2) := by decide +kernel
theorem d_MD_allTell_36 : decode b_MD_allTell 36 = .ok (.iload 5, 2) := by decide +kernel
theorem d_MD_allTell_38 : decode b_MD_allTell 38 = .ok (.invokevirtual 196, 3) := by decide +kernel
theorem d_MD_allTell_41 : decode b_MD_allTell 41 = .ok (.ladd, 1) := by decide +kernel
theorem d_MD_allTell_42 : decode b_MD_allTell 42 = .ok (.lstore 6, 2) := by decide +kernel
theorem d_MD_allTell_44 : decode b_MD_allTell 44 = .ok (.iinc 8 1, 3) := by decide +kernel
theorem d_MD_allTell_47 : decode b_MD_allTell 47 = .ok (.goto (-30), 3) := by decide +kernel
theorem d_MD_allTell_50 : decode b_MD_allTell 50 = .ok (.lload 6, 2) := by decide +kernel
theorem d_MD_allTell_52 : decode b_MD_allTell 52 = .ok (.lreturn, 1) := by decide +kernel
theorem d_MD_told_0 : decode b_MD_told 0 = .ok (.iload_n 1, 1) := by decide +kernel
theorem d_MD_told_1 : decode b_MD_told 1 = .ok (.ifCond .lt 21, 3) := by decide +kernel
theorem d_MD_told_4 : decode b_MD_told 4 = .ok (.iload_n 1, 1) := by decide +kernel
theorem d_MD_told_5 : decode b_MD_told 5 = .ok (.bipush 15, 2) := by decide +kernel
theorem d_MD_told_7 : decode b_MD_told 7 = .ok (.if_icmp .gt 15, 3) := by decide +kernel
theorem d_MD_told_10 : decode b_MD_told 10 = .ok (.iload_n 2, 1) := by decide +kernel
theorem d_MD_told_11 : decode b_MD_told 11 = .ok (.iload_n 3, 1) := by decide +kernel
theorem d_MD_told_12 : decode b_MD_told 12 = .ok (.iload 4, 2) := by decide +kernel
theorem d_MD_told_14 : decode b_MD_told 14 = .ok (.iload 5, 2) := by decide +kernel
theorem d_MD_told_16 : decode b_MD_told 16 = .ok (.invokestatic 91, 3) := by decide +kernel
theorem d_MD_told_19 : decode b_MD_told 19 = .ok (.ifCond .ne 7, 3) := by decide +kernel
theorem d_MD_told_22 : decode b_MD_told 22 = .ok (.lconst 0, 1) := by decide +kernel
theorem d_MD_told_23 : decode b_MD_told 23 = .ok (.goto 14, 3) := by decide +kernel
theorem d_MD_told_26 : decode b_MD_told 26 = .ok (.aload_n 0, 1) := by decide +kernel
theorem d_MD_told_27 : decode b_MD_told 27 = .ok (.iload_n 1, 1) := by decide +kernel
theorem d_MD_told_28 : decode b_MD_told 28 = .ok (.iload_n 2, 1) := by decide +kernel
theorem d_MD_told_29 : decode b_MD_told 29 = .ok (.iload_n 3, 1) := by decide +kernel
theorem d_MD_told_30 : decode b_MD_told 30 = .ok (.iload 4, 2) := by decide +kernel
theorem d_MD_told_32 : decode b_MD_told 32 = .ok (.iload 5, 2) := by decide +kernel
theorem d_MD_told_34 : decode b_MD_told 34 = .ok (.invokevirtual 200, 3) := by decide +kernel
theorem d_MD_told_37 : decode b_MD_told 37 = .ok (.lreturn, 1) := by decide +kernel
theorem d_MD_share_0 : decode b_MD_share 0 = .ok (.iload_n 1, 1) := by decide +kernel
theorem d_MD_share_1 : decode b_MD_share 1 = .ok (.ifCond .lt 20, 3) := by decide +kernel
theorem d_MD_share_4 : decode b_MD_share 4 = .ok (.iload_n 1, 1) := by decide +kernel
theorem d_MD_share_5 : decode b_MD_share 5 = .ok (.iconst 4, 1) := by decide +kernel
theorem d_MD_share_6 : decode b_MD_share 6 = .ok (.if_icmp .ge 15, 3) := by decide +kernel
theorem d_MD_share_9 : decode b_MD_share 9 = .ok (.iload_n 2, 1) := by decide +kernel
theorem d_MD_share_10 : decode b_MD_share 10 = .ok (.iload_n 3, 1) := by decide +kernel
theorem d_MD_share_11 : decode b_MD_share 11 = .ok (.iload 4, 2) := by decide +kernel
theorem d_MD_share_13 : decode b_MD_share 13 = .ok (.iload 5, 2) := by decide +kernel
theorem d_MD_share_15 : decode b_MD_share 15 = .ok (.invokestatic 91, 3) := by decide +kernel
theorem d_MD_share_18 : decode b_MD_share 18 = .ok (.ifCond .ne 5, 3) := by decide +kernel
theorem d_MD_share_21 : decode b_MD_share 21 = .ok (.lconst 0, 1) := by decide +kernel
theorem d_MD_share_22 : decode b_MD_share 22 = .ok (.lreturn, 1) := by decide +kernel
theorem d_MD_share_23 : decode b_MD_share 23 = .ok (.lconst 0, 1) := by decide +kernel
theorem d_MD_share_24 : decode b_MD_share 24 = .ok (.lstore 6, 2) := by decide +kernel
theorem d_MD_share_26 : decode b_MD_share 26 = .ok (.iconst 0, 1) := by decide +kernel
theorem d_MD_share_27 : decode b_MD_share 27 = .ok (.istore 8, 2) := by decide +kernel
theorem d_MD_share_29 : decode b_MD_share 29 = .ok (.iload 8, 2) := by decide +kernel
theorem d_MD_share_31 : decode b_MD_share 31 = .ok (.bipush 16, 2) := by decide +kernel
theorem d_MD_share_33 : decode b_MD_share 33 = .ok (.if_icmp .ge 104, 3) := by decide +kernel
theorem d_MD_share_36 : decode b_MD_share 36 = .ok (.iload 8, 2) := by decide +kernel
theorem d_MD_share_38 : decode b_MD_share 38 = .ok (.iload_n 1, 1) := by decide +kernel
theorem d_MD_share_39 : decode b_MD_share 39 = .ok (.ishr, 1) := by decide +kernel
theorem d_MD_share_40 : decode b_MD_share 40 = .ok (.iconst 1, 1) := by decide +kernel
theorem d_MD_share_41 : decode b_MD_share 41 = .ok (.iand, 1) := by decide +kernel
theorem d_MD_share_42 : decode b_MD_share 42 = .ok (.ifCond .ne 89, 3) := by decide +kernel
theorem d_MD_share_45 : decode b_MD_share 45 = .ok (.iload 8, 2) := by decide +kernel
theorem d_MD_share_47 : decode b_MD_share 47 = .ok (.iconst 1, 1) := by decide +kernel
theorem d_MD_share_48 : decode b_MD_share 48 = .ok (.iand, 1) := by decide +kernel
theorem d_MD_share_49 : decode b_MD_share 49 = .ok (.iload 8, 2) := by decide +kernel
theorem d_MD_share_51 : decode b_MD_share 51 = .ok (.iconst 1, 1) := by decide +kernel
theorem d_MD_share_52 : decode b_MD_share 52 = .ok (.ishr, 1) := by decide +kernel
theorem d_MD_share_53 : decode b_MD_share 53 = .ok (.iconst 1, 1) := by decide +kernel
theorem d_MD_share_54 : decode b_MD_share 54 = .ok (.iand, 1) := by decide +kernel
theorem d_MD_share_55 : decode b_MD_share 55 = .ok (.iadd, 1) := by decide +kernel
theorem d_MD_share_56 : decode b_MD_share 56 = .ok (.iload 8, 2) := by decide +kernel
theorem d_MD_share_58 : decode b_MD_share 58 = .ok (.iconst 2, 1) := by decide +kernel
theorem d_MD_share_59 : decode b_MD_share 59 = .ok (.ishr, 1) := by decide +kernel
theorem d_MD_share_60 : decode b_MD_share 60 = .ok (.iconst 1, 1) := by decide +kernel
theorem d_MD_share_61 : decode b_MD_share 61 = .ok (.iand, 1) := by decide +kernel
theorem d_MD_share_62 : decode b_MD_share 62 = .ok (.iadd, 1) := by decide +kernel
theorem d_MD_share_63 : decode b_MD_share 63 = .ok (.iload 8, 2) := by decide +kernel
theorem d_MD_share_65 : decode b_MD_share 65 = .ok (.iconst 3, 1) := by decide +kernel
theorem d_MD_share_66 : decode b_MD_share 66 = .ok (.ishr, 1) := by decide +kernel
theorem d_MD_share_67 : decode b_MD_share 67 = .ok (.iconst 1, 1) := by decide +kernel
theorem d_MD_share_68 : decode b_MD_share 68 = .ok (.iand, 1) := by decide +kernel
theorem d_MD_share_69 : decode b_MD_share 69 = .ok (.iadd, 1) := by decide +kernel
theorem d_MD_share_70 : decode b_MD_share 70 = .ok (.istore 9, 2) := by decide +kernel
theorem d_MD_share_72 : decode b_MD_share 72 = .ok (.aload_n 0, 1) := by decide +kernel
theorem d_MD_share_73 : decode b_MD_share 73 = .ok (.iload 8, 2) := by decide +kernel
theorem d_MD_share_75 : decode b_MD_share 75 = .ok (.iconst 1, 1) := by decide +kernel
theorem d_MD_share_76 : decode b_MD_share 76 = .ok (.iload_n 1, 1) := by decide +kernel
theorem d_MD_share_77 : decode b_MD_share 77 = .ok (.ishl, 1) := by decide +kernel
theorem d_MD_share_78 : decode b_MD_share 78 = .ok (.ior, 1) := by decide +kernel
theorem d_MD_share_79 : decode b_MD_share 79 = .ok (.iload_n 2, 1) := by decide +kernel
theorem d_MD_share_80 : decode b_MD_share 80 = .ok (.iload_n 3, 1) := by decide +kernel
theorem d_MD_share_81 : decode b_MD_share 81 = .ok (.iload 4, 2) := by decide +kernel
theorem d_MD_share_83 : decode b_MD_share 83 = .ok (.iload 5, 2) := by decide +kernel
theorem d_MD_share_85 : decode b_MD_share 85 = .ok (.invokevirtual 200, 3) := by decide +kernel
theorem d_MD_share_88 : decode b_MD_share 88 = .ok (.aload_n 0, 1) := by decide +kernel
theorem d_MD_share_89 : decode b_MD_share 89 = .ok (.iload 8, 2) := by decide +kernel
theorem d_MD_share_91 : decode b_MD_share 91 = .ok (.iload_n 2, 1) := by decide +kernel
theorem d_MD_share_92 : decode b_MD_share 92 = .ok (.iload_n 3, 1) := by decide +kernel
theorem d_MD_share_93 : decode b_MD_share 93 = .ok (.iload 4, 2) := by decide +kernel
theorem d_MD_share_95 : decode b_MD_share 95 = .ok (.iload 5, 2) := by decide +kernel
theorem d_MD_share_97 : decode b_MD_share 97 = .ok (.invokevirtual 200, 3) := by decide +kernel
theorem d_MD_share_100 : decode b_MD_share 100 = .ok (.lsub, 1) := by decide +kernel
theorem d_MD_share_101 : decode b_MD_share 101 = .ok (.lstore 10, 2) := by decide +kernel
theorem d_MD_share_103 : decode b_MD_share 103 = .ok (.lload 6, 2) := by decide +kernel
theorem d_MD_share_105 : decode b_MD_share 105 = .ok (.lload 10, 2) := by decide +kernel
theorem d_MD_share_107 : decode b_MD_share 107 = .ok (.iload 9, 2) := by decide +kernel
theorem d_MD_share_109 : decode b_MD_share 109 = .ok (.ifCond .eq 9, 3) := by decide +kernel
theorem d_MD_share_112 : decode b_MD_share 112 = .ok (.iload 9, 2) := by decide +kernel
theorem d_MD_share_114 : decode b_MD_share 114 = .ok (.iconst 3, 1) := by decide +kernel
theorem d_MD_share_115 : decode b_MD_share 115 = .ok (.if_icmp .ne 9, 3) := by decide +kernel
theorem d_MD_share_118 : decode b_MD_share 118 = .ok (.ldc2_w 203, 3) := by decide +kernel
theorem d_MD_share_121 : decode b_MD_share 121 = .ok (.goto 6, 3) := by decide +kernel
theorem d_MD_share_124 : decode b_MD_share 124 = .ok (.ldc2_w 205, 3) := by decide +kernel
theorem d_MD_share_127 : decode b_MD_share 127 = .ok (.lmul, 1) := by decide +kernel
theorem d_MD_share_128 : decode b_MD_share 128 = .ok (.ladd, 1) := by decide +kernel
theorem d_MD_share_129 : decode b_MD_share 129 = .ok (.lstore 6, 2) := by decide +kernel
theorem d_MD_share_131 : decode b_MD_share 131 = .ok (.iinc 8 1, 3) := by decide +kernel
theorem d_MD_share_134 : decode b_MD_share 134 = .ok (.goto (-105), 3) := by decide +kernel
theorem d_MD_share_137 : decode b_MD_share 137 = .ok (.lload 6, 2) := by decide +kernel
theorem d_MD_share_139 : decode b_MD_share 139 = .ok (.lreturn, 1) := by decide +kernel
theorem d_MD_count_0 : decode b_MD_count 0 = .ok (.iload_n 1, 1) := by decide +kernel
theorem d_MD_count_1 : decode b_MD_count 1 = .ok (.ifCond .lt 9, 3) := by decide +kernel
theorem d_MD_count_4 : decode b_MD_count 4 = .ok (.iload_n 1, 1) := by decide +kernel
theorem d_MD_count_5 : decode b_MD_count 5 = .ok (.bipush 19, 2) := by decide +kernel
theorem d_MD_count_7 : decode b_MD_count 7 = .ok (.if_icmp .lt 6, 3) := by decide +kernel
theorem d_MD_count_10 : decode b_MD_count 10 = .ok (.bipush (-2), 2) := by decide +kernel
theorem d_MD_count_12 : decode b_MD_count 12 = .ok (.ireturn, 1) := by decide +kernel
theorem d_MD_count_13 : decode b_MD_count 13 = .ok (.iconst 0, 1) := by decide +kernel
theorem d_MD_count_14 : decode b_MD_count 14 = .ok (.istore_n 2, 1) := by decide +kernel
theorem d_MD_count_15 : decode b_MD_count 15 = .ok (.iconst 0, 1) := by decide +kernel
theorem d_MD_count_16 : decode b_MD_count 16 = .ok (.istore_n 3, 1) := by decide +kernel
theorem d_MD_count_17 : decode b_MD_count 17 = .ok (.iload_n 3, 1) := by decide +kernel
theorem d_MD_count_18 : decode b_MD_count 18 = .ok (.aload_n 0, 1) := by decide +kernel
theorem d_MD_count_19 : decode b_MD_count 19 = .ok (.getfield 95, 3) := by decide +kernel
theorem d_MD_count_22 : decode b_MD_count 22 = .ok (.if_icmp .ge 26, 3) := by decide +kernel
theorem d_MD_count_25 : decode b_MD_count 25 = .ok (.iload_n 2, 1) := by decide +kernel
theorem d_MD_count_26 : decode b_MD_count 26 = .ok (.aload_n 0, 1) := by decide +kernel
theorem d_MD_count_27 : decode b_MD_count 27 = .ok (.getfield 19, 3) := by decide +kernel
theorem d_MD_count_30 : decode b_MD_count 30 = .ok (.iload_n 3, 1) := by decide +kernel
theorem d_MD_count_31 : decode b_MD_count 31 = .ok (.baload, 1) := by decide +kernel
theorem d_MD_count_32 : decode b_MD_count 32 = .ok (.ifCond .eq 7, 3) := by decide +kernel
theorem d_MD_count_35 : decode b_MD_count 35 = .ok (.iconst 1, 1) := by decide +kernel
theorem d_MD_count_36 : decode b_MD_count 36 = .ok (.goto 4, 3) := by decide +kernel
theorem d_MD_count_39 : decode b_MD_count 39 = .ok (.iconst 0, 1) := by decide +kernel
theorem d_MD_count_40 : decode b_MD_count 40 = .ok (.iadd, 1) := by decide +kernel
theorem d_MD_count_41 : decode b_MD_count 41 = .ok (.istore_n 2, 1) := by decide +kernel
theorem d_MD_count_42 : decode b_MD_count 42 = .ok (.iinc 3 1, 3) := by decide +kernel
theorem d_MD_count_45 : decode b_MD_count 45 = .ok (.goto (-28), 3) := by decide +kernel
theorem d_MD_count_48 : decode b_MD_count 48 = .ok (.iload_n 1, 1) := by decide +kernel
theorem d_MD_count_49 : decode b_MD_count 49 = .ok (.ifCond .ne 10, 3) := by decide +kernel
theorem d_MD_count_52 : decode b_MD_count 52 = .ok (.aload_n 0, 1) := by decide +kernel
theorem d_MD_count_53 : decode b_MD_count 53 = .ok (.getfield 95, 3) := by decide +kernel
theorem d_MD_count_56 : decode b_MD_count 56 = .ok (.goto 44, 3) := by decide +kernel
theorem d_MD_count_59 : decode b_MD_count 59 = .ok (.iload_n 1, 1) := by decide +kernel
theorem d_MD_count_60 : decode b_MD_count 60 = .ok (.iconst 1, 1) := by decide +kernel
theorem d_MD_count_61 : decode b_MD_count 61 = .ok (.if_icmp .ne 7, 3) := by decide +kernel
theorem d_MD_count_64 : decode b_MD_count 64 = .ok (.iload_n 2, 1) := by decide +kernel
theorem d_MD_count_65 : decode b_MD_count 65 = .ok (.goto 35, 3) := by decide +kernel
theorem d_MD_count_68 : decode b_MD_count 68 = .ok (.iload_n 1, 1) := by decide +kernel
theorem d_MD_count_69 : decode b_MD_count 69 = .ok (.iconst 2, 1) := by decide +kernel
theorem d_MD_count_70 : decode b_MD_count 70 = .ok (.if_icmp .ne 10, 3) := by decide +kernel
theorem d_MD_count_73 : decode b_MD_count 73 = .ok (.aload_n 0, 1) := by decide +kernel
theorem d_MD_count_74 : decode b_MD_count 74 = .ok (.getfield 120, 3) := by decide +kernel
theorem d_MD_count_77 : decode b_MD_count 77 = .ok (.goto 23, 3) := by decide +kernel
theorem d_MD_count_80 : decode b_MD_count 80 = .ok (.iload_n 1, 1) := by decide +kernel
theorem d_MD_count_81 : decode b_MD_count 81 = .ok (.iconst 3, 1) := by decide +kernel
theorem d_MD_count_82 : decode b_MD_count 82 = .ok (.if_icmp .ne 10, 3) := by decide +kernel
theorem d_MD_count_85 : decode b_MD_count 85 = .ok (.aload_n 0, 1) := by decide +kernel
theorem d_MD_count_86 : decode b_MD_count 86 = .ok (.getfield 115, 3) := by decide +kernel
theorem d_MD_count_89 : decode b_MD_count 89 = .ok (.goto 11, 3) := by decide +kernel
theorem d_MD_count_92 : decode b_MD_count 92 = .ok (.aload_n 0, 1) := by decide +kernel
theorem d_MD_count_93 : decode b_MD_count 93 = .ok (.getfield 23, 3) := by decide +kernel
theorem d_MD_count_96 : decode b_MD_count 96 = .ok (.iload_n 1, 1) := by decide +kernel
theorem d_MD_count_97 : decode b_MD_count 97 = .ok (.iconst 4, 1) := by decide +kernel
theorem d_MD_count_98 : decode b_MD_count 98 = .ok (.isub, 1) := by decide +kernel
theorem d_MD_count_99 : decode b_MD_count 99 = .ok (.iaload, 1) := by decide +kernel
theorem d_MD_count_100 : decode b_MD_count 100 = .ok (.ireturn, 1) := by decide +kernel
