theorem dX12_init_0 : decode cX12_init 0 = .ok (.aload_n 0, 1) := by decide +kernel
theorem dX12_init_1 : decode cX12_init 1 = .ok (.invokespecial 1, 3) := by decide +kernel
theorem dX12_init_4 : decode cX12_init 4 = .ok (.aload_n 0, 1) := by decide +kernel
theorem dX12_init_5 : decode cX12_init 5 = .ok (.iconst 3, 1) := by decide +kernel
theorem dX12_init_6 : decode cX12_init 6 = .ok (.newarray .int, 2) := by decide +kernel
theorem dX12_init_8 : decode cX12_init 8 = .ok (.putfield 7, 3) := by decide +kernel
theorem dX12_init_11 : decode cX12_init 11 = .ok (.aload_n 0, 1) := by decide +kernel
theorem dX12_init_12 : decode cX12_init 12 = .ok (.iconst 3, 1) := by decide +kernel
theorem dX12_init_13 : decode cX12_init 13 = .ok (.newarray .int, 2) := by decide +kernel
theorem dX12_init_15 : decode cX12_init 15 = .ok (.putfield 13, 3) := by decide +kernel
theorem dX12_init_18 : decode cX12_init 18 = .ok (.aload_n 0, 1) := by decide +kernel
theorem dX12_init_19 : decode cX12_init 19 = .ok (.bipush 36, 2) := by decide +kernel
theorem dX12_init_21 : decode cX12_init 21 = .ok (.newarray .int, 2) := by decide +kernel
theorem dX12_init_23 : decode cX12_init 23 = .ok (.putfield 16, 3) := by decide +kernel
theorem dX12_init_26 : decode cX12_init 26 = .ok (.aload_n 0, 1) := by decide +kernel
theorem dX12_init_27 : decode cX12_init 27 = .ok (.bipush 12, 2) := by decide +kernel
theorem dX12_init_29 : decode cX12_init 29 = .ok (.newarray .int, 2) := by decide +kernel
theorem dX12_init_31 : decode cX12_init 31 = .ok (.putfield 19, 3) := by decide +kernel
theorem dX12_init_34 : decode cX12_init 34 = .ok (.aload_n 0, 1) := by decide +kernel
theorem dX12_init_35 : decode cX12_init 35 = .ok (.bipush 12, 2) := by decide +kernel
theorem dX12_init_37 : decode cX12_init 37 = .ok (.newarray .int, 2) := by decide +kernel
theorem dX12_init_39 : decode cX12_init 39 = .ok (.putfield 22, 3) := by decide +kernel
theorem dX12_init_42 : decode cX12_init 42 = .ok (.aload_n 0, 1) := by decide +kernel
theorem dX12_init_43 : decode cX12_init 43 = .ok (.bipush 9, 2) := by decide +kernel
theorem dX12_init_45 : decode cX12_init 45 = .ok (.newarray .int, 2) := by decide +kernel
theorem dX12_init_47 : decode cX12_init 47 = .ok (.putfield 25, 3) := by decide +kernel
theorem dX12_init_50 : decode cX12_init 50 = .ok (.aload_n 0, 1) := by decide +kernel
theorem dX12_init_51 : decode cX12_init 51 = .ok (.bipush 12, 2) := by decide +kernel
theorem dX12_init_53 : decode cX12_init 53 = .ok (.newarray .boolean, 2) := by decide +kernel
theorem dX12_init_55 : decode cX12_init 55 = .ok (.putfield 28, 3) := by decide +kernel
theorem dX12_init_58 : decode cX12_init 58 = .ok (.aload_n 0, 1) := by decide +kernel
theorem dX12_init_59 : decode cX12_init 59 = .ok (.iconst 3, 1) := by decide +kernel
theorem dX12_init_60 : decode cX12_init 60 = .ok (.newarray .boolean, 2) := by decide +kernel
theorem dX12_init_62 : decode cX12_init 62 = .ok (.putfield 32, 3) := by decide +kernel
theorem dX12_init_65 : decode cX12_init 65 = .ok (.aload_n 0, 1) := by decide +kernel
theorem dX12_init_66 : decode cX12_init 66 = .ok (.bipush 30, 2) := by decide +kernel
theorem dX12_init_68 : decode cX12_init 68 = .ok (.newarray .char, 2) := by decide +kernel
theorem dX12_init_70 : decode cX12_init 70 = .ok (.putfield 35, 3) := by decide +kernel
theorem dX12_init_73 : decode cX12_init 73 = .ok (.aload_n 0, 1) := by decide +kernel
theorem dX12_init_74 : decode cX12_init 74 = .ok (.iconst 0, 1) := by decide +kernel
theorem dX12_init_75 : decode cX12_init 75 = .ok (.putfield 39, 3) := by decide +kernel
theorem dX12_init_78 : decode cX12_init 78 = .ok (.aload_n 0, 1) := by decide +kernel
theorem dX12_init_79 : decode cX12_init 79 = .ok (.iconst 0, 1) := by decide +kernel
theorem dX12_init_80 : decode cX12_init 80 = .ok (.putfield 43, 3) := by decide +kernel
theorem dX12_init_83 : decode cX12_init 83 = .ok (.aload_n 0, 1) := by decide +kernel
theorem dX12_init_84 : decode cX12_init 84 = .ok (.iconst 0, 1) := by decide +kernel
theorem dX12_init_85 : decode cX12_init 85 = .ok (.putfield 46, 3) := by decide +kernel
theorem dX12_init_88 : decode cX12_init 88 = .ok (.aload_n 0, 1) := by decide +kernel
theorem dX12_init_89 : decode cX12_init 89 = .ok (.iconst 0, 1) := by decide +kernel
theorem dX12_init_90 : decode cX12_init 90 = .ok (.putfield 49, 3) := by decide +kernel
theorem dX12_init_93 : decode cX12_init 93 = .ok (.aload_n 0, 1) := by decide +kernel
theorem dX12_init_94 : decode cX12_init 94 = .ok (.iconst 0, 1) := by decide +kernel
theorem dX12_init_95 : decode cX12_init 95 = .ok (.putfield 52, 3) := by decide +kernel
theorem dX12_init_98 : decode cX12_init 98 = .ok (.aload_n 0, 1) := by decide +kernel
theorem dX12_init_99 : decode cX12_init 99 = .ok (.iconst 3, 1) := by decide +kernel
theorem dX12_init_100 : decode cX12_init 100 = .ok (.newarray .int, 2) := by decide +kernel
theorem dX12_init_102 : decode cX12_init 102 = .ok (.putfield 55, 3) := by decide +kernel
theorem dX12_init_105 : decode cX12_init 105 = .ok (.aload_n 0, 1) := by decide +kernel
theorem dX12_init_106 : decode cX12_init 106 = .ok (.iconst 0, 1) := by decide +kernel
theorem dX12_init_107 : decode cX12_init 107 = .ok (.putfield 58, 3) := by decide +kernel
theorem dX12_init_110 : decode cX12_init 110 = .ok (.aload_n 0, 1) := by decide +kernel
theorem dX12_init_111 : decode cX12_init 111 = .ok (.iconst 0, 1) := by decide +kernel
theorem dX12_init_112 : decode cX12_init 112 = .ok (.putfield 61, 3) := by decide +kernel
theorem dX12_init_115 : decode cX12_init 115 = .ok (.aload_n 0, 1) := by decide +kernel
theorem dX12_init_116 : decode cX12_init 116 = .ok (.iconst 0, 1) := by decide +kernel
theorem dX12_init_117 : decode cX12_init 117 = .ok (.putfield 64, 3) := by decide +kernel
theorem dX12_init_120 : decode cX12_init 120 = .ok (.aload_n 0, 1) := by decide +kernel
theorem dX12_init_121 : decode cX12_init 121 = .ok (.bipush 45, 2) := by decide +kernel
theorem dX12_init_123 : decode cX12_init 123 = .ok (.putfield 67, 3) := by decide +kernel
theorem dX12_init_126 : decode cX12_init 126 = .ok (.aload_n 0, 1) := by decide +kernel
theorem dX12_init_127 : decode cX12_init 127 = .ok (.bipush 48, 2) := by decide +kernel
theorem dX12_init_129 : decode cX12_init 129 = .ok (.newarray .long, 2) := by decide +kernel
theorem dX12_init_131 : decode cX12_init 131 = .ok (.putfield 71, 3) := by decide +kernel
theorem dX12_init_134 : decode cX12_init 134 = .ok (.aload_n 0, 1) := by decide +kernel
theorem dX12_init_135 : decode cX12_init 135 = .ok (.bipush 16, 2) := by decide +kernel
theorem dX12_init_137 : decode cX12_init 137 = .ok (.newarray .long, 2) := by decide +kernel
theorem dX12_init_139 : decode cX12_init 139 = .ok (.putfield 75, 3) := by decide +kernel
theorem dX12_init_142 : decode cX12_init 142 = .ok (.aload_n 0, 1) := by decide +kernel
theorem dX12_init_143 : decode cX12_init 143 = .ok (.sipush 1800, 3) := by decide +kernel
theorem dX12_init_146 : decode cX12_init 146 = .ok (.newarray .long, 2) := by decide +kernel
theorem dX12_init_148 : decode cX12_init 148 = .ok (.putfield 78, 3) := by decide +kernel
theorem dX12_init_151 : decode cX12_init 151 = .ok (.aload_n 0, 1) := by decide +kernel
theorem dX12_init_152 : decode cX12_init 152 = .ok (.sipush 600, 3) := by decide +kernel
theorem dX12_init_155 : decode cX12_init 155 = .ok (.newarray .long, 2) := by decide +kernel
theorem dX12_init_157 : decode cX12_init 157 = .ok (.putfield 81, 3) := by decide +kernel
theorem dX12_init_160 : decode cX12_init 160 = .ok (.aload_n 0, 1) := by decide +kernel
theorem dX12_init_161 : decode cX12_init 161 = .ok (.sipush 390, 3) := by decide +kernel
theorem dX12_init_164 : decode cX12_init 164 = .ok (.newarray .long, 2) := by decide +kernel
theorem dX12_init_166 : decode cX12_init 166 = .ok (.putfield 84, 3) := by decide +kernel
theorem dX12_init_169 : decode cX12_init 169 = .ok (.aload_n 0, 1) := by decide +kernel
theorem dX12_init_170 : decode cX12_init 170 = .ok (.bipush 16, 2) := by decide +kernel
theorem dX12_init_172 : decode cX12_init 172 = .ok (.newarray .int, 2) := by decide +kernel
theorem dX12_init_174 : decode cX12_init 174 = .ok (.putfield 87, 3) := by decide +kernel
theorem dX12_init_177 : decode cX12_init 177 = .ok (.aload_n 0, 1) := by decide +kernel
theorem dX12_init_178 : decode cX12_init 178 = .ok (.sipush 600, 3) := by decide +kernel
theorem dX12_init_181 : decode cX12_init 181 = .ok (.newarray .boolean, 2) := by decide +kernel
theorem dX12_init_183 : decode cX12_init 183 = .ok (.putfield 90, 3) := by decide +kernel
theorem dX12_init_186 : decode cX12_init 186 = .ok (.aload_n 0, 1) := by decide +kernel
theorem dX12_init_187 : decode cX12_init 187 = .ok (.sipush 130, 3) := by decide +kernel
theorem dX12_init_190 : decode cX12_init 190 = .ok (.newarray .boolean, 2) := by decide +kernel
theorem dX12_init_192 : decode cX12_init 192 = .ok (.putfield 93, 3) := by decide +kernel
theorem dX12_init_195 : decode cX12_init 195 = .ok (.aload_n 0, 1) := by decide +kernel
theorem dX12_init_196 : decode cX12_init 196 = .ok (.iconst 4, 1) := by decide +kernel
theorem dX12_init_197 : decode cX12_init 197 = .ok (.newarray .long, 2) := by decide +kernel
theorem dX12_init_199 : decode cX12_init 199 = .ok (.putfield 96, 3) := by decide +kernel
theorem dX12_init_202 : decode cX12_init 202 = .ok (.aload_n 0, 1) := by decide +kernel
theorem dX12_init_203 : decode cX12_init 203 = .ok (.iconst 3, 1) := by decide +kernel
theorem dX12_init_204 : decode cX12_init 204 = .ok (.newarray .long, 2) := by decide +kernel
theorem dX12_init_206 : decode cX12_init 206 = .ok (.putfield 99, 3) := by decide +kernel
theorem dX12_init_209 : decode cX12_init 209 = .ok (.aload_n 0, 1) := by decide +kernel
theorem dX12_init_210 : decode cX12_init 210 = .ok (.iconst 3, 1) := by decide +kernel
theorem dX12_init_211 : decode cX12_init 211 = .ok (.newarray .long, 2) := by decide +kernel
theorem dX12_init_213 : decode cX12_init 213 = .ok (.putfield 102, 3) := by decide +kernel
theorem dX12_init_216 : decode cX12_init 216 = .ok (.aload_n 0, 1) := by decide +kernel
theorem dX12_init_217 : decode cX12_init 217 = .ok (.iconst 3, 1) := by decide +kernel
theorem dX12_init_218 : decode cX12_init 218 = .ok (.newarray .long, 2) := by decide +kernel
theorem dX12_init_220 : decode cX12_init 220 = .ok (.putfield 105, 3) := by decide +kernel
theorem dX12_init_223 : decode cX12_init 223 = .ok (.aload_n 0, 1) := by decide +kernel
theorem dX12_init_224 : decode cX12_init 224 = .ok (.iconst 0, 1) := by decide +kernel
theorem dX12_init_225 : decode cX12_init 225 = .ok (.putfield 108, 3) := by decide +kernel
theorem dX12_init_228 : decode cX12_init 228 = .ok (.aload_n 0, 1) := by decide +kernel
theorem dX12_init_229 : decode cX12_init 229 = .ok (.iconst 0, 1) := by decide +kernel
theorem dX12_init_230 : decode cX12_init 230 = .ok (.putfield 111, 3) := by decide +kernel
theorem dX12_init_233 : decode cX12_init 233 = .ok (.aload_n 0, 1) := by decide +kernel
theorem dX12_init_234 : decode cX12_init 234 = .ok (.iconst 0, 1) := by decide +kernel
theorem dX12_init_235 : decode cX12_init 235 = .ok (.putfield 114, 3) := by decide +kernel
theorem dX12_init_238 : decode cX12_init 238 = .ok (.aload_n 0, 1) := by decide +kernel
theorem dX12_init_239 : decode cX12_init 239 = .ok (.iconst 0, 1) := by decide +kernel
theorem dX12_init_240 : decode cX12_init 240 = .ok (.putfield 117, 3) := by decide +kernel
theorem dX12_init_243 : decode cX12_init 243 = .ok (.aload_n 0, 1) := by decide +kernel
theorem dX12_init_244 : decode cX12_init 244 = .ok (.iconst 0, 1) := by decide +kernel
theorem dX12_init_245 : decode cX12_init 245 = .ok (.putfield 120, 3) := by decide +kernel
theorem dX12_init_248 : decode cX12_init 248 = .ok (.aload_n 0, 1) := by decide +kernel
theorem dX12_init_249 : decode cX12_init 249 = .ok (.bipush 111, 2) := by decide +kernel
theorem dX12_init_251 : decode cX12_init 251 = .ok (.putfield 123, 3) := by decide +kernel
theorem dX12_init_254 : decode cX12_init 254 = .ok (.aload_n 0, 1) := by decide +kernel
theorem dX12_init_255 : decode cX12_init 255 = .ok (.bipush 12, 2) := by decide +kernel
theorem dX12_init_257 : decode cX12_init 257 = .ok (.newarray .long, 2) := by decide +kernel
theorem dX12_init_259 : decode cX12_init 259 = .ok (.putfield 126, 3) := by decide +kernel
theorem dX12_init_262 : decode cX12_init 262 = .ok (.aload_n 0, 1) := by decide +kernel
theorem dX12_init_263 : decode cX12_init 263 = .ok (.iconst 4, 1) := by decide +kernel
theorem dX12_init_264 : decode cX12_init 264 = .ok (.newarray .long, 2) := by decide +kernel
theorem dX12_init_266 : decode cX12_init 266 = .ok (.putfield 129, 3) := by decide +kernel
theorem dX12_init_269 : decode cX12_init 269 = .ok (.aload_n 0, 1) := by decide +kernel
theorem dX12_init_270 : decode cX12_init 270 = .ok (.iconst 4, 1) := by decide +kernel
theorem dX12_init_271 : decode cX12_init 271 = .ok (.newarray .int, 2) := by decide +kernel
theorem dX12_init_273 : decode cX12_init 273 = .ok (.putfield 132, 3) := by decide +kernel
theorem dX12_init_276 : decode cX12_init 276 = .ok (.iconst 0, 1) := by decide +kernel
theorem dX12_init_277 : decode cX12_init 277 = .ok (.istore_n 1, 1) := by decide +kernel
theorem dX12_init_278 : decode cX12_init 278 = .ok (.iload_n 1, 1) := by decide +kernel
theorem dX12_init_279 : decode cX12_init 279 = .ok (.iconst 4, 1) := by decide +kernel
theorem dX12_init_280 : decode cX12_init 280 = .ok (.if_icmp .ge 16, 3) := by decide +kernel
theorem dX12_init_283 : decode cX12_init 283 = .ok (.aload_n 0, 1) := by decide +kernel
theorem dX12_init_284 : decode cX12_init 284 = .ok (.getfield 132, 3) := by decide +kernel
theorem dX12_init_287 : decode cX12_init 287 = .ok (.iload_n 1, 1) := by decide +kernel
theorem dX12_init_288 : decode cX12_init 288 = .ok (.iconst (-1), 1) := by decide +kernel
theorem dX12_init_289 : decode cX12_init 289 = .ok (.iastore, 1) := by decide +kernel
theorem dX12_init_290 : decode cX12_init 290 = .ok (.iinc 1 1, 3) := by decide +kernel
theorem dX12_init_293 : decode cX12_init 293 = .ok (.goto (-15), 3) := by decide +kernel
theorem dX12_init_296 : decode cX12_init 296 = .ok (.return_, 1) := by decide +kernel
theorem dX12_thrown_0 : decode cX12_thrown 0 = .ok (.aload_n 0, 1) := by decide +kernel
theorem dX12_thrown_1 : decode cX12_thrown 1 = .ok (.getfield 39, 3) := by decide +kernel
theorem dX12_thrown_4 : decode cX12_thrown 4 = .ok (.ireturn, 1) := by decide +kernel
theorem dX12_in_0 : decode cX12_in 0 = .ok (.iload_n 0, 1) := by decide +kernel
theorem dX12_in_1 : decode cX12_in 1 = .ok (.iload_n 1, 1) := by decide +kernel
theorem dX12_in_2 : decode cX12_in 2 = .ok (.if_icmp .lt 12, 3) := by decide +kernel
theorem dX12_in_5 : decode cX12_in 5 = .ok (.iload_n 0, 1) := by decide +kernel
theorem dX12_in_6 : decode cX12_in 6 = .ok (.iload_n 2, 1) := by decide +kernel
theorem dX12_in_7 : decode cX12_in 7 = .ok (.if_icmp .gt 7, 3) := by decide +kernel
theorem dX12_in_10 : decode cX12_in 10 = .ok (.iconst 1, 1) := by decide +kernel
theorem dX12_in_11 : decode cX12_in 11 = .ok (.goto 4, 3) := by decide +kernel
theorem dX12_in_14 : decode cX12_in 14 = .ok (.iconst 0, 1) := by decide +kernel
theorem dX12_in_15 : decode cX12_in 15 = .ok (.ireturn, 1) := by decide +kernel
theorem dX12_checked_0 : decode cX12_checked 0 = .ok (.aload_n 0, 1) := by decide +kernel
theorem dX12_checked_1 : decode cX12_checked 1 = .ok (.iload_n 1, 1) := by decide +kernel
theorem dX12_checked_2 : decode cX12_checked 2 = .ok (.ifCond .eq 7, 3) := by decide +kernel
theorem dX12_checked_5 : decode cX12_checked 5 = .ok (.iconst 0, 1) := by decide +kernel
theorem dX12_checked_6 : decode cX12_checked 6 = .ok (.goto 4, 3) := by decide +kernel
theorem dX12_checked_9 : decode cX12_checked 9 = .ok (.iconst 1, 1) := by decide +kernel
theorem dX12_checked_10 : decode cX12_checked 10 = .ok (.putfield 39, 3) := by decide +kernel
theorem dX12_checked_13 : decode cX12_checked 13 = .ok (.aload_n 0, 1) := by decide +kernel
theorem dX12_checked_14 : decode cX12_checked 14 = .ok (.getfield 39, 3) := by decide +kernel
theorem dX12_checked_17 : decode cX12_checked 17 = .ok (.ireturn, 1) := by decide +kernel
theorem dX12_isVariable_0 : decode cX12_isVariable 0 = .ok (.iload_n 1, 1) := by decide +kernel
theorem dX12_isVariable_1 : decode cX12_isVariable 1 = .ok (.iconst 0, 1) := by decide +kernel
theorem dX12_isVariable_2 : decode cX12_isVariable 2 = .ok (.aload_n 0, 1) := by decide +kernel
theorem dX12_isVariable_3 : decode cX12_isVariable 3 = .ok (.getfield 43, 3) := by decide +kernel
theorem dX12_isVariable_6 : decode cX12_isVariable 6 = .ok (.iconst 1, 1) := by decide +kernel
theorem dX12_isVariable_7 : decode cX12_isVariable 7 = .ok (.isub, 1) := by decide +kernel
theorem dX12_isVariable_8 : decode cX12_isVariable 8 = .ok (.invokestatic 135, 3) := by decide +kernel
theorem dX12_isVariable_11 : decode cX12_isVariable 11 = .ok (.ireturn, 1) := by decide +kernel
theorem dX12_isRow_0 : decode cX12_isRow 0 = .ok (.iload_n 1, 1) := by decide +kernel
theorem dX12_isRow_1 : decode cX12_isRow 1 = .ok (.iconst 0, 1) := by decide +kernel
theorem dX12_isRow_2 : decode cX12_isRow 2 = .ok (.aload_n 0, 1) := by decide +kernel
theorem dX12_isRow_3 : decode cX12_isRow 3 = .ok (.getfield 46, 3) := by decide +kernel
theorem dX12_isRow_6 : decode cX12_isRow 6 = .ok (.iconst 1, 1) := by decide +kernel
theorem dX12_isRow_7 : decode cX12_isRow 7 = .ok (.isub, 1) := by decide +kernel
theorem dX12_isRow_8 : decode cX12_isRow 8 = .ok (.invokestatic 135, 3) := by decide +kernel
theorem dX12_isRow_11 : decode cX12_isRow 11 = .ok (.ireturn, 1) := by decide +kernel
theorem dX12_isAimIn_0 : decode cX12_isAimIn 0 = .ok (.iload_n 1, 1) := by decide +kernel
theorem dX12_isAimIn_1 : decode cX12_isAimIn 1 = .ok (.iconst 0, 1) := by decide +kernel
theorem dX12_isAimIn_2 : decode cX12_isAimIn 2 = .ok (.aload_n 0, 1) := by decide +kernel
theorem dX12_isAimIn_3 : decode cX12_isAimIn 3 = .ok (.getfield 49, 3) := by decide +kernel
theorem dX12_isAimIn_6 : decode cX12_isAimIn 6 = .ok (.iconst 1, 1) := by decide +kernel
theorem dX12_isAimIn_7 : decode cX12_isAimIn 7 = .ok (.isub, 1) := by decide +kernel
theorem dX12_isAimIn_8 : decode cX12_isAimIn 8 = .ok (.invokestatic 135, 3) := by decide +kernel
theorem dX12_isAimIn_11 : decode cX12_isAimIn 11 = .ok (.ireturn, 1) := by decide +kernel
theorem dX12_addVariable_0 : decode cX12_addVariable 0 = .ok (.aload_n 0, 1) := by decide +kernel
theorem dX12_addVariable_1 : decode cX12_addVariable 1 = .ok (.iload_n 1, 1) := by decide +kernel
theorem dX12_addVariable_2 : decode cX12_addVariable 2 = .ok (.bipush (-50), 2) := by decide +kernel
theorem dX12_addVariable_4 : decode cX12_addVariable 4 = .ok (.bipush 50, 2) := by decide +kernel
theorem dX12_addVariable_6 : decode cX12_addVariable 6 = .ok (.invokestatic 135, 3) := by decide +kernel
theorem dX12_addVariable_9 : decode cX12_addVariable 9 = .ok (.ifCond .eq 13, 3) := by decide +kernel
theorem dX12_addVariable_12 : decode cX12_addVariable 12 = .ok (.iload_n 2, 1) := by decide +kernel
theorem dX12_addVariable_13 : decode cX12_addVariable 13 = .ok (.iload_n 1, 1) := by decide +kernel
theorem dX12_addVariable_14 : decode cX12_addVariable 14 = .ok (.bipush 100, 2) := by decide +kernel
theorem dX12_addVariable_16 : decode cX12_addVariable 16 = .ok (.invokestatic 135, 3) := by decide +kernel
theorem dX12_addVariable_19 : decode cX12_addVariable 19 = .ok (.ifCond .ne 7, 3) := by decide +kernel
theorem dX12_addVariable_22 : decode cX12_addVariable 22 = .ok (.iconst 1, 1) := by decide +kernel
theorem dX12_addVariable_23 : decode cX12_addVariable 23 = .ok (.goto 16, 3) := by decide +kernel
theorem dX12_addVariable_26 : decode cX12_addVariable 26 = .ok (.aload_n 0, 1) := by decide +kernel
theorem dX12_addVariable_27 : decode cX12_addVariable 27 = .ok (.getfield 43, 3) := by decide +kernel
theorem dX12_addVariable_30 : decode cX12_addVariable 30 = .ok (.iconst 3, 1) := by decide +kernel
theorem dX12_addVariable_31 : decode cX12_addVariable 31 = .ok (.if_icmp .ne 7, 3) := by decide +kernel
theorem dX12_addVariable_34 : decode cX12_addVariable 34 = .ok (.iconst 2, 1) := by decide +kernel
theorem dX12_addVariable_35 : decode cX12_addVariable 35 = .ok (.goto 4, 3) := by decide +kernel
theorem dX12_addVariable_38 : decode cX12_addVariable 38 = .ok (.iconst 0, 1) := by decide +kernel
theorem dX12_addVariable_39 : decode cX12_addVariable 39 = .ok (.putfield 39, 3) := by decide +kernel
theorem dX12_addVariable_42 : decode cX12_addVariable 42 = .ok (.aload_n 0, 1) := by decide +kernel
theorem dX12_addVariable_43 : decode cX12_addVariable 43 = .ok (.getfield 39, 3) := by decide +kernel
theorem dX12_addVariable_46 : decode cX12_addVariable 46 = .ok (.ifCond .le 5, 3) := by decide +kernel
theorem dX12_addVariable_49 : decode cX12_addVariable 49 = .ok (.iconst 0, 1) := by decide +kernel
theorem dX12_addVariable_50 : decode cX12_addVariable 50 = .ok (.ireturn, 1) := by decide +kernel
theorem dX12_addVariable_51 : decode cX12_addVariable 51 = .ok (.aload_n 0, 1) := by decide +kernel
theorem dX12_addVariable_52 : decode cX12_addVariable 52 = .ok (.getfield 7, 3) := by decide +kernel
theorem dX12_addVariable_55 : decode cX12_addVariable 55 = .ok (.aload_n 0, 1) := by decide +kernel
theorem dX12_addVariable_56 : decode cX12_addVariable 56 = .ok (.getfield 43, 3) := by decide +kernel
theorem dX12_addVariable_59 : decode cX12_addVariable 59 = .ok (.iload_n 1, 1) := by decide +kernel
theorem dX12_addVariable_60 : decode cX12_addVariable 60 = .ok (.iastore, 1) := by decide +kernel
theorem dX12_addVariable_61 : decode cX12_addVariable 61 = .ok (.aload_n 0, 1) := by decide +kernel
theorem dX12_addVariable_62 : decode cX12_addVariable 62 = .ok (.getfield 13, 3) := by decide +kernel
theorem dX12_addVariable_65 : decode cX12_addVariable 65 = .ok (.aload_n 0, 1) := by decide +kernel
theorem dX12_addVariable_66 : decode cX12_addVariable 66 = .ok (.getfield 43, 3) := by decide +kernel
theorem dX12_addVariable_69 : decode cX12_addVariable 69 = .ok (.iload_n 2, 1) := by decide +kernel
theorem dX12_addVariable_70 : decode cX12_addVariable 70 = .ok (.iastore, 1) := by decide +kernel
theorem dX12_addVariable_71 : decode cX12_addVariable 71 = .ok (.aload_n 0, 1) := by decide +kernel
theorem dX12_addVariable_72 : decode cX12_addVariable 72 = .ok (.dup, 1) := by decide +kernel
theorem dX12_addVariable_73 : decode cX12_addVariable 73 = .ok (.getfield 43, 3) := by decide +kernel
theorem dX12_addVariable_76 : decode cX12_addVariable 76 = .ok (.iconst 1, 1) := by decide +kernel
theorem dX12_addVariable_77 : decode cX12_addVariable 77 = .ok (.iadd, 1) := by decide +kernel
theorem dX12_addVariable_78 : decode cX12_addVariable 78 = .ok (.putfield 43, 3) := by decide +kernel
theorem dX12_addVariable_81 : decode cX12_addVariable 81 = .ok (.aload_n 0, 1) := by decide +kernel
theorem dX12_addVariable_82 : decode cX12_addVariable 82 = .ok (.getfield 43, 3) := by decide +kernel
theorem dX12_addVariable_85 : decode cX12_addVariable 85 = .ok (.iconst 1, 1) := by decide +kernel
theorem dX12_addVariable_86 : decode cX12_addVariable 86 = .ok (.isub, 1) := by decide +kernel
theorem dX12_addVariable_87 : decode cX12_addVariable 87 = .ok (.ireturn, 1) := by decide +kernel
theorem dX12_setLeast_0 : decode cX12_setLeast 0 = .ok (.aload_n 0, 1) := by decide +kernel
theorem dX12_setLeast_1 : decode cX12_setLeast 1 = .ok (.aload_n 0, 1) := by decide +kernel
theorem dX12_setLeast_2 : decode cX12_setLeast 2 = .ok (.iload_n 1, 1) := by decide +kernel
theorem dX12_setLeast_3 : decode cX12_setLeast 3 = .ok (.invokevirtual 139, 3) := by decide +kernel
theorem dX12_setLeast_6 : decode cX12_setLeast 6 = .ok (.ifCond .ne 7, 3) := by decide +kernel
theorem dX12_setLeast_9 : decode cX12_setLeast 9 = .ok (.iconst 1, 1) := by decide +kernel
theorem dX12_setLeast_10 : decode cX12_setLeast 10 = .ok (.goto 29, 3) := by decide +kernel
theorem dX12_setLeast_13 : decode cX12_setLeast 13 = .ok (.iload_n 2, 1) := by decide +kernel
theorem dX12_setLeast_14 : decode cX12_setLeast 14 = .ok (.bipush (-50), 2) := by decide +kernel
theorem dX12_setLeast_16 : decode cX12_setLeast 16 = .ok (.bipush 50, 2) := by decide +kernel
theorem dX12_setLeast_18 : decode cX12_setLeast 18 = .ok (.invokestatic 135, 3) := by decide +kernel
theorem dX12_setLeast_21 : decode cX12_setLeast 21 = .ok (.ifCond .eq 13, 3) := by decide +kernel
theorem dX12_setLeast_24 : decode cX12_setLeast 24 = .ok (.iload_n 2, 1) := by decide +kernel
theorem dX12_setLeast_25 : decode cX12_setLeast 25 = .ok (.aload_n 0, 1) := by decide +kernel
theorem dX12_setLeast_26 : decode cX12_setLeast 26 = .ok (.getfield 13, 3) := by decide +kernel
theorem dX12_setLeast_29 : decode cX12_setLeast 29 = .ok (.iload_n 1, 1) := by decide +kernel
theorem dX12_setLeast_30 : decode cX12_setLeast 30 = .ok (.iaload, 1) := by decide +kernel
theorem dX12_setLeast_31 : decode cX12_setLeast 31 = .ok (.if_icmp .le 7, 3) := by decide +kernel
theorem dX12_setLeast_34 : decode cX12_setLeast 34 = .ok (.iconst 2, 1) := by decide +kernel
theorem dX12_setLeast_35 : decode cX12_setLeast 35 = .ok (.goto 4, 3) := by decide +kernel
theorem dX12_setLeast_38 : decode cX12_setLeast 38 = .ok (.iconst 0, 1) := by decide +kernel
theorem dX12_setLeast_39 : decode cX12_setLeast 39 = .ok (.putfield 39, 3) := by decide +kernel
theorem dX12_setLeast_42 : decode cX12_setLeast 42 = .ok (.aload_n 0, 1) := by decide +kernel
theorem dX12_setLeast_43 : decode cX12_setLeast 43 = .ok (.getfield 39, 3) := by decide +kernel
theorem dX12_setLeast_46 : decode cX12_setLeast 46 = .ok (.ifCond .le 5, 3) := by decide +kernel
theorem dX12_setLeast_49 : decode cX12_setLeast 49 = .ok (.iconst 0, 1) := by decide +kernel
theorem dX12_setLeast_50 : decode cX12_setLeast 50 = .ok (.ireturn, 1) := by decide +kernel
theorem dX12_setLeast_51 : decode cX12_setLeast 51 = .ok (.aload_n 0, 1) := by decide +kernel
theorem dX12_setLeast_52 : decode cX12_setLeast 52 = .ok (.getfield 7, 3) := by decide +kernel
theorem dX12_setLeast_55 : decode cX12_setLeast 55 = .ok (.iload_n 1, 1) := by decide +kernel
theorem dX12_setLeast_56 : decode cX12_setLeast 56 = .ok (.iaload, 1) := by decide +kernel
theorem dX12_setLeast_57 : decode cX12_setLeast 57 = .ok (.istore_n 3, 1) := by decide +kernel
theorem dX12_setLeast_58 : decode cX12_setLeast 58 = .ok (.aload_n 0, 1) := by decide +kernel
theorem dX12_setLeast_59 : decode cX12_setLeast 59 = .ok (.getfield 7, 3) := by decide +kernel
theorem dX12_setLeast_62 : decode cX12_setLeast 62 = .ok (.iload_n 1, 1) := by decide +kernel
theorem dX12_setLeast_63 : decode cX12_setLeast 63 = .ok (.iload_n 2, 1) := by decide +kernel
theorem dX12_setLeast_64 : decode cX12_setLeast 64 = .ok (.iastore, 1) := by decide +kernel
theorem dX12_setLeast_65 : decode cX12_setLeast 65 = .ok (.iload_n 3, 1) := by decide +kernel
theorem dX12_setLeast_66 : decode cX12_setLeast 66 = .ok (.ireturn, 1) := by decide +kernel
theorem dX12_setGreatest_0 : decode cX12_setGreatest 0 = .ok (.aload_n 0, 1) := by decide +kernel
theorem dX12_setGreatest_1 : decode cX12_setGreatest 1 = .ok (.aload_n 0, 1) := by decide +kernel
theorem dX12_setGreatest_2 : decode cX12_setGreatest 2 = .ok (.iload_n 1, 1) := by decide +kernel
theorem dX12_setGreatest_3 : decode cX12_setGreatest 3 = .ok (.invokevirtual 139, 3) := by decide +kernel
theorem dX12_setGreatest_6 : decode cX12_setGreatest 6 = .ok (.ifCond .ne 7, 3) := by decide +kernel
theorem dX12_setGreatest_9 : decode cX12_setGreatest 9 = .ok (.iconst 1, 1) := by decide +kernel
theorem dX12_setGreatest_10 : decode cX12_setGreatest 10 = .ok (.goto 23, 3) := by decide +kernel
theorem dX12_setGreatest_13 : decode cX12_setGreatest 13 = .ok (.iload_n 2, 1) := by decide +kernel
theorem dX12_setGreatest_14 : decode cX12_setGreatest 14 = .ok (.aload_n 0, 1) := by decide +kernel
theorem dX12_setGreatest_15 : decode cX12_setGreatest 15 = .ok (.getfield 7, 3) := by decide +kernel
theorem dX12_setGreatest_18 : decode cX12_setGreatest 18 = .ok (.iload_n 1, 1) := by decide +kernel
theorem dX12_setGreatest_19 : decode cX12_setGreatest 19 = .ok (.iaload, 1) := by decide +kernel
theorem dX12_setGreatest_20 : decode cX12_setGreatest 20 = .ok (.bipush 100, 2) := by decide +kernel
theorem dX12_setGreatest_22 : decode cX12_setGreatest 22 = .ok (.invokestatic 135, 3) := by decide +kernel
theorem dX12_setGreatest_25 : decode cX12_setGreatest 25 = .ok (.ifCond .ne 7, 3) := by decide +kernel
theorem dX12_setGreatest_28 : decode cX12_setGreatest 28 = .ok (.iconst 2, 1) := by decide +kernel
theorem dX12_setGreatest_29 : decode cX12_setGreatest 29 = .ok (.goto 4, 3) := by decide +kernel
theorem dX12_setGreatest_32 : decode cX12_setGreatest 32 = .ok (.iconst 0, 1) := by decide +kernel
theorem dX12_setGreatest_33 : decode cX12_setGreatest 33 = .ok (.putfield 39, 3) := by decide +kernel
theorem dX12_setGreatest_36 : decode cX12_setGreatest 36 = .ok (.aload_n 0, 1) := by decide +kernel
theorem dX12_setGreatest_37 : decode cX12_setGreatest 37 = .ok (.getfield 39, 3) := by decide +kernel
theorem dX12_setGreatest_40 : decode cX12_setGreatest 40 = .ok (.ifCond .le 5, 3) := by decide +kernel
theorem dX12_setGreatest_43 : decode cX12_setGreatest 43 = .ok (.iconst 0, 1) := by decide +kernel
theorem dX12_setGreatest_44 : decode cX12_setGreatest 44 = .ok (.ireturn, 1) := by decide +kernel
theorem dX12_setGreatest_45 : decode cX12_setGreatest 45 = .ok (.aload_n 0, 1) := by decide +kernel
theorem dX12_setGreatest_46 : decode cX12_setGreatest 46 = .ok (.getfield 13, 3) := by decide +kernel
theorem dX12_setGreatest_49 : decode cX12_setGreatest 49 = .ok (.iload_n 1, 1) := by decide +kernel
theorem dX12_setGreatest_50 : decode cX12_setGreatest 50 = .ok (.iaload, 1) := by decide +kernel
theorem dX12_setGreatest_51 : decode cX12_setGreatest 51 = .ok (.istore_n 3, 1) := by decide +kernel
theorem dX12_setGreatest_52 : decode cX12_setGreatest 52 = .ok (.aload_n 0, 1) := by decide +kernel
theorem dX12_setGreatest_53 : decode cX12_setGreatest 53 = .ok (.getfield 13, 3) := by decide +kernel
theorem dX12_setGreatest_56 : decode cX12_setGreatest 56 = .ok (.iload_n 1, 1) := by decide +kernel
theorem dX12_setGreatest_57 : decode cX12_setGreatest 57 = .ok (.iload_n 2, 1) := by decide +kernel
theorem dX12_setGreatest_58 : decode cX12_setGreatest 58 = .ok (.iastore, 1) := by decide +kernel
theorem dX12_setGreatest_59 : decode cX12_setGreatest 59 = .ok (.iload_n 3, 1) := by decide +kernel
theorem dX12_setGreatest_60 : decode cX12_setGreatest 60 = .ok (.ireturn, 1) := by decide +kernel
theorem dX12_isDigit_0 : decode cX12_isDigit 0 = .ok (.iload_n 0, 1) := by decide +kernel
theorem dX12_isDigit_1 : decode cX12_isDigit 1 = .ok (.bipush 48, 2) := by decide +kernel
theorem dX12_isDigit_3 : decode cX12_isDigit 3 = .ok (.if_icmp .lt 13, 3) := by decide +kernel
theorem dX12_isDigit_6 : decode cX12_isDigit 6 = .ok (.iload_n 0, 1) := by decide +kernel
theorem dX12_isDigit_7 : decode cX12_isDigit 7 = .ok (.bipush 57, 2) := by decide +kernel
theorem dX12_isDigit_9 : decode cX12_isDigit 9 = .ok (.if_icmp .gt 7, 3) := by decide +kernel
theorem dX12_isDigit_12 : decode cX12_isDigit 12 = .ok (.iconst 1, 1) := by decide +kernel
theorem dX12_isDigit_13 : decode cX12_isDigit 13 = .ok (.goto 4, 3) := by decide +kernel
theorem dX12_isDigit_16 : decode cX12_isDigit 16 = .ok (.iconst 0, 1) := by decide +kernel
theorem dX12_isDigit_17 : decode cX12_isDigit 17 = .ok (.ireturn, 1) := by decide +kernel
theorem dX12_isSign_0 : decode cX12_isSign 0 = .ok (.iload_n 0, 1) := by decide +kernel
theorem dX12_isSign_1 : decode cX12_isSign 1 = .ok (.bipush 43, 2) := by decide +kernel
theorem dX12_isSign_3 : decode cX12_isSign 3 = .ok (.if_icmp .eq 27, 3) := by decide +kernel
theorem dX12_isSign_6 : decode cX12_isSign 6 = .ok (.iload_n 0, 1) := by decide +kernel
theorem dX12_isSign_7 : decode cX12_isSign 7 = .ok (.bipush 45, 2) := by decide +kernel
theorem dX12_isSign_9 : decode cX12_isSign 9 = .ok (.if_icmp .eq 21, 3) := by decide +kernel
theorem dX12_isSign_12 : decode cX12_isSign 12 = .ok (.iload_n 0, 1) := by decide +kernel
theorem dX12_isSign_13 : decode cX12_isSign 13 = .ok (.bipush 60, 2) := by decide +kernel
theorem dX12_isSign_15 : decode cX12_isSign 15 = .ok (.if_icmp .eq 15, 3) := by decide +kernel
theorem dX12_isSign_18 : decode cX12_isSign 18 = .ok (.iload_n 0, 1) := by decide +kernel
theorem dX12_isSign_19 : decode cX12_isSign 19 = .ok (.bipush 62, 2) := by decide +kernel
theorem dX12_isSign_21 : decode cX12_isSign 21 = .ok (.if_icmp .eq 9, 3) := by decide +kernel
theorem dX12_isSign_24 : decode cX12_isSign 24 = .ok (.iload_n 0, 1) := by decide +kernel
theorem dX12_isSign_25 : decode cX12_isSign 25 = .ok (.bipush 61, 2) := by decide +kernel
theorem dX12_isSign_27 : decode cX12_isSign 27 = .ok (.if_icmp .ne 7, 3) := by decide +kernel
theorem dX12_isSign_30 : decode cX12_isSign 30 = .ok (.iconst 1, 1) := by decide +kernel
theorem dX12_isSign_31 : decode cX12_isSign 31 = .ok (.goto 4, 3) := by decide +kernel
theorem dX12_isSign_34 : decode cX12_isSign 34 = .ok (.iconst 0, 1) := by decide +kernel
theorem dX12_isSign_35 : decode cX12_isSign 35 = .ok (.ireturn, 1) := by decide +kernel
theorem dX12_type_0 : decode cX12_type 0 = .ok (.aload_n 0, 1) := by decide +kernel
theorem dX12_type_1 : decode cX12_type 1 = .ok (.iload_n 1, 1) := by decide +kernel
theorem dX12_type_2 : decode cX12_type 2 = .ok (.bipush 97, 2) := by decide +kernel
theorem dX12_type_4 : decode cX12_type 4 = .ok (.if_icmp .lt 9, 3) := by decide +kernel
theorem dX12_type_7 : decode cX12_type 7 = .ok (.iload_n 1, 1) := by decide +kernel
theorem dX12_type_8 : decode cX12_type 8 = .ok (.bipush 122, 2) := by decide +kernel
theorem dX12_type_10 : decode cX12_type 10 = .ok (.if_icmp .le 21, 3) := by decide +kernel
theorem dX12_type_13 : decode cX12_type 13 = .ok (.iload_n 1, 1) := by decide +kernel
theorem dX12_type_14 : decode cX12_type 14 = .ok (.invokestatic 143, 3) := by decide +kernel
theorem dX12_type_17 : decode cX12_type 17 = .ok (.ifCond .ne 14, 3) := by decide +kernel
theorem dX12_type_20 : decode cX12_type 20 = .ok (.iload_n 1, 1) := by decide +kernel
theorem dX12_type_21 : decode cX12_type 21 = .ok (.invokestatic 147, 3) := by decide +kernel
theorem dX12_type_24 : decode cX12_type 24 = .ok (.ifCond .ne 7, 3) := by decide +kernel
theorem dX12_type_27 : decode cX12_type 27 = .ok (.iconst 1, 1) := by decide +kernel
theorem dX12_type_28 : decode cX12_type 28 = .ok (.goto 17, 3) := by decide +kernel
theorem dX12_type_31 : decode cX12_type 31 = .ok (.aload_n 0, 1) := by decide +kernel
theorem dX12_type_32 : decode cX12_type 32 = .ok (.getfield 52, 3) := by decide +kernel
theorem dX12_type_35 : decode cX12_type 35 = .ok (.bipush 30, 2) := by decide +kernel
theorem dX12_type_37 : decode cX12_type 37 = .ok (.if_icmp .ne 7, 3) := by decide +kernel
theorem dX12_type_40 : decode cX12_type 40 = .ok (.iconst 2, 1) := by decide +kernel
theorem dX12_type_41 : decode cX12_type 41 = .ok (.goto 4, 3) := by decide +kernel
theorem dX12_type_44 : decode cX12_type 44 = .ok (.iconst 0, 1) := by decide +kernel
theorem dX12_type_45 : decode cX12_type 45 = .ok (.putfield 39, 3) := by decide +kernel
theorem dX12_type_48 : decode cX12_type 48 = .ok (.aload_n 0, 1) := by decide +kernel
theorem dX12_type_49 : decode cX12_type 49 = .ok (.getfield 39, 3) := by decide +kernel
theorem dX12_type_52 : decode cX12_type 52 = .ok (.ifCond .le 5, 3) := by decide +kernel
theorem dX12_type_55 : decode cX12_type 55 = .ok (.iconst 0, 1) := by decide +kernel
theorem dX12_type_56 : decode cX12_type 56 = .ok (.ireturn, 1) := by decide +kernel
theorem dX12_type_57 : decode cX12_type 57 = .ok (.aload_n 0, 1) := by decide +kernel
theorem dX12_type_58 : decode cX12_type 58 = .ok (.getfield 35, 3) := by decide +kernel
theorem dX12_type_61 : decode cX12_type 61 = .ok (.aload_n 0, 1) := by decide +kernel
theorem dX12_type_62 : decode cX12_type 62 = .ok (.getfield 52, 3) := by decide +kernel
theorem dX12_type_65 : decode cX12_type 65 = .ok (.iload_n 1, 1) := by decide +kernel
theorem dX12_type_66 : decode cX12_type 66 = .ok (.castore, 1) := by decide +kernel
theorem dX12_type_67 : decode cX12_type 67 = .ok (.aload_n 0, 1) := by decide +kernel
theorem dX12_type_68 : decode cX12_type 68 = .ok (.dup, 1) := by decide +kernel
theorem dX12_type_69 : decode cX12_type 69 = .ok (.getfield 52, 3) := by decide +kernel
theorem dX12_type_72 : decode cX12_type 72 = .ok (.iconst 1, 1) := by decide +kernel
theorem dX12_type_73 : decode cX12_type 73 = .ok (.iadd, 1) := by decide +kernel
theorem dX12_type_74 : decode cX12_type 74 = .ok (.putfield 52, 3) := by decide +kernel
theorem dX12_type_77 : decode cX12_type 77 = .ok (.aload_n 0, 1) := by decide +kernel
theorem dX12_type_78 : decode cX12_type 78 = .ok (.getfield 52, 3) := by decide +kernel
theorem dX12_type_81 : decode cX12_type 81 = .ok (.ireturn, 1) := by decide +kernel
theorem dX12_erase_0 : decode cX12_erase 0 = .ok (.aload_n 0, 1) := by decide +kernel
theorem dX12_erase_1 : decode cX12_erase 1 = .ok (.iconst 0, 1) := by decide +kernel
theorem dX12_erase_2 : decode cX12_erase 2 = .ok (.putfield 39, 3) := by decide +kernel
theorem dX12_erase_5 : decode cX12_erase 5 = .ok (.aload_n 0, 1) := by decide +kernel
theorem dX12_erase_6 : decode cX12_erase 6 = .ok (.getfield 52, 3) := by decide +kernel
theorem dX12_erase_9 : decode cX12_erase 9 = .ok (.istore_n 1, 1) := by decide +kernel
theorem dX12_erase_10 : decode cX12_erase 10 = .ok (.aload_n 0, 1) := by decide +kernel
theorem dX12_erase_11 : decode cX12_erase 11 = .ok (.iconst 0, 1) := by decide +kernel
theorem dX12_erase_12 : decode cX12_erase 12 = .ok (.putfield 52, 3) := by decide +kernel
theorem dX12_erase_15 : decode cX12_erase 15 = .ok (.iload_n 1, 1) := by decide +kernel
theorem dX12_erase_16 : decode cX12_erase 16 = .ok (.ireturn, 1) := by decide +kernel
theorem dX12_next_0 : decode cX12_next 0 = .ok (.aload_n 0, 1) := by decide +kernel
theorem dX12_next_1 : decode cX12_next 1 = .ok (.getfield 58, 3) := by decide +kernel
theorem dX12_next_4 : decode cX12_next 4 = .ok (.aload_n 0, 1) := by decide +kernel
theorem dX12_next_5 : decode cX12_next 5 = .ok (.getfield 52, 3) := by decide +kernel
theorem dX12_next_8 : decode cX12_next 8 = .ok (.if_icmp .ge 15, 3) := by decide +kernel
theorem dX12_next_11 : decode cX12_next 11 = .ok (.aload_n 0, 1) := by decide +kernel
theorem dX12_next_12 : decode cX12_next 12 = .ok (.getfield 35, 3) := by decide +kernel
theorem dX12_next_15 : decode cX12_next 15 = .ok (.aload_n 0, 1) := by decide +kernel
theorem dX12_next_16 : decode cX12_next 16 = .ok (.getfield 58, 3) := by decide +kernel
theorem dX12_next_19 : decode cX12_next 19 = .ok (.caload, 1) := by decide +kernel
theorem dX12_next_20 : decode cX12_next 20 = .ok (.goto 5, 3) := by decide +kernel
theorem dX12_next_23 : decode cX12_next 23 = .ok (.bipush 32, 2) := by decide +kernel
theorem dX12_next_25 : decode cX12_next 25 = .ok (.ireturn, 1) := by decide +kernel
theorem dX12_fails_0 : decode cX12_fails 0 = .ok (.aload_n 0, 1) := by decide +kernel
theorem dX12_fails_1 : decode cX12_fails 1 = .ok (.iload_n 1, 1) := by decide +kernel
theorem dX12_fails_2 : decode cX12_fails 2 = .ok (.putfield 67, 3) := by decide +kernel
theorem dX12_fails_5 : decode cX12_fails 5 = .ok (.iconst 0, 1) := by decide +kernel
theorem dX12_fails_6 : decode cX12_fails 6 = .ok (.ireturn, 1) := by decide +kernel
theorem dX12_goes_0 : decode cX12_goes 0 = .ok (.aload_n 0, 1) := by decide +kernel
theorem dX12_goes_1 : decode cX12_goes 1 = .ok (.invokevirtual 150, 3) := by decide +kernel
theorem dX12_goes_4 : decode cX12_goes 4 = .ok (.iload_n 1, 1) := by decide +kernel
theorem dX12_goes_5 : decode cX12_goes 5 = .ok (.if_icmp .eq 10, 3) := by decide +kernel
theorem dX12_goes_8 : decode cX12_goes 8 = .ok (.aload_n 0, 1) := by decide +kernel
theorem dX12_goes_9 : decode cX12_goes 9 = .ok (.bipush 115, 2) := by decide +kernel
theorem dX12_goes_11 : decode cX12_goes 11 = .ok (.invokevirtual 154, 3) := by decide +kernel
theorem dX12_goes_14 : decode cX12_goes 14 = .ok (.ireturn, 1) := by decide +kernel
theorem dX12_goes_15 : decode cX12_goes 15 = .ok (.aload_n 0, 1) := by decide +kernel
theorem dX12_goes_16 : decode cX12_goes 16 = .ok (.dup, 1) := by decide +kernel
theorem dX12_goes_17 : decode cX12_goes 17 = .ok (.getfield 58, 3) := by decide +kernel
theorem dX12_goes_20 : decode cX12_goes 20 = .ok (.iconst 1, 1) := by decide +kernel
theorem dX12_goes_21 : decode cX12_goes 21 = .ok (.iadd, 1) := by decide +kernel
theorem dX12_goes_22 : decode cX12_goes 22 = .ok (.putfield 58, 3) := by decide +kernel
theorem dX12_goes_25 : decode cX12_goes 25 = .ok (.iconst 1, 1) := by decide +kernel
theorem dX12_goes_26 : decode cX12_goes 26 = .ok (.ireturn, 1) := by decide +kernel
theorem dX12_readsTerm_0 : decode cX12_readsTerm 0 = .ok (.iconst 1, 1) := by decide +kernel
theorem dX12_readsTerm_1 : decode cX12_readsTerm 1 = .ok (.istore_n 2, 1) := by decide +kernel
theorem dX12_readsTerm_2 : decode cX12_readsTerm 2 = .ok (.aload_n 0, 1) := by decide +kernel
theorem dX12_readsTerm_3 : decode cX12_readsTerm 3 = .ok (.invokevirtual 150, 3) := by decide +kernel
theorem dX12_readsTerm_6 : decode cX12_readsTerm 6 = .ok (.invokestatic 143, 3) := by decide +kernel
theorem dX12_readsTerm_9 : decode cX12_readsTerm 9 = .ok (.ifCond .eq 21, 3) := by decide +kernel
theorem dX12_readsTerm_12 : decode cX12_readsTerm 12 = .ok (.aload_n 0, 1) := by decide +kernel
theorem dX12_readsTerm_13 : decode cX12_readsTerm 13 = .ok (.invokevirtual 150, 3) := by decide +kernel
theorem dX12_readsTerm_16 : decode cX12_readsTerm 16 = .ok (.bipush 48, 2) := by decide +kernel
theorem dX12_readsTerm_18 : decode cX12_readsTerm 18 = .ok (.isub, 1) := by decide +kernel
theorem dX12_readsTerm_19 : decode cX12_readsTerm 19 = .ok (.istore_n 2, 1) := by decide +kernel
theorem dX12_readsTerm_20 : decode cX12_readsTerm 20 = .ok (.aload_n 0, 1) := by decide +kernel
theorem dX12_readsTerm_21 : decode cX12_readsTerm 21 = .ok (.dup, 1) := by decide +kernel
theorem dX12_readsTerm_22 : decode cX12_readsTerm 22 = .ok (.getfield 58, 3) := by decide +kernel
theorem dX12_readsTerm_25 : decode cX12_readsTerm 25 = .ok (.iconst 1, 1) := by decide +kernel
theorem dX12_readsTerm_26 : decode cX12_readsTerm 26 = .ok (.iadd, 1) := by decide +kernel
theorem dX12_readsTerm_27 : decode cX12_readsTerm 27 = .ok (.putfield 58, 3) := by decide +kernel
theorem dX12_readsTerm_30 : decode cX12_readsTerm 30 = .ok (.aload_n 0, 1) := by decide +kernel
theorem dX12_readsTerm_31 : decode cX12_readsTerm 31 = .ok (.invokevirtual 150, 3) := by decide +kernel
theorem dX12_readsTerm_34 : decode cX12_readsTerm 34 = .ok (.istore_n 3, 1) := by decide +kernel
theorem dX12_readsTerm_35 : decode cX12_readsTerm 35 = .ok (.iload_n 3, 1) := by decide +kernel
theorem dX12_readsTerm_36 : decode cX12_readsTerm 36 = .ok (.bipush 97, 2) := by decide +kernel
theorem dX12_readsTerm_38 : decode cX12_readsTerm 38 = .ok (.if_icmp .lt 9, 3) := by decide +kernel
theorem dX12_readsTerm_41 : decode cX12_readsTerm 41 = .ok (.iload_n 3, 1) := by decide +kernel
theorem dX12_readsTerm_42 : decode cX12_readsTerm 42 = .ok (.bipush 99, 2) := by decide +kernel
theorem dX12_readsTerm_44 : decode cX12_readsTerm 44 = .ok (.if_icmp .le 10, 3) := by decide +kernel
theorem dX12_readsTerm_47 : decode cX12_readsTerm 47 = .ok (.aload_n 0, 1) := by decide +kernel
theorem dX12_readsTerm_48 : decode cX12_readsTerm 48 = .ok (.bipush 115, 2) := by decide +kernel
theorem dX12_readsTerm_50 : decode cX12_readsTerm 50 = .ok (.invokevirtual 154, 3) := by decide +kernel
theorem dX12_readsTerm_53 : decode cX12_readsTerm 53 = .ok (.ireturn, 1) := by decide +kernel
theorem dX12_readsTerm_54 : decode cX12_readsTerm 54 = .ok (.iload_n 3, 1) := by decide +kernel
theorem dX12_readsTerm_55 : decode cX12_readsTerm 55 = .ok (.bipush 97, 2) := by decide +kernel
theorem dX12_readsTerm_57 : decode cX12_readsTerm 57 = .ok (.isub, 1) := by decide +kernel
theorem dX12_readsTerm_58 : decode cX12_readsTerm 58 = .ok (.aload_n 0, 1) := by decide +kernel
theorem dX12_readsTerm_59 : decode cX12_readsTerm 59 = .ok (.getfield 43, 3) := by decide +kernel
theorem dX12_readsTerm_62 : decode cX12_readsTerm 62 = .ok (.if_icmp .lt 10, 3) := by decide +kernel
theorem dX12_readsTerm_65 : decode cX12_readsTerm 65 = .ok (.aload_n 0, 1) := by decide +kernel
theorem dX12_readsTerm_66 : decode cX12_readsTerm 66 = .ok (.bipush 118, 2) := by decide +kernel
theorem dX12_readsTerm_68 : decode cX12_readsTerm 68 = .ok (.invokevirtual 154, 3) := by decide +kernel
theorem dX12_readsTerm_71 : decode cX12_readsTerm 71 = .ok (.ireturn, 1) := by decide +kernel
theorem dX12_readsTerm_72 : decode cX12_readsTerm 72 = .ok (.aload_n 0, 1) := by decide +kernel
theorem dX12_readsTerm_73 : decode cX12_readsTerm 73 = .ok (.getfield 55, 3) := by decide +kernel
theorem dX12_readsTerm_76 : decode cX12_readsTerm 76 = .ok (.iload_n 3, 1) := by decide +kernel
theorem dX12_readsTerm_77 : decode cX12_readsTerm 77 = .ok (.bipush 97, 2) := by decide +kernel
theorem dX12_readsTerm_79 : decode cX12_readsTerm 79 = .ok (.isub, 1) := by decide +kernel
theorem dX12_readsTerm_80 : decode cX12_readsTerm 80 = .ok (.dup2, 1) := by decide +kernel
theorem dX12_readsTerm_81 : decode cX12_readsTerm 81 = .ok (.iaload, 1) := by decide +kernel
theorem dX12_readsTerm_82 : decode cX12_readsTerm 82 = .ok (.iload_n 1, 1) := by decide +kernel
theorem dX12_readsTerm_83 : decode cX12_readsTerm 83 = .ok (.iload_n 2, 1) := by decide +kernel
theorem dX12_readsTerm_84 : decode cX12_readsTerm 84 = .ok (.imul, 1) := by decide +kernel
theorem dX12_readsTerm_85 : decode cX12_readsTerm 85 = .ok (.iadd, 1) := by decide +kernel
theorem dX12_readsTerm_86 : decode cX12_readsTerm 86 = .ok (.iastore, 1) := by decide +kernel
theorem dX12_readsTerm_87 : decode cX12_readsTerm 87 = .ok (.aload_n 0, 1) := by decide +kernel
theorem dX12_readsTerm_88 : decode cX12_readsTerm 88 = .ok (.dup, 1) := by decide +kernel
theorem dX12_readsTerm_89 : decode cX12_readsTerm 89 = .ok (.getfield 58, 3) := by decide +kernel
theorem dX12_readsTerm_92 : decode cX12_readsTerm 92 = .ok (.iconst 1, 1) := by decide +kernel
theorem dX12_readsTerm_93 : decode cX12_readsTerm 93 = .ok (.iadd, 1) := by decide +kernel
theorem dX12_readsTerm_94 : decode cX12_readsTerm 94 = .ok (.putfield 58, 3) := by decide +kernel
theorem dX12_readsTerm_97 : decode cX12_readsTerm 97 = .ok (.iconst 1, 1) := by decide +kernel
theorem dX12_readsTerm_98 : decode cX12_readsTerm 98 = .ok (.ireturn, 1) := by decide +kernel
theorem dX12_readsSum_0 : decode cX12_readsSum 0 = .ok (.aload_n 0, 1) := by decide +kernel
theorem dX12_readsSum_1 : decode cX12_readsSum 1 = .ok (.invokevirtual 150, 3) := by decide +kernel
theorem dX12_readsSum_4 : decode cX12_readsSum 4 = .ok (.bipush 45, 2) := by decide +kernel
theorem dX12_readsSum_6 : decode cX12_readsSum 6 = .ok (.if_icmp .ne 7, 3) := by decide +kernel
theorem dX12_readsSum_9 : decode cX12_readsSum 9 = .ok (.iconst (-1), 1) := by decide +kernel
theorem dX12_readsSum_10 : decode cX12_readsSum 10 = .ok (.goto 4, 3) := by decide +kernel
theorem dX12_readsSum_13 : decode cX12_readsSum 13 = .ok (.iconst 1, 1) := by decide +kernel
theorem dX12_readsSum_14 : decode cX12_readsSum 14 = .ok (.istore_n 1, 1) := by decide +kernel
theorem dX12_readsSum_15 : decode cX12_readsSum 15 = .ok (.iload_n 1, 1) := by decide +kernel
theorem dX12_readsSum_16 : decode cX12_readsSum 16 = .ok (.ifCond .ge 13, 3) := by decide +kernel
theorem dX12_readsSum_19 : decode cX12_readsSum 19 = .ok (.aload_n 0, 1) := by decide +kernel
theorem dX12_readsSum_20 : decode cX12_readsSum 20 = .ok (.dup, 1) := by decide +kernel
theorem dX12_readsSum_21 : decode cX12_readsSum 21 = .ok (.getfield 58, 3) := by decide +kernel
theorem dX12_readsSum_24 : decode cX12_readsSum 24 = .ok (.iconst 1, 1) := by decide +kernel
theorem dX12_readsSum_25 : decode cX12_readsSum 25 = .ok (.iadd, 1) := by decide +kernel
theorem dX12_readsSum_26 : decode cX12_readsSum 26 = .ok (.putfield 58, 3) := by decide +kernel
theorem dX12_readsSum_29 : decode cX12_readsSum 29 = .ok (.aload_n 0, 1) := by decide +kernel
theorem dX12_readsSum_30 : decode cX12_readsSum 30 = .ok (.iload_n 1, 1) := by decide +kernel
theorem dX12_readsSum_31 : decode cX12_readsSum 31 = .ok (.invokevirtual 157, 3) := by decide +kernel
theorem dX12_readsSum_34 : decode cX12_readsSum 34 = .ok (.ifCond .ne 5, 3) := by decide +kernel
theorem dX12_readsSum_37 : decode cX12_readsSum 37 = .ok (.iconst 0, 1) := by decide +kernel
theorem dX12_readsSum_38 : decode cX12_readsSum 38 = .ok (.ireturn, 1) := by decide +kernel
theorem dX12_readsSum_39 : decode cX12_readsSum 39 = .ok (.aload_n 0, 1) := by decide +kernel
theorem dX12_readsSum_40 : decode cX12_readsSum 40 = .ok (.invokevirtual 150, 3) := by decide +kernel
theorem dX12_readsSum_43 : decode cX12_readsSum 43 = .ok (.bipush 43, 2) := by decide +kernel
theorem dX12_readsSum_45 : decode cX12_readsSum 45 = .ok (.if_icmp .eq 12, 3) := by decide +kernel
theorem dX12_readsSum_48 : decode cX12_readsSum 48 = .ok (.aload_n 0, 1) := by decide +kernel
theorem dX12_readsSum_49 : decode cX12_readsSum 49 = .ok (.invokevirtual 150, 3) := by decide +kernel
theorem dX12_readsSum_52 : decode cX12_readsSum 52 = .ok (.bipush 45, 2) := by decide +kernel
theorem dX12_readsSum_54 : decode cX12_readsSum 54 = .ok (.if_icmp .ne 38, 3) := by decide +kernel
theorem dX12_readsSum_57 : decode cX12_readsSum 57 = .ok (.aload_n 0, 1) := by decide +kernel
theorem dX12_readsSum_58 : decode cX12_readsSum 58 = .ok (.invokevirtual 150, 3) := by decide +kernel
theorem dX12_readsSum_61 : decode cX12_readsSum 61 = .ok (.bipush 45, 2) := by decide +kernel
theorem dX12_readsSum_63 : decode cX12_readsSum 63 = .ok (.if_icmp .ne 7, 3) := by decide +kernel
theorem dX12_readsSum_66 : decode cX12_readsSum 66 = .ok (.iconst (-1), 1) := by decide +kernel
theorem dX12_readsSum_67 : decode cX12_readsSum 67 = .ok (.goto 4, 3) := by decide +kernel
theorem dX12_readsSum_70 : decode cX12_readsSum 70 = .ok (.iconst 1, 1) := by decide +kernel
theorem dX12_readsSum_71 : decode cX12_readsSum 71 = .ok (.istore_n 1, 1) := by decide +kernel
theorem dX12_readsSum_72 : decode cX12_readsSum 72 = .ok (.aload_n 0, 1) := by decide +kernel
theorem dX12_readsSum_73 : decode cX12_readsSum 73 = .ok (.dup, 1) := by decide +kernel
theorem dX12_readsSum_74 : decode cX12_readsSum 74 = .ok (.getfield 58, 3) := by decide +kernel
theorem dX12_readsSum_77 : decode cX12_readsSum 77 = .ok (.iconst 1, 1) := by decide +kernel
theorem dX12_readsSum_78 : decode cX12_readsSum 78 = .ok (.iadd, 1) := by decide +kernel
theorem dX12_readsSum_79 : decode cX12_readsSum 79 = .ok (.putfield 58, 3) := by decide +kernel
theorem dX12_readsSum_82 : decode cX12_readsSum 82 = .ok (.aload_n 0, 1) := by decide +kernel
theorem dX12_readsSum_83 : decode cX12_readsSum 83 = .ok (.iload_n 1, 1) := by decide +kernel
theorem dX12_readsSum_84 : decode cX12_readsSum 84 = .ok (.invokevirtual 157, 3) := by decide +kernel
theorem dX12_readsSum_87 : decode cX12_readsSum 87 = .ok (.ifCond .ne (-48), 3) := by decide +kernel
theorem dX12_readsSum_90 : decode cX12_readsSum 90 = .ok (.iconst 0, 1) := by decide +kernel
theorem dX12_readsSum_91 : decode cX12_readsSum 91 = .ok (.ireturn, 1) := by decide +kernel
theorem dX12_readsSum_92 : decode cX12_readsSum 92 = .ok (.iconst 1, 1) := by decide +kernel
theorem dX12_readsSum_93 : decode cX12_readsSum 93 = .ok (.ireturn, 1) := by decide +kernel
theorem dX12_readsNumber_0 : decode cX12_readsNumber 0 = .ok (.aload_n 0, 1) := by decide +kernel
theorem dX12_readsNumber_1 : decode cX12_readsNumber 1 = .ok (.invokevirtual 150, 3) := by decide +kernel
theorem dX12_readsNumber_4 : decode cX12_readsNumber 4 = .ok (.bipush 45, 2) := by decide +kernel
theorem dX12_readsNumber_6 : decode cX12_readsNumber 6 = .ok (.if_icmp .ne 7, 3) := by decide +kernel
theorem dX12_readsNumber_9 : decode cX12_readsNumber 9 = .ok (.iconst (-1), 1) := by decide +kernel
theorem dX12_readsNumber_10 : decode cX12_readsNumber 10 = .ok (.goto 4, 3) := by decide +kernel
theorem dX12_readsNumber_13 : decode cX12_readsNumber 13 = .ok (.iconst 1, 1) := by decide +kernel
theorem dX12_readsNumber_14 : decode cX12_readsNumber 14 = .ok (.istore_n 1, 1) := by decide +kernel
theorem dX12_readsNumber_15 : decode cX12_readsNumber 15 = .ok (.iload_n 1, 1) := by decide +kernel
theorem dX12_readsNumber_16 : decode cX12_readsNumber 16 = .ok (.ifCond .ge 13, 3) := by decide +kernel
theorem dX12_readsNumber_19 : decode cX12_readsNumber 19 = .ok (.aload_n 0, 1) := by decide +kernel
theorem dX12_readsNumber_20 : decode cX12_readsNumber 20 = .ok (.dup, 1) := by decide +kernel
theorem dX12_readsNumber_21 : decode cX12_readsNumber 21 = .ok (.getfield 58, 3) := by decide +kernel
theorem dX12_readsNumber_24 : decode cX12_readsNumber 24 = .ok (.iconst 1, 1) := by decide +kernel
theorem dX12_readsNumber_25 : decode cX12_readsNumber 25 = .ok (.iadd, 1) := by decide +kernel
theorem dX12_readsNumber_26 : decode cX12_readsNumber 26 = .ok (.putfield 58, 3) := by decide +kernel
theorem dX12_readsNumber_29 : decode cX12_readsNumber 29 = .ok (.aload_n 0, 1) := by decide +kernel
theorem dX12_readsNumber_30 : decode cX12_readsNumber 30 = .ok (.invokevirtual 150, 3) := by decide +kernel
theorem dX12_readsNumber_33 : decode cX12_readsNumber 33 = .ok (.invokestatic 143, 3) := by decide +kernel
theorem dX12_readsNumber_36 : decode cX12_readsNumber 36 = .ok (.ifCond .ne 10, 3) := by decide +kernel
theorem dX12_readsNumber_39 : decode cX12_readsNumber 39 = .ok (.aload_n 0, 1) := by decide +kernel
theorem dX12_readsNumber_40 : decode cX12_readsNumber 40 = .ok (.bipush 115, 2) := by decide +kernel
theorem dX12_readsNumber_42 : decode cX12_readsNumber 42 = .ok (.invokevirtual 154, 3) := by decide +kernel
theorem dX12_readsNumber_45 : decode cX12_readsNumber 45 = .ok (.ireturn, 1) := by decide +kernel
theorem dX12_readsNumber_46 : decode cX12_readsNumber 46 = .ok (.aload_n 0, 1) := by decide +kernel
theorem dX12_readsNumber_47 : decode cX12_readsNumber 47 = .ok (.aload_n 0, 1) := by decide +kernel
theorem dX12_readsNumber_48 : decode cX12_readsNumber 48 = .ok (.invokevirtual 150, 3) := by decide +kernel
theorem dX12_readsNumber_51 : decode cX12_readsNumber 51 = .ok (.bipush 48, 2) := by decide +kernel
theorem dX12_readsNumber_53 : decode cX12_readsNumber 53 = .ok (.isub, 1) := by decide +kernel
theorem dX12_readsNumber_54 : decode cX12_readsNumber 54 = .ok (.putfield 64, 3) := by decide +kernel
theorem dX12_readsNumber_57 : decode cX12_readsNumber 57 = .ok (.aload_n 0, 1) := by decide +kernel
theorem dX12_readsNumber_58 : decode cX12_readsNumber 58 = .ok (.dup, 1) := by decide +kernel
theorem dX12_readsNumber_59 : decode cX12_readsNumber 59 = .ok (.getfield 58, 3) := by decide +kernel
theorem dX12_readsNumber_62 : decode cX12_readsNumber 62 = .ok (.iconst 1, 1) := by decide +kernel
theorem dX12_readsNumber_63 : decode cX12_readsNumber 63 = .ok (.iadd, 1) := by decide +kernel
theorem dX12_readsNumber_64 : decode cX12_readsNumber 64 = .ok (.putfield 58, 3) := by decide +kernel
theorem dX12_readsNumber_67 : decode cX12_readsNumber 67 = .ok (.aload_n 0, 1) := by decide +kernel
theorem dX12_readsNumber_68 : decode cX12_readsNumber 68 = .ok (.invokevirtual 150, 3) := by decide +kernel
theorem dX12_readsNumber_71 : decode cX12_readsNumber 71 = .ok (.invokestatic 143, 3) := by decide +kernel
theorem dX12_readsNumber_74 : decode cX12_readsNumber 74 = .ok (.ifCond .eq 32, 3) := by decide +kernel
theorem dX12_readsNumber_77 : decode cX12_readsNumber 77 = .ok (.aload_n 0, 1) := by decide +kernel
theorem dX12_readsNumber_78 : decode cX12_readsNumber 78 = .ok (.bipush 10, 2) := by decide +kernel
theorem dX12_readsNumber_80 : decode cX12_readsNumber 80 = .ok (.aload_n 0, 1) := by decide +kernel
theorem dX12_readsNumber_81 : decode cX12_readsNumber 81 = .ok (.getfield 64, 3) := by decide +kernel
theorem dX12_readsNumber_84 : decode cX12_readsNumber 84 = .ok (.imul, 1) := by decide +kernel
theorem dX12_readsNumber_85 : decode cX12_readsNumber 85 = .ok (.aload_n 0, 1) := by decide +kernel
theorem dX12_readsNumber_86 : decode cX12_readsNumber 86 = .ok (.invokevirtual 150, 3) := by decide +kernel
theorem dX12_readsNumber_89 : decode cX12_readsNumber 89 = .ok (.iadd, 1) := by decide +kernel
theorem dX12_readsNumber_90 : decode cX12_readsNumber 90 = .ok (.bipush 48, 2) := by decide +kernel
theorem dX12_readsNumber_92 : decode cX12_readsNumber 92 = .ok (.isub, 1) := by decide +kernel
theorem dX12_readsNumber_93 : decode cX12_readsNumber 93 = .ok (.putfield 64, 3) := by decide +kernel
theorem dX12_readsNumber_96 : decode cX12_readsNumber 96 = .ok (.aload_n 0, 1) := by decide +kernel
theorem dX12_readsNumber_97 : decode cX12_readsNumber 97 = .ok (.dup, 1) := by decide +kernel
theorem dX12_readsNumber_98 : decode cX12_readsNumber 98 = .ok (.getfield 58, 3) := by decide +kernel
theorem dX12_readsNumber_101 : decode cX12_readsNumber 101 = .ok (.iconst 1, 1) := by decide +kernel
theorem dX12_readsNumber_102 : decode cX12_readsNumber 102 = .ok (.iadd, 1) := by decide +kernel
theorem dX12_readsNumber_103 : decode cX12_readsNumber 103 = .ok (.putfield 58, 3) := by decide +kernel
theorem dX12_readsNumber_106 : decode cX12_readsNumber 106 = .ok (.aload_n 0, 1) := by decide +kernel
theorem dX12_readsNumber_107 : decode cX12_readsNumber 107 = .ok (.dup, 1) := by decide +kernel
theorem dX12_readsNumber_108 : decode cX12_readsNumber 108 = .ok (.getfield 64, 3) := by decide +kernel
theorem dX12_readsNumber_111 : decode cX12_readsNumber 111 = .ok (.iload_n 1, 1) := by decide +kernel
theorem dX12_readsNumber_112 : decode cX12_readsNumber 112 = .ok (.imul, 1) := by decide +kernel
theorem dX12_readsNumber_113 : decode cX12_readsNumber 113 = .ok (.putfield 64, 3) := by decide +kernel
theorem dX12_readsNumber_116 : decode cX12_readsNumber 116 = .ok (.iconst 1, 1) := by decide +kernel
theorem dX12_readsNumber_117 : decode cX12_readsNumber 117 = .ok (.ireturn, 1) := by decide +kernel
theorem dX12_readsRelation_0 : decode cX12_readsRelation 0 = .ok (.aload_n 0, 1) := by decide +kernel
theorem dX12_readsRelation_1 : decode cX12_readsRelation 1 = .ok (.invokevirtual 150, 3) := by decide +kernel
theorem dX12_readsRelation_4 : decode cX12_readsRelation 4 = .ok (.istore_n 1, 1) := by decide +kernel
theorem dX12_readsRelation_5 : decode cX12_readsRelation 5 = .ok (.aload_n 0, 1) := by decide +kernel
theorem dX12_readsRelation_6 : decode cX12_readsRelation 6 = .ok (.iload_n 1, 1) := by decide +kernel
theorem dX12_readsRelation_7 : decode cX12_readsRelation 7 = .ok (.bipush 60, 2) := by decide +kernel
theorem dX12_readsRelation_9 : decode cX12_readsRelation 9 = .ok (.if_icmp .ne 7, 3) := by decide +kernel
theorem dX12_readsRelation_12 : decode cX12_readsRelation 12 = .ok (.iconst 0, 1) := by decide +kernel
theorem dX12_readsRelation_13 : decode cX12_readsRelation 13 = .ok (.goto 14, 3) := by decide +kernel
theorem dX12_readsRelation_16 : decode cX12_readsRelation 16 = .ok (.iload_n 1, 1) := by decide +kernel
theorem dX12_readsRelation_17 : decode cX12_readsRelation 17 = .ok (.bipush 62, 2) := by decide +kernel
theorem dX12_readsRelation_19 : decode cX12_readsRelation 19 = .ok (.if_icmp .ne 7, 3) := by decide +kernel
theorem dX12_readsRelation_22 : decode cX12_readsRelation 22 = .ok (.iconst 1, 1) := by decide +kernel
theorem dX12_readsRelation_23 : decode cX12_readsRelation 23 = .ok (.goto 4, 3) := by decide +kernel
theorem dX12_readsRelation_26 : decode cX12_readsRelation 26 = .ok (.iconst 2, 1) := by decide +kernel
theorem dX12_readsRelation_27 : decode cX12_readsRelation 27 = .ok (.putfield 61, 3) := by decide +kernel
theorem dX12_readsRelation_30 : decode cX12_readsRelation 30 = .ok (.iload_n 1, 1) := by decide +kernel
theorem dX12_readsRelation_31 : decode cX12_readsRelation 31 = .ok (.bipush 60, 2) := by decide +kernel
theorem dX12_readsRelation_33 : decode cX12_readsRelation 33 = .ok (.if_icmp .eq 9, 3) := by decide +kernel
theorem dX12_readsRelation_36 : decode cX12_readsRelation 36 = .ok (.iload_n 1, 1) := by decide +kernel
theorem dX12_readsRelation_37 : decode cX12_readsRelation 37 = .ok (.bipush 62, 2) := by decide +kernel
theorem dX12_readsRelation_39 : decode cX12_readsRelation 39 = .ok (.if_icmp .ne 13, 3) := by decide +kernel
theorem dX12_readsRelation_42 : decode cX12_readsRelation 42 = .ok (.aload_n 0, 1) := by decide +kernel
theorem dX12_readsRelation_43 : decode cX12_readsRelation 43 = .ok (.dup, 1) := by decide +kernel
theorem dX12_readsRelation_44 : decode cX12_readsRelation 44 = .ok (.getfield 58, 3) := by decide +kernel
theorem dX12_readsRelation_47 : decode cX12_readsRelation 47 = .ok (.iconst 1, 1) := by decide +kernel
theorem dX12_readsRelation_48 : decode cX12_readsRelation 48 = .ok (.iadd, 1) := by decide +kernel
theorem dX12_readsRelation_49 : decode cX12_readsRelation 49 = .ok (.putfield 58, 3) := by decide +kernel
theorem dX12_readsRelation_52 : decode cX12_readsRelation 52 = .ok (.aload_n 0, 1) := by decide +kernel
theorem dX12_readsRelation_53 : decode cX12_readsRelation 53 = .ok (.bipush 61, 2) := by decide +kernel
theorem dX12_readsRelation_55 : decode cX12_readsRelation 55 = .ok (.invokevirtual 160, 3) := by decide +kernel
theorem dX12_readsRelation_58 : decode cX12_readsRelation 58 = .ok (.ireturn, 1) := by decide +kernel
theorem dX12_readsEnd_0 : decode cX12_readsEnd 0 = .ok (.aload_n 0, 1) := by decide +kernel
theorem dX12_readsEnd_1 : decode cX12_readsEnd 1 = .ok (.getfield 58, 3) := by decide +kernel
theorem dX12_readsEnd_4 : decode cX12_readsEnd 4 = .ok (.aload_n 0, 1) := by decide +kernel
theorem dX12_readsEnd_5 : decode cX12_readsEnd 5 = .ok (.getfield 52, 3) := by decide +kernel
theorem dX12_readsEnd_8 : decode cX12_readsEnd 8 = .ok (.if_icmp .eq 12, 3) := by decide +kernel
theorem dX12_readsEnd_11 : decode cX12_readsEnd 11 = .ok (.aload_n 0, 1) := by decide +kernel
theorem dX12_readsEnd_12 : decode cX12_readsEnd 12 = .ok (.bipush 115, 2) := by decide +kernel
theorem dX12_readsEnd_14 : decode cX12_readsEnd 14 = .ok (.invokevirtual 154, 3) := by decide +kernel
theorem dX12_readsEnd_17 : decode cX12_readsEnd 17 = .ok (.ifCond .eq 7, 3) := by decide +kernel
theorem dX12_readsEnd_20 : decode cX12_readsEnd 20 = .ok (.iconst 1, 1) := by decide +kernel
theorem dX12_readsEnd_21 : decode cX12_readsEnd 21 = .ok (.goto 4, 3) := by decide +kernel
theorem dX12_readsEnd_24 : decode cX12_readsEnd 24 = .ok (.iconst 0, 1) := by decide +kernel
theorem dX12_readsEnd_25 : decode cX12_readsEnd 25 = .ok (.ireturn, 1) := by decide +kernel
theorem dX12_readsAim_0 : decode cX12_readsAim 0 = .ok (.aload_n 0, 1) := by decide +kernel
theorem dX12_readsAim_1 : decode cX12_readsAim 1 = .ok (.iconst 1, 1) := by decide +kernel
theorem dX12_readsAim_2 : decode cX12_readsAim 2 = .ok (.putfield 58, 3) := by decide +kernel
theorem dX12_readsAim_5 : decode cX12_readsAim 5 = .ok (.aload_n 0, 1) := by decide +kernel
theorem dX12_readsAim_6 : decode cX12_readsAim 6 = .ok (.invokevirtual 150, 3) := by decide +kernel
theorem dX12_readsAim_9 : decode cX12_readsAim 9 = .ok (.istore_n 1, 1) := by decide +kernel
theorem dX12_readsAim_10 : decode cX12_readsAim 10 = .ok (.iload_n 1, 1) := by decide +kernel
theorem dX12_readsAim_11 : decode cX12_readsAim 11 = .ok (.bipush 97, 2) := by decide +kernel
theorem dX12_readsAim_13 : decode cX12_readsAim 13 = .ok (.if_icmp .eq 16, 3) := by decide +kernel
theorem dX12_readsAim_16 : decode cX12_readsAim 16 = .ok (.iload_n 1, 1) := by decide +kernel
theorem dX12_readsAim_17 : decode cX12_readsAim 17 = .ok (.bipush 105, 2) := by decide +kernel
theorem dX12_readsAim_19 : decode cX12_readsAim 19 = .ok (.if_icmp .eq 10, 3) := by decide +kernel
theorem dX12_readsAim_22 : decode cX12_readsAim 22 = .ok (.aload_n 0, 1) := by decide +kernel
theorem dX12_readsAim_23 : decode cX12_readsAim 23 = .ok (.bipush 115, 2) := by decide +kernel
theorem dX12_readsAim_25 : decode cX12_readsAim 25 = .ok (.invokevirtual 154, 3) := by decide +kernel
theorem dX12_readsAim_28 : decode cX12_readsAim 28 = .ok (.ireturn, 1) := by decide +kernel
theorem dX12_readsAim_29 : decode cX12_readsAim 29 = .ok (.aload_n 0, 1) := by decide +kernel
theorem dX12_readsAim_30 : decode cX12_readsAim 30 = .ok (.dup, 1) := by decide +kernel
theorem dX12_readsAim_31 : decode cX12_readsAim 31 = .ok (.getfield 58, 3) := by decide +kernel
theorem dX12_readsAim_34 : decode cX12_readsAim 34 = .ok (.iconst 1, 1) := by decide +kernel
theorem dX12_readsAim_35 : decode cX12_readsAim 35 = .ok (.iadd, 1) := by decide +kernel
theorem dX12_readsAim_36 : decode cX12_readsAim 36 = .ok (.putfield 58, 3) := by decide +kernel
theorem dX12_readsAim_39 : decode cX12_readsAim 39 = .ok (.aload_n 0, 1) := by decide +kernel
theorem dX12_readsAim_40 : decode cX12_readsAim 40 = .ok (.iload_n 1, 1) := by decide +kernel
theorem dX12_readsAim_41 : decode cX12_readsAim 41 = .ok (.bipush 97, 2) := by decide +kernel
theorem dX12_readsAim_43 : decode cX12_readsAim 43 = .ok (.if_icmp .ne 8, 3) := by decide +kernel
theorem dX12_readsAim_46 : decode cX12_readsAim 46 = .ok (.bipush 120, 2) := by decide +kernel
theorem dX12_readsAim_48 : decode cX12_readsAim 48 = .ok (.goto 5, 3) := by decide +kernel
theorem dX12_readsAim_51 : decode cX12_readsAim 51 = .ok (.bipush 110, 2) := by decide +kernel
theorem dX12_readsAim_53 : decode cX12_readsAim 53 = .ok (.invokevirtual 160, 3) := by decide +kernel
theorem dX12_readsAim_56 : decode cX12_readsAim 56 = .ok (.ifCond .eq 21, 3) := by decide +kernel
theorem dX12_readsAim_59 : decode cX12_readsAim 59 = .ok (.aload_n 0, 1) := by decide +kernel
theorem dX12_readsAim_60 : decode cX12_readsAim 60 = .ok (.invokevirtual 163, 3) := by decide +kernel
theorem dX12_readsAim_63 : decode cX12_readsAim 63 = .ok (.ifCond .eq 14, 3) := by decide +kernel
theorem dX12_readsAim_66 : decode cX12_readsAim 66 = .ok (.aload_n 0, 1) := by decide +kernel
theorem dX12_readsAim_67 : decode cX12_readsAim 67 = .ok (.invokevirtual 167, 3) := by decide +kernel
theorem dX12_readsAim_70 : decode cX12_readsAim 70 = .ok (.ifCond .eq 7, 3) := by decide +kernel
theorem dX12_readsAim_73 : decode cX12_readsAim 73 = .ok (.iconst 1, 1) := by decide +kernel
theorem dX12_readsAim_74 : decode cX12_readsAim 74 = .ok (.goto 4, 3) := by decide +kernel
theorem dX12_readsAim_77 : decode cX12_readsAim 77 = .ok (.iconst 0, 1) := by decide +kernel
theorem dX12_readsAim_78 : decode cX12_readsAim 78 = .ok (.ireturn, 1) := by decide +kernel
theorem dX12_isAimText_0 : decode cX12_isAimText 0 = .ok (.aload_n 0, 1) := by decide +kernel
theorem dX12_isAimText_1 : decode cX12_isAimText 1 = .ok (.getfield 52, 3) := by decide +kernel
theorem dX12_isAimText_4 : decode cX12_isAimText 4 = .ok (.ifCond .le 18, 3) := by decide +kernel
theorem dX12_isAimText_7 : decode cX12_isAimText 7 = .ok (.aload_n 0, 1) := by decide +kernel
theorem dX12_isAimText_8 : decode cX12_isAimText 8 = .ok (.getfield 35, 3) := by decide +kernel
theorem dX12_isAimText_11 : decode cX12_isAimText 11 = .ok (.iconst 0, 1) := by decide +kernel
theorem dX12_isAimText_12 : decode cX12_isAimText 12 = .ok (.caload, 1) := by decide +kernel
theorem dX12_isAimText_13 : decode cX12_isAimText 13 = .ok (.bipush 109, 2) := by decide +kernel
theorem dX12_isAimText_15 : decode cX12_isAimText 15 = .ok (.if_icmp .ne 7, 3) := by decide +kernel
theorem dX12_isAimText_18 : decode cX12_isAimText 18 = .ok (.iconst 1, 1) := by decide +kernel
theorem dX12_isAimText_19 : decode cX12_isAimText 19 = .ok (.goto 4, 3) := by decide +kernel
theorem dX12_isAimText_22 : decode cX12_isAimText 22 = .ok (.iconst 0, 1) := by decide +kernel
theorem dX12_isAimText_23 : decode cX12_isAimText 23 = .ok (.ireturn, 1) := by decide +kernel
theorem dX12_isInRange_0 : decode cX12_isInRange 0 = .ok (.iconst 0, 1) := by decide +kernel
theorem dX12_isInRange_1 : decode cX12_isInRange 1 = .ok (.istore_n 1, 1) := by decide +kernel
theorem dX12_isInRange_2 : decode cX12_isInRange 2 = .ok (.iload_n 1, 1) := by decide +kernel
theorem dX12_isInRange_3 : decode cX12_isInRange 3 = .ok (.iconst 3, 1) := by decide +kernel
theorem dX12_isInRange_4 : decode cX12_isInRange 4 = .ok (.if_icmp .ge 27, 3) := by decide +kernel
theorem dX12_isInRange_7 : decode cX12_isInRange 7 = .ok (.aload_n 0, 1) := by decide +kernel
theorem dX12_isInRange_8 : decode cX12_isInRange 8 = .ok (.getfield 55, 3) := by decide +kernel
theorem dX12_isInRange_11 : decode cX12_isInRange 11 = .ok (.iload_n 1, 1) := by decide +kernel
theorem dX12_isInRange_12 : decode cX12_isInRange 12 = .ok (.iaload, 1) := by decide +kernel
theorem dX12_isInRange_13 : decode cX12_isInRange 13 = .ok (.bipush (-9), 2) := by decide +kernel
theorem dX12_isInRange_15 : decode cX12_isInRange 15 = .ok (.bipush 9, 2) := by decide +kernel
theorem dX12_isInRange_17 : decode cX12_isInRange 17 = .ok (.invokestatic 135, 3) := by decide +kernel
theorem dX12_isInRange_20 : decode cX12_isInRange 20 = .ok (.ifCond .ne 5, 3) := by decide +kernel
theorem dX12_isInRange_23 : decode cX12_isInRange 23 = .ok (.iconst 0, 1) := by decide +kernel
theorem dX12_isInRange_24 : decode cX12_isInRange 24 = .ok (.ireturn, 1) := by decide +kernel
theorem dX12_isInRange_25 : decode cX12_isInRange 25 = .ok (.iinc 1 1, 3) := by decide +kernel
theorem dX12_isInRange_28 : decode cX12_isInRange 28 = .ok (.goto (-26), 3) := by decide +kernel
theorem dX12_isInRange_31 : decode cX12_isInRange 31 = .ok (.iconst 1, 1) := by decide +kernel
theorem dX12_isInRange_32 : decode cX12_isInRange 32 = .ok (.ireturn, 1) := by decide +kernel
theorem dX12_reads_0 : decode cX12_reads 0 = .ok (.aload_n 0, 1) := by decide +kernel
theorem dX12_reads_1 : decode cX12_reads 1 = .ok (.iconst 0, 1) := by decide +kernel
theorem dX12_reads_2 : decode cX12_reads 2 = .ok (.putfield 58, 3) := by decide +kernel
theorem dX12_reads_5 : decode cX12_reads 5 = .ok (.aload_n 0, 1) := by decide +kernel
theorem dX12_reads_6 : decode cX12_reads 6 = .ok (.bipush 45, 2) := by decide +kernel
theorem dX12_reads_8 : decode cX12_reads 8 = .ok (.putfield 67, 3) := by decide +kernel
theorem dX12_reads_11 : decode cX12_reads 11 = .ok (.iconst 0, 1) := by decide +kernel
theorem dX12_reads_12 : decode cX12_reads 12 = .ok (.istore_n 1, 1) := by decide +kernel
theorem dX12_reads_13 : decode cX12_reads 13 = .ok (.iload_n 1, 1) := by decide +kernel
theorem dX12_reads_14 : decode cX12_reads 14 = .ok (.iconst 3, 1) := by decide +kernel
theorem dX12_reads_15 : decode cX12_reads 15 = .ok (.if_icmp .ge 16, 3) := by decide +kernel
theorem dX12_reads_18 : decode cX12_reads 18 = .ok (.aload_n 0, 1) := by decide +kernel
theorem dX12_reads_19 : decode cX12_reads 19 = .ok (.getfield 55, 3) := by decide +kernel
theorem dX12_reads_22 : decode cX12_reads 22 = .ok (.iload_n 1, 1) := by decide +kernel
theorem dX12_reads_23 : decode cX12_reads 23 = .ok (.iconst 0, 1) := by decide +kernel
theorem dX12_reads_24 : decode cX12_reads 24 = .ok (.iastore, 1) := by decide +kernel
theorem dX12_reads_25 : decode cX12_reads 25 = .ok (.iinc 1 1, 3) := by decide +kernel
theorem dX12_reads_28 : decode cX12_reads 28 = .ok (.goto (-15), 3) := by decide +kernel
theorem dX12_reads_31 : decode cX12_reads 31 = .ok (.aload_n 0, 1) := by decide +kernel
theorem dX12_reads_32 : decode cX12_reads 32 = .ok (.invokevirtual 170, 3) := by decide +kernel
theorem dX12_reads_35 : decode cX12_reads 35 = .ok (.ifCond .eq 10, 3) := by decide +kernel
theorem dX12_reads_38 : decode cX12_reads 38 = .ok (.aload_n 0, 1) := by decide +kernel
theorem dX12_reads_39 : decode cX12_reads 39 = .ok (.invokevirtual 173, 3) := by decide +kernel
theorem dX12_reads_42 : decode cX12_reads 42 = .ok (.goto 36, 3) := by decide +kernel
theorem dX12_reads_45 : decode cX12_reads 45 = .ok (.aload_n 0, 1) := by decide +kernel
theorem dX12_reads_46 : decode cX12_reads 46 = .ok (.invokevirtual 163, 3) := by decide +kernel
theorem dX12_reads_49 : decode cX12_reads 49 = .ok (.ifCond .eq 28, 3) := by decide +kernel
theorem dX12_reads_52 : decode cX12_reads 52 = .ok (.aload_n 0, 1) := by decide +kernel
theorem dX12_reads_53 : decode cX12_reads 53 = .ok (.invokevirtual 176, 3) := by decide +kernel
theorem dX12_reads_56 : decode cX12_reads 56 = .ok (.ifCond .eq 21, 3) := by decide +kernel
theorem dX12_reads_59 : decode cX12_reads 59 = .ok (.aload_n 0, 1) := by decide +kernel
theorem dX12_reads_60 : decode cX12_reads 60 = .ok (.invokevirtual 179, 3) := by decide +kernel
theorem dX12_reads_63 : decode cX12_reads 63 = .ok (.ifCond .eq 14, 3) := by decide +kernel
theorem dX12_reads_66 : decode cX12_reads 66 = .ok (.aload_n 0, 1) := by decide +kernel
theorem dX12_reads_67 : decode cX12_reads 67 = .ok (.invokevirtual 167, 3) := by decide +kernel
theorem dX12_reads_70 : decode cX12_reads 70 = .ok (.ifCond .eq 7, 3) := by decide +kernel
theorem dX12_reads_73 : decode cX12_reads 73 = .ok (.iconst 1, 1) := by decide +kernel
theorem dX12_reads_74 : decode cX12_reads 74 = .ok (.goto 4, 3) := by decide +kernel
theorem dX12_reads_77 : decode cX12_reads 77 = .ok (.iconst 0, 1) := by decide +kernel
theorem dX12_reads_78 : decode cX12_reads 78 = .ok (.istore_n 1, 1) := by decide +kernel
theorem dX12_reads_79 : decode cX12_reads 79 = .ok (.iload_n 1, 1) := by decide +kernel
theorem dX12_reads_80 : decode cX12_reads 80 = .ok (.ifCond .eq 10, 3) := by decide +kernel
theorem dX12_reads_83 : decode cX12_reads 83 = .ok (.aload_n 0, 1) := by decide +kernel
theorem dX12_reads_84 : decode cX12_reads 84 = .ok (.invokevirtual 182, 3) := by decide +kernel
theorem dX12_reads_87 : decode cX12_reads 87 = .ok (.ifCond .eq 4, 3) := by decide +kernel
theorem dX12_reads_90 : decode cX12_reads 90 = .ok (.return_, 1) := by decide +kernel
theorem dX12_reads_91 : decode cX12_reads 91 = .ok (.aload_n 0, 1) := by decide +kernel
theorem dX12_reads_92 : decode cX12_reads 92 = .ok (.bipush 114, 2) := by decide +kernel
theorem dX12_reads_94 : decode cX12_reads 94 = .ok (.putfield 67, 3) := by decide +kernel
theorem dX12_reads_97 : decode cX12_reads 97 = .ok (.aload_n 0, 1) := by decide +kernel
theorem dX12_reads_98 : decode cX12_reads 98 = .ok (.aload_n 0, 1) := by decide +kernel
theorem dX12_reads_99 : decode cX12_reads 99 = .ok (.getfield 52, 3) := by decide +kernel
theorem dX12_reads_102 : decode cX12_reads 102 = .ok (.putfield 58, 3) := by decide +kernel
theorem dX12_reads_105 : decode cX12_reads 105 = .ok (.return_, 1) := by decide +kernel
theorem dX12_fault_0 : decode cX12_fault 0 = .ok (.aload_n 0, 1) := by decide +kernel
theorem dX12_fault_1 : decode cX12_fault 1 = .ok (.iconst 0, 1) := by decide +kernel
theorem dX12_fault_2 : decode cX12_fault 2 = .ok (.putfield 39, 3) := by decide +kernel
theorem dX12_fault_5 : decode cX12_fault 5 = .ok (.aload_n 0, 1) := by decide +kernel
theorem dX12_fault_6 : decode cX12_fault 6 = .ok (.invokevirtual 185, 3) := by decide +kernel
theorem dX12_fault_9 : decode cX12_fault 9 = .ok (.aload_n 0, 1) := by decide +kernel
theorem dX12_fault_10 : decode cX12_fault 10 = .ok (.getfield 67, 3) := by decide +kernel
theorem dX12_fault_13 : decode cX12_fault 13 = .ok (.ireturn, 1) := by decide +kernel
theorem dX12_faultAt_0 : decode cX12_faultAt 0 = .ok (.aload_n 0, 1) := by decide +kernel
theorem dX12_faultAt_1 : decode cX12_faultAt 1 = .ok (.invokevirtual 185, 3) := by decide +kernel
theorem dX12_faultAt_4 : decode cX12_faultAt 4 = .ok (.aload_n 0, 1) := by decide +kernel
theorem dX12_faultAt_5 : decode cX12_faultAt 5 = .ok (.aload_n 0, 1) := by decide +kernel
theorem dX12_faultAt_6 : decode cX12_faultAt 6 = .ok (.getfield 67, 3) := by decide +kernel
theorem dX12_faultAt_9 : decode cX12_faultAt 9 = .ok (.bipush 45, 2) := by decide +kernel
theorem dX12_faultAt_11 : decode cX12_faultAt 11 = .ok (.if_icmp .eq 7, 3) := by decide +kernel
theorem dX12_faultAt_14 : decode cX12_faultAt 14 = .ok (.iconst 1, 1) := by decide +kernel
theorem dX12_faultAt_15 : decode cX12_faultAt 15 = .ok (.goto 4, 3) := by decide +kernel
theorem dX12_faultAt_18 : decode cX12_faultAt 18 = .ok (.iconst 0, 1) := by decide +kernel
theorem dX12_faultAt_19 : decode cX12_faultAt 19 = .ok (.invokevirtual 188, 3) := by decide +kernel
theorem dX12_faultAt_22 : decode cX12_faultAt 22 = .ok (.ifCond .le 7, 3) := by decide +kernel
theorem dX12_faultAt_25 : decode cX12_faultAt 25 = .ok (.iconst 0, 1) := by decide +kernel
theorem dX12_faultAt_26 : decode cX12_faultAt 26 = .ok (.goto 7, 3) := by decide +kernel
theorem dX12_faultAt_29 : decode cX12_faultAt 29 = .ok (.aload_n 0, 1) := by decide +kernel
theorem dX12_faultAt_30 : decode cX12_faultAt 30 = .ok (.getfield 58, 3) := by decide +kernel
theorem dX12_faultAt_33 : decode cX12_faultAt 33 = .ok (.ireturn, 1) := by decide +kernel
theorem dX12_isAim_0 : decode cX12_isAim 0 = .ok (.aload_n 0, 1) := by decide +kernel
theorem dX12_isAim_1 : decode cX12_isAim 1 = .ok (.iconst 0, 1) := by decide +kernel
theorem dX12_isAim_2 : decode cX12_isAim 2 = .ok (.putfield 39, 3) := by decide +kernel
theorem dX12_isAim_5 : decode cX12_isAim 5 = .ok (.aload_n 0, 1) := by decide +kernel
theorem dX12_isAim_6 : decode cX12_isAim 6 = .ok (.invokevirtual 170, 3) := by decide +kernel
theorem dX12_isAim_9 : decode cX12_isAim 9 = .ok (.ireturn, 1) := by decide +kernel
theorem dX12_leftRows_0 : decode cX12_leftRows 0 = .ok (.iconst 0, 1) := by decide +kernel
theorem dX12_leftRows_1 : decode cX12_leftRows 1 = .ok (.istore_n 1, 1) := by decide +kernel
theorem dX12_leftRows_2 : decode cX12_leftRows 2 = .ok (.iconst 0, 1) := by decide +kernel
theorem dX12_leftRows_3 : decode cX12_leftRows 3 = .ok (.istore_n 2, 1) := by decide +kernel
theorem dX12_leftRows_4 : decode cX12_leftRows 4 = .ok (.iload_n 2, 1) := by decide +kernel
theorem dX12_leftRows_5 : decode cX12_leftRows 5 = .ok (.aload_n 0, 1) := by decide +kernel
theorem dX12_leftRows_6 : decode cX12_leftRows 6 = .ok (.getfield 46, 3) := by decide +kernel
theorem dX12_leftRows_9 : decode cX12_leftRows 9 = .ok (.if_icmp .ge 26, 3) := by decide +kernel
theorem dX12_leftRows_12 : decode cX12_leftRows 12 = .ok (.iload_n 1, 1) := by decide +kernel
theorem dX12_leftRows_13 : decode cX12_leftRows 13 = .ok (.aload_n 0, 1) := by decide +kernel
theorem dX12_leftRows_14 : decode cX12_leftRows 14 = .ok (.getfield 28, 3) := by decide +kernel
theorem dX12_leftRows_17 : decode cX12_leftRows 17 = .ok (.iload_n 2, 1) := by decide +kernel
theorem dX12_leftRows_18 : decode cX12_leftRows 18 = .ok (.baload, 1) := by decide +kernel
theorem dX12_leftRows_19 : decode cX12_leftRows 19 = .ok (.ifCond .eq 7, 3) := by decide +kernel
theorem dX12_leftRows_22 : decode cX12_leftRows 22 = .ok (.iconst 0, 1) := by decide +kernel
theorem dX12_leftRows_23 : decode cX12_leftRows 23 = .ok (.goto 4, 3) := by decide +kernel
theorem dX12_leftRows_26 : decode cX12_leftRows 26 = .ok (.iconst 1, 1) := by decide +kernel
theorem dX12_leftRows_27 : decode cX12_leftRows 27 = .ok (.iadd, 1) := by decide +kernel
theorem dX12_leftRows_28 : decode cX12_leftRows 28 = .ok (.istore_n 1, 1) := by decide +kernel
theorem dX12_leftRows_29 : decode cX12_leftRows 29 = .ok (.iinc 2 1, 3) := by decide +kernel
theorem dX12_leftRows_32 : decode cX12_leftRows 32 = .ok (.goto (-28), 3) := by decide +kernel
theorem dX12_leftRows_35 : decode cX12_leftRows 35 = .ok (.iload_n 1, 1) := by decide +kernel
theorem dX12_leftRows_36 : decode cX12_leftRows 36 = .ok (.ireturn, 1) := by decide +kernel
theorem dX12_tell_0 : decode cX12_tell 0 = .ok (.aload_n 0, 1) := by decide +kernel
theorem dX12_tell_1 : decode cX12_tell 1 = .ok (.invokevirtual 185, 3) := by decide +kernel
theorem dX12_tell_4 : decode cX12_tell 4 = .ok (.aload_n 0, 1) := by decide +kernel
theorem dX12_tell_5 : decode cX12_tell 5 = .ok (.invokevirtual 170, 3) := by decide +kernel
theorem dX12_tell_8 : decode cX12_tell 8 = .ok (.ifCond .eq 19, 3) := by decide +kernel
theorem dX12_tell_11 : decode cX12_tell 11 = .ok (.aload_n 0, 1) := by decide +kernel
theorem dX12_tell_12 : decode cX12_tell 12 = .ok (.getfield 49, 3) := by decide +kernel
theorem dX12_tell_15 : decode cX12_tell 15 = .ok (.iconst 3, 1) := by decide +kernel
theorem dX12_tell_16 : decode cX12_tell 16 = .ok (.if_icmp .ne 7, 3) := by decide +kernel
theorem dX12_tell_19 : decode cX12_tell 19 = .ok (.iconst 1, 1) := by decide +kernel
theorem dX12_tell_20 : decode cX12_tell 20 = .ok (.goto 30, 3) := by decide +kernel
theorem dX12_tell_23 : decode cX12_tell 23 = .ok (.iconst 0, 1) := by decide +kernel
theorem dX12_tell_24 : decode cX12_tell 24 = .ok (.goto 26, 3) := by decide +kernel
theorem dX12_tell_27 : decode cX12_tell 27 = .ok (.aload_n 0, 1) := by decide +kernel
theorem dX12_tell_28 : decode cX12_tell 28 = .ok (.getfield 46, 3) := by decide +kernel
theorem dX12_tell_31 : decode cX12_tell 31 = .ok (.bipush 12, 2) := by decide +kernel
theorem dX12_tell_33 : decode cX12_tell 33 = .ok (.if_icmp .eq 12, 3) := by decide +kernel
theorem dX12_tell_36 : decode cX12_tell 36 = .ok (.aload_n 0, 1) := by decide +kernel
theorem dX12_tell_37 : decode cX12_tell 37 = .ok (.invokevirtual 192, 3) := by decide +kernel
theorem dX12_tell_40 : decode cX12_tell 40 = .ok (.bipush 6, 2) := by decide +kernel
theorem dX12_tell_42 : decode cX12_tell 42 = .ok (.if_icmp .ne 7, 3) := by decide +kernel
theorem dX12_tell_45 : decode cX12_tell 45 = .ok (.iconst 1, 1) := by decide +kernel
theorem dX12_tell_46 : decode cX12_tell 46 = .ok (.goto 4, 3) := by decide +kernel
theorem dX12_tell_49 : decode cX12_tell 49 = .ok (.iconst 0, 1) := by decide +kernel
theorem dX12_tell_50 : decode cX12_tell 50 = .ok (.istore_n 1, 1) := by decide +kernel
theorem dX12_tell_51 : decode cX12_tell 51 = .ok (.aload_n 0, 1) := by decide +kernel
theorem dX12_tell_52 : decode cX12_tell 52 = .ok (.aload_n 0, 1) := by decide +kernel
theorem dX12_tell_53 : decode cX12_tell 53 = .ok (.getfield 67, 3) := by decide +kernel
theorem dX12_tell_56 : decode cX12_tell 56 = .ok (.bipush 45, 2) := by decide +kernel
theorem dX12_tell_58 : decode cX12_tell 58 = .ok (.if_icmp .eq 7, 3) := by decide +kernel
theorem dX12_tell_61 : decode cX12_tell 61 = .ok (.iconst 1, 1) := by decide +kernel
theorem dX12_tell_62 : decode cX12_tell 62 = .ok (.goto 12, 3) := by decide +kernel
theorem dX12_tell_65 : decode cX12_tell 65 = .ok (.iload_n 1, 1) := by decide +kernel
theorem dX12_tell_66 : decode cX12_tell 66 = .ok (.ifCond .eq 7, 3) := by decide +kernel
theorem dX12_tell_69 : decode cX12_tell 69 = .ok (.iconst 2, 1) := by decide +kernel
theorem dX12_tell_70 : decode cX12_tell 70 = .ok (.goto 4, 3) := by decide +kernel
theorem dX12_tell_73 : decode cX12_tell 73 = .ok (.iconst 0, 1) := by decide +kernel
theorem dX12_tell_74 : decode cX12_tell 74 = .ok (.putfield 39, 3) := by decide +kernel
theorem dX12_tell_77 : decode cX12_tell 77 = .ok (.aload_n 0, 1) := by decide +kernel
theorem dX12_tell_78 : decode cX12_tell 78 = .ok (.getfield 39, 3) := by decide +kernel
theorem dX12_tell_81 : decode cX12_tell 81 = .ok (.ifCond .le 5, 3) := by decide +kernel
theorem dX12_tell_84 : decode cX12_tell 84 = .ok (.iconst 0, 1) := by decide +kernel
theorem dX12_tell_85 : decode cX12_tell 85 = .ok (.ireturn, 1) := by decide +kernel
theorem dX12_tell_86 : decode cX12_tell 86 = .ok (.aload_n 0, 1) := by decide +kernel
theorem dX12_tell_87 : decode cX12_tell 87 = .ok (.iconst 0, 1) := by decide +kernel
theorem dX12_tell_88 : decode cX12_tell 88 = .ok (.putfield 52, 3) := by decide +kernel
theorem dX12_tell_91 : decode cX12_tell 91 = .ok (.aload_n 0, 1) := by decide +kernel
theorem dX12_tell_92 : decode cX12_tell 92 = .ok (.getfield 35, 3) := by decide +kernel
theorem dX12_tell_95 : decode cX12_tell 95 = .ok (.iconst 0, 1) := by decide +kernel
theorem dX12_tell_96 : decode cX12_tell 96 = .ok (.caload, 1) := by decide +kernel
theorem dX12_tell_97 : decode cX12_tell 97 = .ok (.bipush 109, 2) := by decide +kernel
theorem dX12_tell_99 : decode cX12_tell 99 = .ok (.if_icmp .ne 8, 3) := by decide +kernel
theorem dX12_tell_102 : decode cX12_tell 102 = .ok (.aload_n 0, 1) := by decide +kernel
theorem dX12_tell_103 : decode cX12_tell 103 = .ok (.invokevirtual 196, 3) := by decide +kernel
theorem dX12_tell_106 : decode cX12_tell 106 = .ok (.ireturn, 1) := by decide +kernel
theorem dX12_tell_107 : decode cX12_tell 107 = .ok (.iconst 0, 1) := by decide +kernel
theorem dX12_tell_108 : decode cX12_tell 108 = .ok (.istore_n 2, 1) := by decide +kernel
theorem dX12_tell_109 : decode cX12_tell 109 = .ok (.iload_n 2, 1) := by decide +kernel
theorem dX12_tell_110 : decode cX12_tell 110 = .ok (.iconst 3, 1) := by decide +kernel
theorem dX12_tell_111 : decode cX12_tell 111 = .ok (.if_icmp .ge 28, 3) := by decide +kernel
theorem dX12_tell_114 : decode cX12_tell 114 = .ok (.aload_n 0, 1) := by decide +kernel
theorem dX12_tell_115 : decode cX12_tell 115 = .ok (.getfield 16, 3) := by decide +kernel
theorem dX12_tell_118 : decode cX12_tell 118 = .ok (.iconst 3, 1) := by decide +kernel
theorem dX12_tell_119 : decode cX12_tell 119 = .ok (.aload_n 0, 1) := by decide +kernel
theorem dX12_tell_120 : decode cX12_tell 120 = .ok (.getfield 46, 3) := by decide +kernel
theorem dX12_tell_123 : decode cX12_tell 123 = .ok (.imul, 1) := by decide +kernel
theorem dX12_tell_124 : decode cX12_tell 124 = .ok (.iload_n 2, 1) := by decide +kernel
theorem dX12_tell_125 : decode cX12_tell 125 = .ok (.iadd, 1) := by decide +kernel
theorem dX12_tell_126 : decode cX12_tell 126 = .ok (.aload_n 0, 1) := by decide +kernel
theorem dX12_tell_127 : decode cX12_tell 127 = .ok (.getfield 55, 3) := by decide +kernel
theorem dX12_tell_130 : decode cX12_tell 130 = .ok (.iload_n 2, 1) := by decide +kernel
theorem dX12_tell_131 : decode cX12_tell 131 = .ok (.iaload, 1) := by decide +kernel
theorem dX12_tell_132 : decode cX12_tell 132 = .ok (.iastore, 1) := by decide +kernel
theorem dX12_tell_133 : decode cX12_tell 133 = .ok (.iinc 2 1, 3) := by decide +kernel
theorem dX12_tell_136 : decode cX12_tell 136 = .ok (.goto (-27), 3) := by decide +kernel
theorem dX12_tell_139 : decode cX12_tell 139 = .ok (.aload_n 0, 1) := by decide +kernel
theorem dX12_tell_140 : decode cX12_tell 140 = .ok (.getfield 19, 3) := by decide +kernel
theorem dX12_tell_143 : decode cX12_tell 143 = .ok (.aload_n 0, 1) := by decide +kernel
theorem dX12_tell_144 : decode cX12_tell 144 = .ok (.getfield 46, 3) := by decide +kernel
theorem dX12_tell_147 : decode cX12_tell 147 = .ok (.aload_n 0, 1) := by decide +kernel
theorem dX12_tell_148 : decode cX12_tell 148 = .ok (.getfield 61, 3) := by decide +kernel
theorem dX12_tell_151 : decode cX12_tell 151 = .ok (.iastore, 1) := by decide +kernel
theorem dX12_tell_152 : decode cX12_tell 152 = .ok (.aload_n 0, 1) := by decide +kernel
theorem dX12_tell_153 : decode cX12_tell 153 = .ok (.getfield 22, 3) := by decide +kernel
theorem dX12_tell_156 : decode cX12_tell 156 = .ok (.aload_n 0, 1) := by decide +kernel
theorem dX12_tell_157 : decode cX12_tell 157 = .ok (.getfield 46, 3) := by decide +kernel
theorem dX12_tell_160 : decode cX12_tell 160 = .ok (.aload_n 0, 1) := by decide +kernel
theorem dX12_tell_161 : decode cX12_tell 161 = .ok (.getfield 64, 3) := by decide +kernel
theorem dX12_tell_164 : decode cX12_tell 164 = .ok (.iastore, 1) := by decide +kernel
theorem dX12_tell_165 : decode cX12_tell 165 = .ok (.aload_n 0, 1) := by decide +kernel
theorem dX12_tell_166 : decode cX12_tell 166 = .ok (.dup, 1) := by decide +kernel
theorem dX12_tell_167 : decode cX12_tell 167 = .ok (.getfield 46, 3) := by decide +kernel
theorem dX12_tell_170 : decode cX12_tell 170 = .ok (.iconst 1, 1) := by decide +kernel
theorem dX12_tell_171 : decode cX12_tell 171 = .ok (.iadd, 1) := by decide +kernel
theorem dX12_tell_172 : decode cX12_tell 172 = .ok (.putfield 46, 3) := by decide +kernel
theorem dX12_tell_175 : decode cX12_tell 175 = .ok (.aload_n 0, 1) := by decide +kernel
theorem dX12_tell_176 : decode cX12_tell 176 = .ok (.getfield 46, 3) := by decide +kernel
theorem dX12_tell_179 : decode cX12_tell 179 = .ok (.iconst 1, 1) := by decide +kernel
theorem dX12_tell_180 : decode cX12_tell 180 = .ok (.isub, 1) := by decide +kernel
theorem dX12_tell_181 : decode cX12_tell 181 = .ok (.ireturn, 1) := by decide +kernel
theorem dX12_tellsAim_0 : decode cX12_tellsAim 0 = .ok (.iconst 0, 1) := by decide +kernel
theorem dX12_tellsAim_1 : decode cX12_tellsAim 1 = .ok (.istore_n 1, 1) := by decide +kernel
theorem dX12_tellsAim_2 : decode cX12_tellsAim 2 = .ok (.iload_n 1, 1) := by decide +kernel
theorem dX12_tellsAim_3 : decode cX12_tellsAim 3 = .ok (.iconst 3, 1) := by decide +kernel
theorem dX12_tellsAim_4 : decode cX12_tellsAim 4 = .ok (.if_icmp .ge 28, 3) := by decide +kernel
theorem dX12_tellsAim_7 : decode cX12_tellsAim 7 = .ok (.aload_n 0, 1) := by decide +kernel
theorem dX12_tellsAim_8 : decode cX12_tellsAim 8 = .ok (.getfield 25, 3) := by decide +kernel
theorem dX12_tellsAim_11 : decode cX12_tellsAim 11 = .ok (.iconst 3, 1) := by decide +kernel
theorem dX12_tellsAim_12 : decode cX12_tellsAim 12 = .ok (.aload_n 0, 1) := by decide +kernel
theorem dX12_tellsAim_13 : decode cX12_tellsAim 13 = .ok (.getfield 49, 3) := by decide +kernel
theorem dX12_tellsAim_16 : decode cX12_tellsAim 16 = .ok (.imul, 1) := by decide +kernel
theorem dX12_tellsAim_17 : decode cX12_tellsAim 17 = .ok (.iload_n 1, 1) := by decide +kernel
theorem dX12_tellsAim_18 : decode cX12_tellsAim 18 = .ok (.iadd, 1) := by decide +kernel
theorem dX12_tellsAim_19 : decode cX12_tellsAim 19 = .ok (.aload_n 0, 1) := by decide +kernel
theorem dX12_tellsAim_20 : decode cX12_tellsAim 20 = .ok (.getfield 55, 3) := by decide +kernel
theorem dX12_tellsAim_23 : decode cX12_tellsAim 23 = .ok (.iload_n 1, 1) := by decide +kernel
theorem dX12_tellsAim_24 : decode cX12_tellsAim 24 = .ok (.iaload, 1) := by decide +kernel
theorem dX12_tellsAim_25 : decode cX12_tellsAim 25 = .ok (.iastore, 1) := by decide +kernel
theorem dX12_tellsAim_26 : decode cX12_tellsAim 26 = .ok (.iinc 1 1, 3) := by decide +kernel
theorem dX12_tellsAim_29 : decode cX12_tellsAim 29 = .ok (.goto (-27), 3) := by decide +kernel
theorem dX12_tellsAim_32 : decode cX12_tellsAim 32 = .ok (.aload_n 0, 1) := by decide +kernel
theorem dX12_tellsAim_33 : decode cX12_tellsAim 33 = .ok (.getfield 32, 3) := by decide +kernel
theorem dX12_tellsAim_36 : decode cX12_tellsAim 36 = .ok (.aload_n 0, 1) := by decide +kernel
theorem dX12_tellsAim_37 : decode cX12_tellsAim 37 = .ok (.getfield 49, 3) := by decide +kernel
theorem dX12_tellsAim_40 : decode cX12_tellsAim 40 = .ok (.aload_n 0, 1) := by decide +kernel
theorem dX12_tellsAim_41 : decode cX12_tellsAim 41 = .ok (.getfield 35, 3) := by decide +kernel
theorem dX12_tellsAim_44 : decode cX12_tellsAim 44 = .ok (.iconst 1, 1) := by decide +kernel
theorem dX12_tellsAim_45 : decode cX12_tellsAim 45 = .ok (.caload, 1) := by decide +kernel
theorem dX12_tellsAim_46 : decode cX12_tellsAim 46 = .ok (.bipush 97, 2) := by decide +kernel
theorem dX12_tellsAim_48 : decode cX12_tellsAim 48 = .ok (.if_icmp .ne 7, 3) := by decide +kernel
theorem dX12_tellsAim_51 : decode cX12_tellsAim 51 = .ok (.iconst 1, 1) := by decide +kernel
theorem dX12_tellsAim_52 : decode cX12_tellsAim 52 = .ok (.goto 4, 3) := by decide +kernel
theorem dX12_tellsAim_55 : decode cX12_tellsAim 55 = .ok (.iconst 0, 1) := by decide +kernel
theorem dX12_tellsAim_56 : decode cX12_tellsAim 56 = .ok (.bastore, 1) := by decide +kernel
theorem dX12_tellsAim_57 : decode cX12_tellsAim 57 = .ok (.aload_n 0, 1) := by decide +kernel
theorem dX12_tellsAim_58 : decode cX12_tellsAim 58 = .ok (.dup, 1) := by decide +kernel
theorem dX12_tellsAim_59 : decode cX12_tellsAim 59 = .ok (.getfield 49, 3) := by decide +kernel
theorem dX12_tellsAim_62 : decode cX12_tellsAim 62 = .ok (.iconst 1, 1) := by decide +kernel
theorem dX12_tellsAim_63 : decode cX12_tellsAim 63 = .ok (.iadd, 1) := by decide +kernel
theorem dX12_tellsAim_64 : decode cX12_tellsAim 64 = .ok (.putfield 49, 3) := by decide +kernel
theorem dX12_tellsAim_67 : decode cX12_tellsAim 67 = .ok (.aload_n 0, 1) := by decide +kernel
theorem dX12_tellsAim_68 : decode cX12_tellsAim 68 = .ok (.getfield 49, 3) := by decide +kernel
theorem dX12_tellsAim_71 : decode cX12_tellsAim 71 = .ok (.iconst 1, 1) := by decide +kernel
theorem dX12_tellsAim_72 : decode cX12_tellsAim 72 = .ok (.isub, 1) := by decide +kernel
theorem dX12_tellsAim_73 : decode cX12_tellsAim 73 = .ok (.ireturn, 1) := by decide +kernel
theorem dX12_wrongRow_0 : decode cX12_wrongRow 0 = .ok (.aload_n 0, 1) := by decide +kernel
theorem dX12_wrongRow_1 : decode cX12_wrongRow 1 = .ok (.iload_n 1, 1) := by decide +kernel
theorem dX12_wrongRow_2 : decode cX12_wrongRow 2 = .ok (.invokevirtual 199, 3) := by decide +kernel
theorem dX12_wrongRow_5 : decode cX12_wrongRow 5 = .ok (.ifCond .ne 7, 3) := by decide +kernel
theorem dX12_wrongRow_8 : decode cX12_wrongRow 8 = .ok (.iconst 1, 1) := by decide +kernel
theorem dX12_wrongRow_9 : decode cX12_wrongRow 9 = .ok (.goto 17, 3) := by decide +kernel
theorem dX12_wrongRow_12 : decode cX12_wrongRow 12 = .ok (.aload_n 0, 1) := by decide +kernel
theorem dX12_wrongRow_13 : decode cX12_wrongRow 13 = .ok (.getfield 28, 3) := by decide +kernel
theorem dX12_wrongRow_16 : decode cX12_wrongRow 16 = .ok (.iload_n 1, 1) := by decide +kernel
theorem dX12_wrongRow_17 : decode cX12_wrongRow 17 = .ok (.baload, 1) := by decide +kernel
theorem dX12_wrongRow_18 : decode cX12_wrongRow 18 = .ok (.ifCond .eq 7, 3) := by decide +kernel
theorem dX12_wrongRow_21 : decode cX12_wrongRow 21 = .ok (.iconst 2, 1) := by decide +kernel
theorem dX12_wrongRow_22 : decode cX12_wrongRow 22 = .ok (.goto 4, 3) := by decide +kernel
theorem dX12_wrongRow_25 : decode cX12_wrongRow 25 = .ok (.iconst 0, 1) := by decide +kernel
theorem dX12_wrongRow_26 : decode cX12_wrongRow 26 = .ok (.ireturn, 1) := by decide +kernel
theorem dX12_dropRow_0 : decode cX12_dropRow 0 = .ok (.aload_n 0, 1) := by decide +kernel
theorem dX12_dropRow_1 : decode cX12_dropRow 1 = .ok (.aload_n 0, 1) := by decide +kernel
theorem dX12_dropRow_2 : decode cX12_dropRow 2 = .ok (.iload_n 1, 1) := by decide +kernel
theorem dX12_dropRow_3 : decode cX12_dropRow 3 = .ok (.invokevirtual 202, 3) := by decide +kernel
theorem dX12_dropRow_6 : decode cX12_dropRow 6 = .ok (.putfield 39, 3) := by decide +kernel
theorem dX12_dropRow_9 : decode cX12_dropRow 9 = .ok (.aload_n 0, 1) := by decide +kernel
theorem dX12_dropRow_10 : decode cX12_dropRow 10 = .ok (.getfield 39, 3) := by decide +kernel
theorem dX12_dropRow_13 : decode cX12_dropRow 13 = .ok (.ifCond .le 5, 3) := by decide +kernel
theorem dX12_dropRow_16 : decode cX12_dropRow 16 = .ok (.iconst 0, 1) := by decide +kernel
theorem dX12_dropRow_17 : decode cX12_dropRow 17 = .ok (.ireturn, 1) := by decide +kernel
theorem dX12_dropRow_18 : decode cX12_dropRow 18 = .ok (.aload_n 0, 1) := by decide +kernel
theorem dX12_dropRow_19 : decode cX12_dropRow 19 = .ok (.getfield 28, 3) := by decide +kernel
theorem dX12_dropRow_22 : decode cX12_dropRow 22 = .ok (.iload_n 1, 1) := by decide +kernel
theorem dX12_dropRow_23 : decode cX12_dropRow 23 = .ok (.iconst 1, 1) := by decide +kernel
theorem dX12_dropRow_24 : decode cX12_dropRow 24 = .ok (.bastore, 1) := by decide +kernel
theorem dX12_dropRow_25 : decode cX12_dropRow 25 = .ok (.aload_n 0, 1) := by decide +kernel
theorem dX12_dropRow_26 : decode cX12_dropRow 26 = .ok (.invokevirtual 192, 3) := by decide +kernel
theorem dX12_dropRow_29 : decode cX12_dropRow 29 = .ok (.ireturn, 1) := by decide +kernel
theorem dX12_setNumber_0 : decode cX12_setNumber 0 = .ok (.aload_n 0, 1) := by decide +kernel
theorem dX12_setNumber_1 : decode cX12_setNumber 1 = .ok (.aload_n 0, 1) := by decide +kernel
theorem dX12_setNumber_2 : decode cX12_setNumber 2 = .ok (.iload_n 1, 1) := by decide +kernel
theorem dX12_setNumber_3 : decode cX12_setNumber 3 = .ok (.invokevirtual 199, 3) := by decide +kernel
theorem dX12_setNumber_6 : decode cX12_setNumber 6 = .ok (.ifCond .ne 7, 3) := by decide +kernel
theorem dX12_setNumber_9 : decode cX12_setNumber 9 = .ok (.iconst 1, 1) := by decide +kernel
theorem dX12_setNumber_10 : decode cX12_setNumber 10 = .ok (.goto 32, 3) := by decide +kernel
theorem dX12_setNumber_13 : decode cX12_setNumber 13 = .ok (.iload_n 2, 1) := by decide +kernel
theorem dX12_setNumber_14 : decode cX12_setNumber 14 = .ok (.bipush (-99), 2) := by decide +kernel
theorem dX12_setNumber_16 : decode cX12_setNumber 16 = .ok (.bipush 99, 2) := by decide +kernel
theorem dX12_setNumber_18 : decode cX12_setNumber 18 = .ok (.invokestatic 135, 3) := by decide +kernel
theorem dX12_setNumber_21 : decode cX12_setNumber 21 = .ok (.ifCond .ne 7, 3) := by decide +kernel
theorem dX12_setNumber_24 : decode cX12_setNumber 24 = .ok (.iconst 2, 1) := by decide +kernel
theorem dX12_setNumber_25 : decode cX12_setNumber 25 = .ok (.goto 17, 3) := by decide +kernel
theorem dX12_setNumber_28 : decode cX12_setNumber 28 = .ok (.aload_n 0, 1) := by decide +kernel
theorem dX12_setNumber_29 : decode cX12_setNumber 29 = .ok (.getfield 28, 3) := by decide +kernel
theorem dX12_setNumber_32 : decode cX12_setNumber 32 = .ok (.iload_n 1, 1) := by decide +kernel
theorem dX12_setNumber_33 : decode cX12_setNumber 33 = .ok (.baload, 1) := by decide +kernel
theorem dX12_setNumber_34 : decode cX12_setNumber 34 = .ok (.ifCond .eq 7, 3) := by decide +kernel
theorem dX12_setNumber_37 : decode cX12_setNumber 37 = .ok (.iconst 3, 1) := by decide +kernel
theorem dX12_setNumber_38 : decode cX12_setNumber 38 = .ok (.goto 4, 3) := by decide +kernel
theorem dX12_setNumber_41 : decode cX12_setNumber 41 = .ok (.iconst 0, 1) := by decide +kernel
theorem dX12_setNumber_42 : decode cX12_setNumber 42 = .ok (.putfield 39, 3) := by decide +kernel
theorem dX12_setNumber_45 : decode cX12_setNumber 45 = .ok (.aload_n 0, 1) := by decide +kernel
theorem dX12_setNumber_46 : decode cX12_setNumber 46 = .ok (.getfield 39, 3) := by decide +kernel
theorem dX12_setNumber_49 : decode cX12_setNumber 49 = .ok (.ifCond .le 5, 3) := by decide +kernel
theorem dX12_setNumber_52 : decode cX12_setNumber 52 = .ok (.iconst 0, 1) := by decide +kernel
theorem dX12_setNumber_53 : decode cX12_setNumber 53 = .ok (.ireturn, 1) := by decide +kernel
theorem dX12_setNumber_54 : decode cX12_setNumber 54 = .ok (.aload_n 0, 1) := by decide +kernel
theorem dX12_setNumber_55 : decode cX12_setNumber 55 = .ok (.getfield 22, 3) := by decide +kernel
theorem dX12_setNumber_58 : decode cX12_setNumber 58 = .ok (.iload_n 1, 1) := by decide +kernel
theorem dX12_setNumber_59 : decode cX12_setNumber 59 = .ok (.iaload, 1) := by decide +kernel
theorem dX12_setNumber_60 : decode cX12_setNumber 60 = .ok (.istore_n 3, 1) := by decide +kernel
theorem dX12_setNumber_61 : decode cX12_setNumber 61 = .ok (.aload_n 0, 1) := by decide +kernel
theorem dX12_setNumber_62 : decode cX12_setNumber 62 = .ok (.getfield 22, 3) := by decide +kernel
theorem dX12_setNumber_65 : decode cX12_setNumber 65 = .ok (.iload_n 1, 1) := by decide +kernel
theorem dX12_setNumber_66 : decode cX12_setNumber 66 = .ok (.iload_n 2, 1) := by decide +kernel
theorem dX12_setNumber_67 : decode cX12_setNumber 67 = .ok (.iastore, 1) := by decide +kernel
theorem dX12_setNumber_68 : decode cX12_setNumber 68 = .ok (.iload_n 3, 1) := by decide +kernel
theorem dX12_setNumber_69 : decode cX12_setNumber 69 = .ok (.ireturn, 1) := by decide +kernel
theorem dX12_dropAims_0 : decode cX12_dropAims 0 = .ok (.aload_n 0, 1) := by decide +kernel
theorem dX12_dropAims_1 : decode cX12_dropAims 1 = .ok (.iconst 0, 1) := by decide +kernel
theorem dX12_dropAims_2 : decode cX12_dropAims 2 = .ok (.putfield 39, 3) := by decide +kernel
theorem dX12_dropAims_5 : decode cX12_dropAims 5 = .ok (.aload_n 0, 1) := by decide +kernel
theorem dX12_dropAims_6 : decode cX12_dropAims 6 = .ok (.getfield 49, 3) := by decide +kernel
theorem dX12_dropAims_9 : decode cX12_dropAims 9 = .ok (.istore_n 1, 1) := by decide +kernel
theorem dX12_dropAims_10 : decode cX12_dropAims 10 = .ok (.aload_n 0, 1) := by decide +kernel
theorem dX12_dropAims_11 : decode cX12_dropAims 11 = .ok (.iconst 0, 1) := by decide +kernel
theorem dX12_dropAims_12 : decode cX12_dropAims 12 = .ok (.putfield 49, 3) := by decide +kernel
theorem dX12_dropAims_15 : decode cX12_dropAims 15 = .ok (.iload_n 1, 1) := by decide +kernel
theorem dX12_dropAims_16 : decode cX12_dropAims 16 = .ok (.ireturn, 1) := by decide +kernel
theorem dX12_coefficient_0 : decode cX12_coefficient 0 = .ok (.aload_n 0, 1) := by decide +kernel
theorem dX12_coefficient_1 : decode cX12_coefficient 1 = .ok (.aload_n 0, 1) := by decide +kernel
theorem dX12_coefficient_2 : decode cX12_coefficient 2 = .ok (.iload_n 1, 1) := by decide +kernel
theorem dX12_coefficient_3 : decode cX12_coefficient 3 = .ok (.invokevirtual 199, 3) := by decide +kernel
theorem dX12_coefficient_6 : decode cX12_coefficient 6 = .ok (.ifCond .eq 15, 3) := by decide +kernel
theorem dX12_coefficient_9 : decode cX12_coefficient 9 = .ok (.aload_n 0, 1) := by decide +kernel
theorem dX12_coefficient_10 : decode cX12_coefficient 10 = .ok (.iload_n 2, 1) := by decide +kernel
theorem dX12_coefficient_11 : decode cX12_coefficient 11 = .ok (.invokevirtual 139, 3) := by decide +kernel
theorem dX12_coefficient_14 : decode cX12_coefficient 14 = .ok (.ifCond .eq 7, 3) := by decide +kernel
theorem dX12_coefficient_17 : decode cX12_coefficient 17 = .ok (.iconst 1, 1) := by decide +kernel
theorem dX12_coefficient_18 : decode cX12_coefficient 18 = .ok (.goto 4, 3) := by decide +kernel
theorem dX12_coefficient_21 : decode cX12_coefficient 21 = .ok (.iconst 0, 1) := by decide +kernel
theorem dX12_coefficient_22 : decode cX12_coefficient 22 = .ok (.invokevirtual 188, 3) := by decide +kernel
theorem dX12_coefficient_25 : decode cX12_coefficient 25 = .ok (.ifCond .le 7, 3) := by decide +kernel
theorem dX12_coefficient_28 : decode cX12_coefficient 28 = .ok (.iconst 0, 1) := by decide +kernel
theorem dX12_coefficient_29 : decode cX12_coefficient 29 = .ok (.goto 13, 3) := by decide +kernel
theorem dX12_coefficient_32 : decode cX12_coefficient 32 = .ok (.aload_n 0, 1) := by decide +kernel
theorem dX12_coefficient_33 : decode cX12_coefficient 33 = .ok (.getfield 16, 3) := by decide +kernel
theorem dX12_coefficient_36 : decode cX12_coefficient 36 = .ok (.iconst 3, 1) := by decide +kernel
theorem dX12_coefficient_37 : decode cX12_coefficient 37 = .ok (.iload_n 1, 1) := by decide +kernel
theorem dX12_coefficient_38 : decode cX12_coefficient 38 = .ok (.imul, 1) := by decide +kernel
theorem dX12_coefficient_39 : decode cX12_coefficient 39 = .ok (.iload_n 2, 1) := by decide +kernel
theorem dX12_coefficient_40 : decode cX12_coefficient 40 = .ok (.iadd, 1) := by decide +kernel
theorem dX12_coefficient_41 : decode cX12_coefficient 41 = .ok (.iaload, 1) := by decide +kernel
theorem dX12_coefficient_42 : decode cX12_coefficient 42 = .ok (.ireturn, 1) := by decide +kernel
theorem dX12_relation_0 : decode cX12_relation 0 = .ok (.aload_n 0, 1) := by decide +kernel
theorem dX12_relation_1 : decode cX12_relation 1 = .ok (.aload_n 0, 1) := by decide +kernel
theorem dX12_relation_2 : decode cX12_relation 2 = .ok (.iload_n 1, 1) := by decide +kernel
theorem dX12_relation_3 : decode cX12_relation 3 = .ok (.invokevirtual 199, 3) := by decide +kernel
theorem dX12_relation_6 : decode cX12_relation 6 = .ok (.invokevirtual 188, 3) := by decide +kernel
theorem dX12_relation_9 : decode cX12_relation 9 = .ok (.ifCond .le 8, 3) := by decide +kernel
theorem dX12_relation_12 : decode cX12_relation 12 = .ok (.bipush 32, 2) := by decide +kernel
theorem dX12_relation_14 : decode cX12_relation 14 = .ok (.goto 34, 3) := by decide +kernel
theorem dX12_relation_17 : decode cX12_relation 17 = .ok (.aload_n 0, 1) := by decide +kernel
theorem dX12_relation_18 : decode cX12_relation 18 = .ok (.getfield 19, 3) := by decide +kernel
theorem dX12_relation_21 : decode cX12_relation 21 = .ok (.iload_n 1, 1) := by decide +kernel
theorem dX12_relation_22 : decode cX12_relation 22 = .ok (.iaload, 1) := by decide +kernel
theorem dX12_relation_23 : decode cX12_relation 23 = .ok (.ifCond .ne 8, 3) := by decide +kernel
theorem dX12_relation_26 : decode cX12_relation 26 = .ok (.bipush 60, 2) := by decide +kernel
theorem dX12_relation_28 : decode cX12_relation 28 = .ok (.goto 20, 3) := by decide +kernel
theorem dX12_relation_31 : decode cX12_relation 31 = .ok (.aload_n 0, 1) := by decide +kernel
theorem dX12_relation_32 : decode cX12_relation 32 = .ok (.getfield 19, 3) := by decide +kernel
theorem dX12_relation_35 : decode cX12_relation 35 = .ok (.iload_n 1, 1) := by decide +kernel
theorem dX12_relation_36 : decode cX12_relation 36 = .ok (.iaload, 1) := by decide +kernel
theorem dX12_relation_37 : decode cX12_relation 37 = .ok (.iconst 1, 1) := by decide +kernel
theorem dX12_relation_38 : decode cX12_relation 38 = .ok (.if_icmp .ne 8, 3) := by decide +kernel
theorem dX12_relation_41 : decode cX12_relation 41 = .ok (.bipush 62, 2) := by decide +kernel
theorem dX12_relation_43 : decode cX12_relation 43 = .ok (.goto 5, 3) := by decide +kernel
theorem dX12_relation_46 : decode cX12_relation 46 = .ok (.bipush 61, 2) := by decide +kernel
theorem dX12_relation_48 : decode cX12_relation 48 = .ok (.ireturn, 1) := by decide +kernel
theorem dX12_line_0 : decode cX12_line 0 = .ok (.new 206, 3) := by decide +kernel
theorem dX12_line_3 : decode cX12_line 3 = .ok (.dup, 1) := by decide +kernel
theorem dX12_line_4 : decode cX12_line 4 = .ok (.invokespecial 208, 3) := by decide +kernel
theorem dX12_line_7 : decode cX12_line 7 = .ok (.astore_n 2, 1) := by decide +kernel
theorem dX12_line_8 : decode cX12_line 8 = .ok (.iconst 0, 1) := by decide +kernel
theorem dX12_line_9 : decode cX12_line 9 = .ok (.istore_n 3, 1) := by decide +kernel
theorem dX12_line_10 : decode cX12_line 10 = .ok (.iload_n 3, 1) := by decide +kernel
theorem dX12_line_11 : decode cX12_line 11 = .ok (.iconst 3, 1) := by decide +kernel
theorem dX12_line_12 : decode cX12_line 12 = .ok (.if_icmp .ge 100, 3) := by decide +kernel
theorem dX12_line_15 : decode cX12_line 15 = .ok (.aload_n 0, 1) := by decide +kernel
theorem dX12_line_16 : decode cX12_line 16 = .ok (.getfield 16, 3) := by decide +kernel
theorem dX12_line_19 : decode cX12_line 19 = .ok (.iconst 3, 1) := by decide +kernel
theorem dX12_line_20 : decode cX12_line 20 = .ok (.iload_n 1, 1) := by decide +kernel
theorem dX12_line_21 : decode cX12_line 21 = .ok (.imul, 1) := by decide +kernel
theorem dX12_line_22 : decode cX12_line 22 = .ok (.iload_n 3, 1) := by decide +kernel
theorem dX12_line_23 : decode cX12_line 23 = .ok (.iadd, 1) := by decide +kernel
theorem dX12_line_24 : decode cX12_line 24 = .ok (.iaload, 1) := by decide +kernel
theorem dX12_line_25 : decode cX12_line 25 = .ok (.istore 4, 2) := by decide +kernel
theorem dX12_line_27 : decode cX12_line 27 = .ok (.iload 4, 2) := by decide +kernel
theorem dX12_line_29 : decode cX12_line 29 = .ok (.ifCond .ne 6, 3) := by decide +kernel
theorem dX12_line_32 : decode cX12_line 32 = .ok (.goto 74, 3) := by decide +kernel
theorem dX12_line_35 : decode cX12_line 35 = .ok (.iload 4, 2) := by decide +kernel
theorem dX12_line_37 : decode cX12_line 37 = .ok (.ifCond .ge 10, 3) := by decide +kernel
theorem dX12_line_40 : decode cX12_line 40 = .ok (.aload_n 2, 1) := by decide +kernel
theorem dX12_line_41 : decode cX12_line 41 = .ok (.bipush 45, 2) := by decide +kernel
theorem dX12_line_43 : decode cX12_line 43 = .ok (.invokevirtual 209, 3) := by decide +kernel
theorem dX12_line_46 : decode cX12_line 46 = .ok (.pop, 1) := by decide +kernel
theorem dX12_line_47 : decode cX12_line 47 = .ok (.iload 4, 2) := by decide +kernel
theorem dX12_line_49 : decode cX12_line 49 = .ok (.ifCond .le 17, 3) := by decide +kernel
theorem dX12_line_52 : decode cX12_line 52 = .ok (.aload_n 2, 1) := by decide +kernel
theorem dX12_line_53 : decode cX12_line 53 = .ok (.invokevirtual 213, 3) := by decide +kernel
theorem dX12_line_56 : decode cX12_line 56 = .ok (.ifCond .le 10, 3) := by decide +kernel
theorem dX12_line_59 : decode cX12_line 59 = .ok (.aload_n 2, 1) := by decide +kernel
theorem dX12_line_60 : decode cX12_line 60 = .ok (.bipush 43, 2) := by decide +kernel
theorem dX12_line_62 : decode cX12_line 62 = .ok (.invokevirtual 209, 3) := by decide +kernel
theorem dX12_line_65 : decode cX12_line 65 = .ok (.pop, 1) := by decide +kernel
theorem dX12_line_66 : decode cX12_line 66 = .ok (.iload 4, 2) := by decide +kernel
theorem dX12_line_68 : decode cX12_line 68 = .ok (.iconst 1, 1) := by decide +kernel
theorem dX12_line_69 : decode cX12_line 69 = .ok (.if_icmp .gt 9, 3) := by decide +kernel
theorem dX12_line_72 : decode cX12_line 72 = .ok (.iload 4, 2) := by decide +kernel
theorem dX12_line_74 : decode cX12_line 74 = .ok (.iconst (-1), 1) := by decide +kernel
theorem dX12_line_75 : decode cX12_line 75 = .ok (.if_icmp .ge 21, 3) := by decide +kernel
theorem dX12_line_78 : decode cX12_line 78 = .ok (.aload_n 2, 1) := by decide +kernel
theorem dX12_line_79 : decode cX12_line 79 = .ok (.iload 4, 2) := by decide +kernel
theorem dX12_line_81 : decode cX12_line 81 = .ok (.ifCond .ge 9, 3) := by decide +kernel
theorem dX12_line_84 : decode cX12_line 84 = .ok (.iload 4, 2) := by decide +kernel
theorem dX12_line_86 : decode cX12_line 86 = .ok (.ineg, 1) := by decide +kernel
theorem dX12_line_87 : decode cX12_line 87 = .ok (.goto 5, 3) := by decide +kernel
theorem dX12_line_90 : decode cX12_line 90 = .ok (.iload 4, 2) := by decide +kernel
theorem dX12_line_92 : decode cX12_line 92 = .ok (.invokevirtual 215, 3) := by decide +kernel
theorem dX12_line_95 : decode cX12_line 95 = .ok (.pop, 1) := by decide +kernel
theorem dX12_line_96 : decode cX12_line 96 = .ok (.aload_n 2, 1) := by decide +kernel
theorem dX12_line_97 : decode cX12_line 97 = .ok (.bipush 97, 2) := by decide +kernel
theorem dX12_line_99 : decode cX12_line 99 = .ok (.iload_n 3, 1) := by decide +kernel
theorem dX12_line_100 : decode cX12_line 100 = .ok (.iadd, 1) := by decide +kernel
theorem dX12_line_101 : decode cX12_line 101 = .ok (.i2c, 1) := by decide +kernel
theorem dX12_line_102 : decode cX12_line 102 = .ok (.invokevirtual 209, 3) := by decide +kernel
theorem dX12_line_105 : decode cX12_line 105 = .ok (.pop, 1) := by decide +kernel
theorem dX12_line_106 : decode cX12_line 106 = .ok (.iinc 3 1, 3) := by decide +kernel
theorem dX12_line_109 : decode cX12_line 109 = .ok (.goto (-99), 3) := by decide +kernel
theorem dX12_line_112 : decode cX12_line 112 = .ok (.aload_n 2, 1) := by decide +kernel
theorem dX12_line_113 : decode cX12_line 113 = .ok (.invokevirtual 213, 3) := by decide +kernel
theorem dX12_line_116 : decode cX12_line 116 = .ok (.ifCond .ne 10, 3) := by decide +kernel
theorem dX12_line_119 : decode cX12_line 119 = .ok (.aload_n 2, 1) := by decide +kernel
theorem dX12_line_120 : decode cX12_line 120 = .ok (.bipush 48, 2) := by decide +kernel
theorem dX12_line_122 : decode cX12_line 122 = .ok (.invokevirtual 209, 3) := by decide +kernel
theorem dX12_line_125 : decode cX12_line 125 = .ok (.pop, 1) := by decide +kernel
theorem dX12_line_126 : decode cX12_line 126 = .ok (.aload_n 0, 1) := by decide +kernel
theorem dX12_line_127 : decode cX12_line 127 = .ok (.getfield 19, 3) := by decide +kernel
theorem dX12_line_130 : decode cX12_line 130 = .ok (.iload_n 1, 1) := by decide +kernel
theorem dX12_line_131 : decode cX12_line 131 = .ok (.iaload, 1) := by decide +kernel
theorem dX12_line_132 : decode cX12_line 132 = .ok (.ifCond .ne 10, 3) := by decide +kernel
theorem dX12_line_135 : decode cX12_line 135 = .ok (.aload_n 2, 1) := by decide +kernel
theorem dX12_line_136 : decode cX12_line 136 = .ok (.bipush 60, 2) := by decide +kernel
theorem dX12_line_138 : decode cX12_line 138 = .ok (.invokevirtual 209, 3) := by decide +kernel
theorem dX12_line_141 : decode cX12_line 141 = .ok (.pop, 1) := by decide +kernel
theorem dX12_line_142 : decode cX12_line 142 = .ok (.aload_n 0, 1) := by decide +kernel
theorem dX12_line_143 : decode cX12_line 143 = .ok (.getfield 19, 3) := by decide +kernel
theorem dX12_line_146 : decode cX12_line 146 = .ok (.iload_n 1, 1) := by decide +kernel
theorem dX12_line_147 : decode cX12_line 147 = .ok (.iaload, 1) := by decide +kernel
theorem dX12_line_148 : decode cX12_line 148 = .ok (.iconst 1, 1) := by decide +kernel
theorem dX12_line_149 : decode cX12_line 149 = .ok (.if_icmp .ne 10, 3) := by decide +kernel
theorem dX12_line_152 : decode cX12_line 152 = .ok (.aload_n 2, 1) := by decide +kernel
theorem dX12_line_153 : decode cX12_line 153 = .ok (.bipush 62, 2) := by decide +kernel
theorem dX12_line_155 : decode cX12_line 155 = .ok (.invokevirtual 209, 3) := by decide +kernel
theorem dX12_line_158 : decode cX12_line 158 = .ok (.pop, 1) := by decide +kernel
theorem dX12_line_159 : decode cX12_line 159 = .ok (.aload_n 2, 1) := by decide +kernel
theorem dX12_line_160 : decode cX12_line 160 = .ok (.bipush 61, 2) := by decide +kernel
theorem dX12_line_162 : decode cX12_line 162 = .ok (.invokevirtual 209, 3) := by decide +kernel
theorem dX12_line_165 : decode cX12_line 165 = .ok (.aload_n 0, 1) := by decide +kernel
theorem dX12_line_166 : decode cX12_line 166 = .ok (.getfield 22, 3) := by decide +kernel
theorem dX12_line_169 : decode cX12_line 169 = .ok (.iload_n 1, 1) := by decide +kernel
theorem dX12_line_170 : decode cX12_line 170 = .ok (.iaload, 1) := by decide +kernel
theorem dX12_line_171 : decode cX12_line 171 = .ok (.invokevirtual 215, 3) := by decide +kernel
theorem dX12_line_174 : decode cX12_line 174 = .ok (.areturn, 1) := by decide +kernel
theorem dX12_lineLength_0 : decode cX12_lineLength 0 = .ok (.aload_n 0, 1) := by decide +kernel
theorem dX12_lineLength_1 : decode cX12_lineLength 1 = .ok (.aload_n 0, 1) := by decide +kernel
theorem dX12_lineLength_2 : decode cX12_lineLength 2 = .ok (.iload_n 1, 1) := by decide +kernel
theorem dX12_lineLength_3 : decode cX12_lineLength 3 = .ok (.invokevirtual 199, 3) := by decide +kernel
theorem dX12_lineLength_6 : decode cX12_lineLength 6 = .ok (.invokevirtual 188, 3) := by decide +kernel
theorem dX12_lineLength_9 : decode cX12_lineLength 9 = .ok (.ifCond .le 7, 3) := by decide +kernel
theorem dX12_lineLength_12 : decode cX12_lineLength 12 = .ok (.iconst 0, 1) := by decide +kernel
theorem dX12_lineLength_13 : decode cX12_lineLength 13 = .ok (.goto 11, 3) := by decide +kernel
theorem dX12_lineLength_16 : decode cX12_lineLength 16 = .ok (.aload_n 0, 1) := by decide +kernel
theorem dX12_lineLength_17 : decode cX12_lineLength 17 = .ok (.iload_n 1, 1) := by decide +kernel
theorem dX12_lineLength_18 : decode cX12_lineLength 18 = .ok (.invokevirtual 218, 3) := by decide +kernel
theorem dX12_lineLength_21 : decode cX12_lineLength 21 = .ok (.invokevirtual 213, 3) := by decide +kernel
theorem dX12_lineLength_24 : decode cX12_lineLength 24 = .ok (.ireturn, 1) := by decide +kernel
theorem dX12_lineAt_0 : decode cX12_lineAt 0 = .ok (.aload_n 0, 1) := by decide +kernel
theorem dX12_lineAt_1 : decode cX12_lineAt 1 = .ok (.aload_n 0, 1) := by decide +kernel
theorem dX12_lineAt_2 : decode cX12_lineAt 2 = .ok (.iload_n 1, 1) := by decide +kernel
theorem dX12_lineAt_3 : decode cX12_lineAt 3 = .ok (.invokevirtual 199, 3) := by decide +kernel
theorem dX12_lineAt_6 : decode cX12_lineAt 6 = .ok (.ifCond .eq 19, 3) := by decide +kernel
theorem dX12_lineAt_9 : decode cX12_lineAt 9 = .ok (.iload_n 2, 1) := by decide +kernel
theorem dX12_lineAt_10 : decode cX12_lineAt 10 = .ok (.ifCond .lt 15, 3) := by decide +kernel
theorem dX12_lineAt_13 : decode cX12_lineAt 13 = .ok (.iload_n 2, 1) := by decide +kernel
theorem dX12_lineAt_14 : decode cX12_lineAt 14 = .ok (.aload_n 0, 1) := by decide +kernel
theorem dX12_lineAt_15 : decode cX12_lineAt 15 = .ok (.iload_n 1, 1) := by decide +kernel
theorem dX12_lineAt_16 : decode cX12_lineAt 16 = .ok (.invokevirtual 218, 3) := by decide +kernel
theorem dX12_lineAt_19 : decode cX12_lineAt 19 = .ok (.invokevirtual 213, 3) := by decide +kernel
theorem dX12_lineAt_22 : decode cX12_lineAt 22 = .ok (.if_icmp .lt 7, 3) := by decide +kernel
theorem dX12_lineAt_25 : decode cX12_lineAt 25 = .ok (.iconst 1, 1) := by decide +kernel
theorem dX12_lineAt_26 : decode cX12_lineAt 26 = .ok (.goto 4, 3) := by decide +kernel
theorem dX12_lineAt_29 : decode cX12_lineAt 29 = .ok (.iconst 0, 1) := by decide +kernel
theorem dX12_lineAt_30 : decode cX12_lineAt 30 = .ok (.putfield 39, 3) := by decide +kernel
theorem dX12_lineAt_33 : decode cX12_lineAt 33 = .ok (.aload_n 0, 1) := by decide +kernel
theorem dX12_lineAt_34 : decode cX12_lineAt 34 = .ok (.getfield 39, 3) := by decide +kernel
theorem dX12_lineAt_37 : decode cX12_lineAt 37 = .ok (.ifCond .le 8, 3) := by decide +kernel
theorem dX12_lineAt_40 : decode cX12_lineAt 40 = .ok (.bipush 32, 2) := by decide +kernel
theorem dX12_lineAt_42 : decode cX12_lineAt 42 = .ok (.goto 12, 3) := by decide +kernel
theorem dX12_lineAt_45 : decode cX12_lineAt 45 = .ok (.aload_n 0, 1) := by decide +kernel
theorem dX12_lineAt_46 : decode cX12_lineAt 46 = .ok (.iload_n 1, 1) := by decide +kernel
theorem dX12_lineAt_47 : decode cX12_lineAt 47 = .ok (.invokevirtual 218, 3) := by decide +kernel
theorem dX12_lineAt_50 : decode cX12_lineAt 50 = .ok (.iload_n 2, 1) := by decide +kernel
theorem dX12_lineAt_51 : decode cX12_lineAt 51 = .ok (.invokevirtual 221, 3) := by decide +kernel
theorem dX12_lineAt_54 : decode cX12_lineAt 54 = .ok (.ireturn, 1) := by decide +kernel
theorem dX12_addPlane_0 : decode cX12_addPlane 0 = .ok (.aload_n 0, 1) := by decide +kernel
theorem dX12_addPlane_1 : decode cX12_addPlane 1 = .ok (.getfield 71, 3) := by decide +kernel
theorem dX12_addPlane_4 : decode cX12_addPlane 4 = .ok (.iconst 3, 1) := by decide +kernel
theorem dX12_addPlane_5 : decode cX12_addPlane 5 = .ok (.aload_n 0, 1) := by decide +kernel
theorem dX12_addPlane_6 : decode cX12_addPlane 6 = .ok (.getfield 108, 3) := by decide +kernel
theorem dX12_addPlane_9 : decode cX12_addPlane 9 = .ok (.imul, 1) := by decide +kernel
theorem dX12_addPlane_10 : decode cX12_addPlane 10 = .ok (.lload_n 1, 1) := by decide +kernel
theorem dX12_addPlane_11 : decode cX12_addPlane 11 = .ok (.lastore, 1) := by decide +kernel
theorem dX12_addPlane_12 : decode cX12_addPlane 12 = .ok (.aload_n 0, 1) := by decide +kernel
theorem dX12_addPlane_13 : decode cX12_addPlane 13 = .ok (.getfield 71, 3) := by decide +kernel
theorem dX12_addPlane_16 : decode cX12_addPlane 16 = .ok (.iconst 3, 1) := by decide +kernel
theorem dX12_addPlane_17 : decode cX12_addPlane 17 = .ok (.aload_n 0, 1) := by decide +kernel
theorem dX12_addPlane_18 : decode cX12_addPlane 18 = .ok (.getfield 108, 3) := by decide +kernel
theorem dX12_addPlane_21 : decode cX12_addPlane 21 = .ok (.imul, 1) := by decide +kernel
theorem dX12_addPlane_22 : decode cX12_addPlane 22 = .ok (.iconst 1, 1) := by decide +kernel
theorem dX12_addPlane_23 : decode cX12_addPlane 23 = .ok (.iadd, 1) := by decide +kernel
theorem dX12_addPlane_24 : decode cX12_addPlane 24 = .ok (.lload_n 3, 1) := by decide +kernel
theorem dX12_addPlane_25 : decode cX12_addPlane 25 = .ok (.lastore, 1) := by decide +kernel
theorem dX12_addPlane_26 : decode cX12_addPlane 26 = .ok (.aload_n 0, 1) := by decide +kernel
theorem dX12_addPlane_27 : decode cX12_addPlane 27 = .ok (.getfield 71, 3) := by decide +kernel
theorem dX12_addPlane_30 : decode cX12_addPlane 30 = .ok (.iconst 3, 1) := by decide +kernel
theorem dX12_addPlane_31 : decode cX12_addPlane 31 = .ok (.aload_n 0, 1) := by decide +kernel
theorem dX12_addPlane_32 : decode cX12_addPlane 32 = .ok (.getfield 108, 3) := by decide +kernel
theorem dX12_addPlane_35 : decode cX12_addPlane 35 = .ok (.imul, 1) := by decide +kernel
theorem dX12_addPlane_36 : decode cX12_addPlane 36 = .ok (.iconst 2, 1) := by decide +kernel
theorem dX12_addPlane_37 : decode cX12_addPlane 37 = .ok (.iadd, 1) := by decide +kernel
theorem dX12_addPlane_38 : decode cX12_addPlane 38 = .ok (.lload 5, 2) := by decide +kernel
theorem dX12_addPlane_40 : decode cX12_addPlane 40 = .ok (.lastore, 1) := by decide +kernel
theorem dX12_addPlane_41 : decode cX12_addPlane 41 = .ok (.aload_n 0, 1) := by decide +kernel
theorem dX12_addPlane_42 : decode cX12_addPlane 42 = .ok (.getfield 87, 3) := by decide +kernel
theorem dX12_addPlane_45 : decode cX12_addPlane 45 = .ok (.aload_n 0, 1) := by decide +kernel
theorem dX12_addPlane_46 : decode cX12_addPlane 46 = .ok (.getfield 108, 3) := by decide +kernel
theorem dX12_addPlane_49 : decode cX12_addPlane 49 = .ok (.iload 7, 2) := by decide +kernel
theorem dX12_addPlane_51 : decode cX12_addPlane 51 = .ok (.iastore, 1) := by decide +kernel
theorem dX12_addPlane_52 : decode cX12_addPlane 52 = .ok (.aload_n 0, 1) := by decide +kernel
theorem dX12_addPlane_53 : decode cX12_addPlane 53 = .ok (.getfield 75, 3) := by decide +kernel
theorem dX12_addPlane_56 : decode cX12_addPlane 56 = .ok (.aload_n 0, 1) := by decide +kernel
theorem dX12_addPlane_57 : decode cX12_addPlane 57 = .ok (.getfield 108, 3) := by decide +kernel
theorem dX12_addPlane_60 : decode cX12_addPlane 60 = .ok (.lload 8, 2) := by decide +kernel
theorem dX12_addPlane_62 : decode cX12_addPlane 62 = .ok (.lastore, 1) := by decide +kernel
theorem dX12_addPlane_63 : decode cX12_addPlane 63 = .ok (.aload_n 0, 1) := by decide +kernel
theorem dX12_addPlane_64 : decode cX12_addPlane 64 = .ok (.dup, 1) := by decide +kernel
theorem dX12_addPlane_65 : decode cX12_addPlane 65 = .ok (.getfield 108, 3) := by decide +kernel
theorem dX12_addPlane_68 : decode cX12_addPlane 68 = .ok (.iconst 1, 1) := by decide +kernel
theorem dX12_addPlane_69 : decode cX12_addPlane 69 = .ok (.iadd, 1) := by decide +kernel
theorem dX12_addPlane_70 : decode cX12_addPlane 70 = .ok (.putfield 108, 3) := by decide +kernel
theorem dX12_addPlane_73 : decode cX12_addPlane 73 = .ok (.return_, 1) := by decide +kernel
theorem dX12_addBound_0 : decode cX12_addBound 0 = .ok (.aload_n 0, 1) := by decide +kernel
theorem dX12_addBound_1 : decode cX12_addBound 1 = .ok (.iload_n 1, 1) := by decide +kernel
theorem dX12_addBound_2 : decode cX12_addBound 2 = .ok (.ifCond .ne 7, 3) := by decide +kernel
theorem dX12_addBound_5 : decode cX12_addBound 5 = .ok (.lconst 1, 1) := by decide +kernel
theorem dX12_addBound_6 : decode cX12_addBound 6 = .ok (.goto 4, 3) := by decide +kernel
theorem dX12_addBound_9 : decode cX12_addBound 9 = .ok (.lconst 0, 1) := by decide +kernel
theorem dX12_addBound_10 : decode cX12_addBound 10 = .ok (.iload_n 1, 1) := by decide +kernel
theorem dX12_addBound_11 : decode cX12_addBound 11 = .ok (.iconst 1, 1) := by decide +kernel
theorem dX12_addBound_12 : decode cX12_addBound 12 = .ok (.if_icmp .ne 7, 3) := by decide +kernel
theorem dX12_addBound_15 : decode cX12_addBound 15 = .ok (.lconst 1, 1) := by decide +kernel
theorem dX12_addBound_16 : decode cX12_addBound 16 = .ok (.goto 4, 3) := by decide +kernel
theorem dX12_addBound_19 : decode cX12_addBound 19 = .ok (.lconst 0, 1) := by decide +kernel
theorem dX12_addBound_20 : decode cX12_addBound 20 = .ok (.iload_n 1, 1) := by decide +kernel
theorem dX12_addBound_21 : decode cX12_addBound 21 = .ok (.iconst 2, 1) := by decide +kernel
theorem dX12_addBound_22 : decode cX12_addBound 22 = .ok (.if_icmp .ne 7, 3) := by decide +kernel
theorem dX12_addBound_25 : decode cX12_addBound 25 = .ok (.lconst 1, 1) := by decide +kernel
theorem dX12_addBound_26 : decode cX12_addBound 26 = .ok (.goto 4, 3) := by decide +kernel
theorem dX12_addBound_29 : decode cX12_addBound 29 = .ok (.lconst 0, 1) := by decide +kernel
theorem dX12_addBound_30 : decode cX12_addBound 30 = .ok (.iload_n 2, 1) := by decide +kernel
theorem dX12_addBound_31 : decode cX12_addBound 31 = .ok (.lload_n 3, 1) := by decide +kernel
theorem dX12_addBound_32 : decode cX12_addBound 32 = .ok (.invokevirtual 225, 3) := by decide +kernel
theorem dX12_addBound_35 : decode cX12_addBound 35 = .ok (.return_, 1) := by decide +kernel
theorem dX12_laysPlanes_0 : decode cX12_laysPlanes 0 = .ok (.aload_n 0, 1) := by decide +kernel
theorem dX12_laysPlanes_1 : decode cX12_laysPlanes 1 = .ok (.iconst 0, 1) := by decide +kernel
theorem dX12_laysPlanes_2 : decode cX12_laysPlanes 2 = .ok (.putfield 108, 3) := by decide +kernel
theorem dX12_laysPlanes_5 : decode cX12_laysPlanes 5 = .ok (.iconst 0, 1) := by decide +kernel
theorem dX12_laysPlanes_6 : decode cX12_laysPlanes 6 = .ok (.istore 4, 2) := by decide +kernel
theorem dX12_laysPlanes_8 : decode cX12_laysPlanes 8 = .ok (.iload 4, 2) := by decide +kernel
theorem dX12_laysPlanes_10 : decode cX12_laysPlanes 10 = .ok (.iconst 3, 1) := by decide +kernel
theorem dX12_laysPlanes_11 : decode cX12_laysPlanes 11 = .ok (.if_icmp .ge 102, 3) := by decide +kernel
theorem dX12_laysPlanes_14 : decode cX12_laysPlanes 14 = .ok (.iload 4, 2) := by decide +kernel
theorem dX12_laysPlanes_16 : decode cX12_laysPlanes 16 = .ok (.aload_n 0, 1) := by decide +kernel
theorem dX12_laysPlanes_17 : decode cX12_laysPlanes 17 = .ok (.getfield 43, 3) := by decide +kernel
theorem dX12_laysPlanes_20 : decode cX12_laysPlanes 20 = .ok (.if_icmp .ge 7, 3) := by decide +kernel
theorem dX12_laysPlanes_23 : decode cX12_laysPlanes 23 = .ok (.iconst 1, 1) := by decide +kernel
theorem dX12_laysPlanes_24 : decode cX12_laysPlanes 24 = .ok (.goto 4, 3) := by decide +kernel
theorem dX12_laysPlanes_27 : decode cX12_laysPlanes 27 = .ok (.iconst 0, 1) := by decide +kernel
theorem dX12_laysPlanes_28 : decode cX12_laysPlanes 28 = .ok (.istore 5, 2) := by decide +kernel
theorem dX12_laysPlanes_30 : decode cX12_laysPlanes 30 = .ok (.aload_n 0, 1) := by decide +kernel
theorem dX12_laysPlanes_31 : decode cX12_laysPlanes 31 = .ok (.iload 4, 2) := by decide +kernel
theorem dX12_laysPlanes_33 : decode cX12_laysPlanes 33 = .ok (.iload 5, 2) := by decide +kernel
theorem dX12_laysPlanes_35 : decode cX12_laysPlanes 35 = .ok (.ifCond .eq 7, 3) := by decide +kernel
theorem dX12_laysPlanes_38 : decode cX12_laysPlanes 38 = .ok (.iconst 1, 1) := by decide +kernel
theorem dX12_laysPlanes_39 : decode cX12_laysPlanes 39 = .ok (.goto 4, 3) := by decide +kernel
theorem dX12_laysPlanes_42 : decode cX12_laysPlanes 42 = .ok (.iconst 2, 1) := by decide +kernel
theorem dX12_laysPlanes_43 : decode cX12_laysPlanes 43 = .ok (.iload 5, 2) := by decide +kernel
theorem dX12_laysPlanes_45 : decode cX12_laysPlanes 45 = .ok (.ifCond .eq 18, 3) := by decide +kernel
theorem dX12_laysPlanes_48 : decode cX12_laysPlanes 48 = .ok (.iload_n 3, 1) := by decide +kernel
theorem dX12_laysPlanes_49 : decode cX12_laysPlanes 49 = .ok (.ifCond .ne 14, 3) := by decide +kernel
theorem dX12_laysPlanes_52 : decode cX12_laysPlanes 52 = .ok (.aload_n 0, 1) := by decide +kernel
theorem dX12_laysPlanes_53 : decode cX12_laysPlanes 53 = .ok (.getfield 7, 3) := by decide +kernel
theorem dX12_laysPlanes_56 : decode cX12_laysPlanes 56 = .ok (.iload 4, 2) := by decide +kernel
theorem dX12_laysPlanes_58 : decode cX12_laysPlanes 58 = .ok (.iaload, 1) := by decide +kernel
theorem dX12_laysPlanes_59 : decode cX12_laysPlanes 59 = .ok (.i2l, 1) := by decide +kernel
theorem dX12_laysPlanes_60 : decode cX12_laysPlanes 60 = .ok (.goto 4, 3) := by decide +kernel
theorem dX12_laysPlanes_63 : decode cX12_laysPlanes 63 = .ok (.lconst 0, 1) := by decide +kernel
theorem dX12_laysPlanes_64 : decode cX12_laysPlanes 64 = .ok (.invokevirtual 229, 3) := by decide +kernel
theorem dX12_laysPlanes_67 : decode cX12_laysPlanes 67 = .ok (.iload 5, 2) := by decide +kernel
theorem dX12_laysPlanes_69 : decode cX12_laysPlanes 69 = .ok (.ifCond .eq 38, 3) := by decide +kernel
theorem dX12_laysPlanes_72 : decode cX12_laysPlanes 72 = .ok (.aload_n 0, 1) := by decide +kernel
theorem dX12_laysPlanes_73 : decode cX12_laysPlanes 73 = .ok (.getfield 13, 3) := by decide +kernel
theorem dX12_laysPlanes_76 : decode cX12_laysPlanes 76 = .ok (.iload 4, 2) := by decide +kernel
theorem dX12_laysPlanes_78 : decode cX12_laysPlanes 78 = .ok (.iaload, 1) := by decide +kernel
theorem dX12_laysPlanes_79 : decode cX12_laysPlanes 79 = .ok (.bipush 100, 2) := by decide +kernel
theorem dX12_laysPlanes_81 : decode cX12_laysPlanes 81 = .ok (.if_icmp .ge 26, 3) := by decide +kernel
theorem dX12_laysPlanes_84 : decode cX12_laysPlanes 84 = .ok (.aload_n 0, 1) := by decide +kernel
theorem dX12_laysPlanes_85 : decode cX12_laysPlanes 85 = .ok (.iload 4, 2) := by decide +kernel
theorem dX12_laysPlanes_87 : decode cX12_laysPlanes 87 = .ok (.iconst 0, 1) := by decide +kernel
theorem dX12_laysPlanes_88 : decode cX12_laysPlanes 88 = .ok (.iload_n 3, 1) := by decide +kernel
theorem dX12_laysPlanes_89 : decode cX12_laysPlanes 89 = .ok (.ifCond .eq 7, 3) := by decide +kernel
theorem dX12_laysPlanes_92 : decode cX12_laysPlanes 92 = .ok (.lconst 0, 1) := by decide +kernel
theorem dX12_laysPlanes_93 : decode cX12_laysPlanes 93 = .ok (.goto 11, 3) := by decide +kernel
theorem dX12_laysPlanes_96 : decode cX12_laysPlanes 96 = .ok (.aload_n 0, 1) := by decide +kernel
theorem dX12_laysPlanes_97 : decode cX12_laysPlanes 97 = .ok (.getfield 13, 3) := by decide +kernel
theorem dX12_laysPlanes_100 : decode cX12_laysPlanes 100 = .ok (.iload 4, 2) := by decide +kernel
theorem dX12_laysPlanes_102 : decode cX12_laysPlanes 102 = .ok (.iaload, 1) := by decide +kernel
theorem dX12_laysPlanes_103 : decode cX12_laysPlanes 103 = .ok (.i2l, 1) := by decide +kernel
theorem dX12_laysPlanes_104 : decode cX12_laysPlanes 104 = .ok (.invokevirtual 229, 3) := by decide +kernel
theorem dX12_laysPlanes_107 : decode cX12_laysPlanes 107 = .ok (.iinc 4 1, 3) := by decide +kernel
theorem dX12_laysPlanes_110 : decode cX12_laysPlanes 110 = .ok (.goto (-102), 3) := by decide +kernel
theorem dX12_laysPlanes_113 : decode cX12_laysPlanes 113 = .ok (.iconst 0, 1) := by decide +kernel
theorem dX12_laysPlanes_114 : decode cX12_laysPlanes 114 = .ok (.istore 4, 2) := by decide +kernel
theorem dX12_laysPlanes_116 : decode cX12_laysPlanes 116 = .ok (.iload 4, 2) := by decide +kernel
theorem dX12_laysPlanes_118 : decode cX12_laysPlanes 118 = .ok (.aload_n 0, 1) := by decide +kernel
theorem dX12_laysPlanes_119 : decode cX12_laysPlanes 119 = .ok (.getfield 46, 3) := by decide +kernel
theorem dX12_laysPlanes_122 : decode cX12_laysPlanes 122 = .ok (.if_icmp .ge 92, 3) := by decide +kernel
theorem dX12_laysPlanes_125 : decode cX12_laysPlanes 125 = .ok (.iload_n 1, 1) := by decide +kernel
theorem dX12_laysPlanes_126 : decode cX12_laysPlanes 126 = .ok (.iload 4, 2) := by decide +kernel
theorem dX12_laysPlanes_128 : decode cX12_laysPlanes 128 = .ok (.ishr, 1) := by decide +kernel
theorem dX12_laysPlanes_129 : decode cX12_laysPlanes 129 = .ok (.iconst 2, 1) := by decide +kernel
theorem dX12_laysPlanes_130 : decode cX12_laysPlanes 130 = .ok (.irem, 1) := by decide +kernel
theorem dX12_laysPlanes_131 : decode cX12_laysPlanes 131 = .ok (.iconst 1, 1) := by decide +kernel
theorem dX12_laysPlanes_132 : decode cX12_laysPlanes 132 = .ok (.if_icmp .ne 76, 3) := by decide +kernel
theorem dX12_laysPlanes_135 : decode cX12_laysPlanes 135 = .ok (.aload_n 0, 1) := by decide +kernel
theorem dX12_laysPlanes_136 : decode cX12_laysPlanes 136 = .ok (.aload_n 0, 1) := by decide +kernel
theorem dX12_laysPlanes_137 : decode cX12_laysPlanes 137 = .ok (.getfield 16, 3) := by decide +kernel
theorem dX12_laysPlanes_140 : decode cX12_laysPlanes 140 = .ok (.iconst 3, 1) := by decide +kernel
theorem dX12_laysPlanes_141 : decode cX12_laysPlanes 141 = .ok (.iload 4, 2) := by decide +kernel
theorem dX12_laysPlanes_143 : decode cX12_laysPlanes 143 = .ok (.imul, 1) := by decide +kernel
theorem dX12_laysPlanes_144 : decode cX12_laysPlanes 144 = .ok (.iaload, 1) := by decide +kernel
theorem dX12_laysPlanes_145 : decode cX12_laysPlanes 145 = .ok (.i2l, 1) := by decide +kernel
theorem dX12_laysPlanes_146 : decode cX12_laysPlanes 146 = .ok (.aload_n 0, 1) := by decide +kernel
theorem dX12_laysPlanes_147 : decode cX12_laysPlanes 147 = .ok (.getfield 16, 3) := by decide +kernel
theorem dX12_laysPlanes_150 : decode cX12_laysPlanes 150 = .ok (.iconst 3, 1) := by decide +kernel
theorem dX12_laysPlanes_151 : decode cX12_laysPlanes 151 = .ok (.iload 4, 2) := by decide +kernel
theorem dX12_laysPlanes_153 : decode cX12_laysPlanes 153 = .ok (.imul, 1) := by decide +kernel
theorem dX12_laysPlanes_154 : decode cX12_laysPlanes 154 = .ok (.iconst 1, 1) := by decide +kernel
theorem dX12_laysPlanes_155 : decode cX12_laysPlanes 155 = .ok (.iadd, 1) := by decide +kernel
theorem dX12_laysPlanes_156 : decode cX12_laysPlanes 156 = .ok (.iaload, 1) := by decide +kernel
theorem dX12_laysPlanes_157 : decode cX12_laysPlanes 157 = .ok (.i2l, 1) := by decide +kernel
theorem dX12_laysPlanes_158 : decode cX12_laysPlanes 158 = .ok (.aload_n 0, 1) := by decide +kernel
theorem dX12_laysPlanes_159 : decode cX12_laysPlanes 159 = .ok (.getfield 16, 3) := by decide +kernel
theorem dX12_laysPlanes_162 : decode cX12_laysPlanes 162 = .ok (.iconst 3, 1) := by decide +kernel
theorem dX12_laysPlanes_163 : decode cX12_laysPlanes 163 = .ok (.iload 4, 2) := by decide +kernel
theorem dX12_laysPlanes_165 : decode cX12_laysPlanes 165 = .ok (.imul, 1) := by decide +kernel
theorem dX12_laysPlanes_166 : decode cX12_laysPlanes 166 = .ok (.iconst 2, 1) := by decide +kernel
theorem dX12_laysPlanes_167 : decode cX12_laysPlanes 167 = .ok (.iadd, 1) := by decide +kernel
theorem dX12_laysPlanes_168 : decode cX12_laysPlanes 168 = .ok (.iaload, 1) := by decide +kernel
theorem dX12_laysPlanes_169 : decode cX12_laysPlanes 169 = .ok (.i2l, 1) := by decide +kernel
theorem dX12_laysPlanes_170 : decode cX12_laysPlanes 170 = .ok (.aload_n 0, 1) := by decide +kernel
theorem dX12_laysPlanes_171 : decode cX12_laysPlanes 171 = .ok (.getfield 19, 3) := by decide +kernel
theorem dX12_laysPlanes_174 : decode cX12_laysPlanes 174 = .ok (.iload 4, 2) := by decide +kernel
theorem dX12_laysPlanes_176 : decode cX12_laysPlanes 176 = .ok (.iaload, 1) := by decide +kernel
theorem dX12_laysPlanes_177 : decode cX12_laysPlanes 177 = .ok (.iload_n 3, 1) := by decide +kernel
theorem dX12_laysPlanes_178 : decode cX12_laysPlanes 178 = .ok (.ifCond .eq 7, 3) := by decide +kernel
theorem dX12_laysPlanes_181 : decode cX12_laysPlanes 181 = .ok (.lconst 0, 1) := by decide +kernel
theorem dX12_laysPlanes_182 : decode cX12_laysPlanes 182 = .ok (.goto 23, 3) := by decide +kernel
theorem dX12_laysPlanes_185 : decode cX12_laysPlanes 185 = .ok (.aload_n 0, 1) := by decide +kernel
theorem dX12_laysPlanes_186 : decode cX12_laysPlanes 186 = .ok (.getfield 22, 3) := by decide +kernel
theorem dX12_laysPlanes_189 : decode cX12_laysPlanes 189 = .ok (.iload 4, 2) := by decide +kernel
theorem dX12_laysPlanes_191 : decode cX12_laysPlanes 191 = .ok (.iaload, 1) := by decide +kernel
theorem dX12_laysPlanes_192 : decode cX12_laysPlanes 192 = .ok (.i2l, 1) := by decide +kernel
theorem dX12_laysPlanes_193 : decode cX12_laysPlanes 193 = .ok (.iload 4, 2) := by decide +kernel
theorem dX12_laysPlanes_195 : decode cX12_laysPlanes 195 = .ok (.iload_n 2, 1) := by decide +kernel
theorem dX12_laysPlanes_196 : decode cX12_laysPlanes 196 = .ok (.if_icmp .ne 7, 3) := by decide +kernel
theorem dX12_laysPlanes_199 : decode cX12_laysPlanes 199 = .ok (.lconst 1, 1) := by decide +kernel
theorem dX12_laysPlanes_200 : decode cX12_laysPlanes 200 = .ok (.goto 4, 3) := by decide +kernel
theorem dX12_laysPlanes_203 : decode cX12_laysPlanes 203 = .ok (.lconst 0, 1) := by decide +kernel
theorem dX12_laysPlanes_204 : decode cX12_laysPlanes 204 = .ok (.ladd, 1) := by decide +kernel
theorem dX12_laysPlanes_205 : decode cX12_laysPlanes 205 = .ok (.invokevirtual 225, 3) := by decide +kernel
theorem dX12_laysPlanes_208 : decode cX12_laysPlanes 208 = .ok (.iinc 4 1, 3) := by decide +kernel
theorem dX12_laysPlanes_211 : decode cX12_laysPlanes 211 = .ok (.goto (-95), 3) := by decide +kernel
theorem dX12_laysPlanes_214 : decode cX12_laysPlanes 214 = .ok (.return_, 1) := by decide +kernel
theorem dX12_determinant_0 : decode cX12_determinant 0 = .ok (.iload 4, 2) := by decide +kernel
theorem dX12_determinant_2 : decode cX12_determinant 2 = .ok (.ifCond .ne 12, 3) := by decide +kernel
theorem dX12_determinant_5 : decode cX12_determinant 5 = .ok (.aload_n 0, 1) := by decide +kernel
theorem dX12_determinant_6 : decode cX12_determinant 6 = .ok (.getfield 75, 3) := by decide +kernel
theorem dX12_determinant_9 : decode cX12_determinant 9 = .ok (.iload_n 1, 1) := by decide +kernel
theorem dX12_determinant_10 : decode cX12_determinant 10 = .ok (.laload, 1) := by decide +kernel
theorem dX12_determinant_11 : decode cX12_determinant 11 = .ok (.goto 11, 3) := by decide +kernel
theorem dX12_determinant_14 : decode cX12_determinant 14 = .ok (.aload_n 0, 1) := by decide +kernel
theorem dX12_determinant_15 : decode cX12_determinant 15 = .ok (.getfield 71, 3) := by decide +kernel
theorem dX12_determinant_18 : decode cX12_determinant 18 = .ok (.iconst 3, 1) := by decide +kernel
theorem dX12_determinant_19 : decode cX12_determinant 19 = .ok (.iload_n 1, 1) := by decide +kernel
theorem dX12_determinant_20 : decode cX12_determinant 20 = .ok (.imul, 1) := by decide +kernel
theorem dX12_determinant_21 : decode cX12_determinant 21 = .ok (.laload, 1) := by decide +kernel
theorem dX12_determinant_22 : decode cX12_determinant 22 = .ok (.lstore 5, 2) := by decide +kernel
theorem dX12_determinant_24 : decode cX12_determinant 24 = .ok (.iload 4, 2) := by decide +kernel
theorem dX12_determinant_26 : decode cX12_determinant 26 = .ok (.iconst 1, 1) := by decide +kernel
theorem dX12_determinant_27 : decode cX12_determinant 27 = .ok (.if_icmp .ne 12, 3) := by decide +kernel
theorem dX12_determinant_30 : decode cX12_determinant 30 = .ok (.aload_n 0, 1) := by decide +kernel
theorem dX12_determinant_31 : decode cX12_determinant 31 = .ok (.getfield 75, 3) := by decide +kernel
theorem dX12_determinant_34 : decode cX12_determinant 34 = .ok (.iload_n 1, 1) := by decide +kernel
theorem dX12_determinant_35 : decode cX12_determinant 35 = .ok (.laload, 1) := by decide +kernel
theorem dX12_determinant_36 : decode cX12_determinant 36 = .ok (.goto 13, 3) := by decide +kernel
theorem dX12_determinant_39 : decode cX12_determinant 39 = .ok (.aload_n 0, 1) := by decide +kernel
theorem dX12_determinant_40 : decode cX12_determinant 40 = .ok (.getfield 71, 3) := by decide +kernel
theorem dX12_determinant_43 : decode cX12_determinant 43 = .ok (.iconst 3, 1) := by decide +kernel
theorem dX12_determinant_44 : decode cX12_determinant 44 = .ok (.iload_n 1, 1) := by decide +kernel
theorem dX12_determinant_45 : decode cX12_determinant 45 = .ok (.imul, 1) := by decide +kernel
theorem dX12_determinant_46 : decode cX12_determinant 46 = .ok (.iconst 1, 1) := by decide +kernel
theorem dX12_determinant_47 : decode cX12_determinant 47 = .ok (.iadd, 1) := by decide +kernel
theorem dX12_determinant_48 : decode cX12_determinant 48 = .ok (.laload, 1) := by decide +kernel
theorem dX12_determinant_49 : decode cX12_determinant 49 = .ok (.lstore 7, 2) := by decide +kernel
theorem dX12_determinant_51 : decode cX12_determinant 51 = .ok (.iload 4, 2) := by decide +kernel
theorem dX12_determinant_53 : decode cX12_determinant 53 = .ok (.iconst 2, 1) := by decide +kernel
theorem dX12_determinant_54 : decode cX12_determinant 54 = .ok (.if_icmp .ne 12, 3) := by decide +kernel
theorem dX12_determinant_57 : decode cX12_determinant 57 = .ok (.aload_n 0, 1) := by decide +kernel
theorem dX12_determinant_58 : decode cX12_determinant 58 = .ok (.getfield 75, 3) := by decide +kernel
theorem dX12_determinant_61 : decode cX12_determinant 61 = .ok (.iload_n 1, 1) := by decide +kernel
theorem dX12_determinant_62 : decode cX12_determinant 62 = .ok (.laload, 1) := by decide +kernel
theorem dX12_determinant_63 : decode cX12_determinant 63 = .ok (.goto 13, 3) := by decide +kernel
theorem dX12_determinant_66 : decode cX12_determinant 66 = .ok (.aload_n 0, 1) := by decide +kernel
theorem dX12_determinant_67 : decode cX12_determinant 67 = .ok (.getfield 71, 3) := by decide +kernel
theorem dX12_determinant_70 : decode cX12_determinant 70 = .ok (.iconst 3, 1) := by decide +kernel
theorem dX12_determinant_71 : decode cX12_determinant 71 = .ok (.iload_n 1, 1) := by decide +kernel
theorem dX12_determinant_72 : decode cX12_determinant 72 = .ok (.imul, 1) := by decide +kernel
theorem dX12_determinant_73 : decode cX12_determinant 73 = .ok (.iconst 2, 1) := by decide +kernel
theorem dX12_determinant_74 : decode cX12_determinant 74 = .ok (.iadd, 1) := by decide +kernel
theorem dX12_determinant_75 : decode cX12_determinant 75 = .ok (.laload, 1) := by decide +kernel
theorem dX12_determinant_76 : decode cX12_determinant 76 = .ok (.lstore 9, 2) := by decide +kernel
theorem dX12_determinant_78 : decode cX12_determinant 78 = .ok (.iload 4, 2) := by decide +kernel
theorem dX12_determinant_80 : decode cX12_determinant 80 = .ok (.ifCond .ne 12, 3) := by decide +kernel
theorem dX12_determinant_83 : decode cX12_determinant 83 = .ok (.aload_n 0, 1) := by decide +kernel
theorem dX12_determinant_84 : decode cX12_determinant 84 = .ok (.getfield 75, 3) := by decide +kernel
theorem dX12_determinant_87 : decode cX12_determinant 87 = .ok (.iload_n 2, 1) := by decide +kernel
theorem dX12_determinant_88 : decode cX12_determinant 88 = .ok (.laload, 1) := by decide +kernel
theorem dX12_determinant_89 : decode cX12_determinant 89 = .ok (.goto 11, 3) := by decide +kernel
theorem dX12_determinant_92 : decode cX12_determinant 92 = .ok (.aload_n 0, 1) := by decide +kernel
theorem dX12_determinant_93 : decode cX12_determinant 93 = .ok (.getfield 71, 3) := by decide +kernel
theorem dX12_determinant_96 : decode cX12_determinant 96 = .ok (.iconst 3, 1) := by decide +kernel
theorem dX12_determinant_97 : decode cX12_determinant 97 = .ok (.iload_n 2, 1) := by decide +kernel
theorem dX12_determinant_98 : decode cX12_determinant 98 = .ok (.imul, 1) := by decide +kernel
theorem dX12_determinant_99 : decode cX12_determinant 99 = .ok (.laload, 1) := by decide +kernel
theorem dX12_determinant_100 : decode cX12_determinant 100 = .ok (.lstore 11, 2) := by decide +kernel
theorem dX12_determinant_102 : decode cX12_determinant 102 = .ok (.iload 4, 2) := by decide +kernel
theorem dX12_determinant_104 : decode cX12_determinant 104 = .ok (.iconst 1, 1) := by decide +kernel
theorem dX12_determinant_105 : decode cX12_determinant 105 = .ok (.if_icmp .ne 12, 3) := by decide +kernel
theorem dX12_determinant_108 : decode cX12_determinant 108 = .ok (.aload_n 0, 1) := by decide +kernel
theorem dX12_determinant_109 : decode cX12_determinant 109 = .ok (.getfield 75, 3) := by decide +kernel
theorem dX12_determinant_112 : decode cX12_determinant 112 = .ok (.iload_n 2, 1) := by decide +kernel
theorem dX12_determinant_113 : decode cX12_determinant 113 = .ok (.laload, 1) := by decide +kernel
theorem dX12_determinant_114 : decode cX12_determinant 114 = .ok (.goto 13, 3) := by decide +kernel
theorem dX12_determinant_117 : decode cX12_determinant 117 = .ok (.aload_n 0, 1) := by decide +kernel
theorem dX12_determinant_118 : decode cX12_determinant 118 = .ok (.getfield 71, 3) := by decide +kernel
theorem dX12_determinant_121 : decode cX12_determinant 121 = .ok (.iconst 3, 1) := by decide +kernel
theorem dX12_determinant_122 : decode cX12_determinant 122 = .ok (.iload_n 2, 1) := by decide +kernel
theorem dX12_determinant_123 : decode cX12_determinant 123 = .ok (.imul, 1) := by decide +kernel
theorem dX12_determinant_124 : decode cX12_determinant 124 = .ok (.iconst 1, 1) := by decide +kernel
theorem dX12_determinant_125 : decode cX12_determinant 125 = .ok (.iadd, 1) := by decide +kernel
theorem dX12_determinant_126 : decode cX12_determinant 126 = .ok (.laload, 1) := by decide +kernel
theorem dX12_determinant_127 : decode cX12_determinant 127 = .ok (.lstore 13, 2) := by decide +kernel
theorem dX12_determinant_129 : decode cX12_determinant 129 = .ok (.iload 4, 2) := by decide +kernel
theorem dX12_determinant_131 : decode cX12_determinant 131 = .ok (.iconst 2, 1) := by decide +kernel
theorem dX12_determinant_132 : decode cX12_determinant 132 = .ok (.if_icmp .ne 12, 3) := by decide +kernel
theorem dX12_determinant_135 : decode cX12_determinant 135 = .ok (.aload_n 0, 1) := by decide +kernel
theorem dX12_determinant_136 : decode cX12_determinant 136 = .ok (.getfield 75, 3) := by decide +kernel
theorem dX12_determinant_139 : decode cX12_determinant 139 = .ok (.iload_n 2, 1) := by decide +kernel
theorem dX12_determinant_140 : decode cX12_determinant 140 = .ok (.laload, 1) := by decide +kernel
theorem dX12_determinant_141 : decode cX12_determinant 141 = .ok (.goto 13, 3) := by decide +kernel
theorem dX12_determinant_144 : decode cX12_determinant 144 = .ok (.aload_n 0, 1) := by decide +kernel
theorem dX12_determinant_145 : decode cX12_determinant 145 = .ok (.getfield 71, 3) := by decide +kernel
theorem dX12_determinant_148 : decode cX12_determinant 148 = .ok (.iconst 3, 1) := by decide +kernel
theorem dX12_determinant_149 : decode cX12_determinant 149 = .ok (.iload_n 2, 1) := by decide +kernel
theorem dX12_determinant_150 : decode cX12_determinant 150 = .ok (.imul, 1) := by decide +kernel
theorem dX12_determinant_151 : decode cX12_determinant 151 = .ok (.iconst 2, 1) := by decide +kernel
theorem dX12_determinant_152 : decode cX12_determinant 152 = .ok (.iadd, 1) := by decide +kernel
theorem dX12_determinant_153 : decode cX12_determinant 153 = .ok (.laload, 1) := by decide +kernel
theorem dX12_determinant_154 : decode cX12_determinant 154 = .ok (.lstore 15, 2) := by decide +kernel
theorem dX12_determinant_156 : decode cX12_determinant 156 = .ok (.iload 4, 2) := by decide +kernel
theorem dX12_determinant_158 : decode cX12_determinant 158 = .ok (.ifCond .ne 12, 3) := by decide +kernel
theorem dX12_determinant_161 : decode cX12_determinant 161 = .ok (.aload_n 0, 1) := by decide +kernel
theorem dX12_determinant_162 : decode cX12_determinant 162 = .ok (.getfield 75, 3) := by decide +kernel
theorem dX12_determinant_165 : decode cX12_determinant 165 = .ok (.iload_n 3, 1) := by decide +kernel
theorem dX12_determinant_166 : decode cX12_determinant 166 = .ok (.laload, 1) := by decide +kernel
theorem dX12_determinant_167 : decode cX12_determinant 167 = .ok (.goto 11, 3) := by decide +kernel
theorem dX12_determinant_170 : decode cX12_determinant 170 = .ok (.aload_n 0, 1) := by decide +kernel
theorem dX12_determinant_171 : decode cX12_determinant 171 = .ok (.getfield 71, 3) := by decide +kernel
theorem dX12_determinant_174 : decode cX12_determinant 174 = .ok (.iconst 3, 1) := by decide +kernel
theorem dX12_determinant_175 : decode cX12_determinant 175 = .ok (.iload_n 3, 1) := by decide +kernel
theorem dX12_determinant_176 : decode cX12_determinant 176 = .ok (.imul, 1) := by decide +kernel
theorem dX12_determinant_177 : decode cX12_determinant 177 = .ok (.laload, 1) := by decide +kernel
theorem dX12_determinant_178 : decode cX12_determinant 178 = .ok (.lstore 17, 2) := by decide +kernel
theorem dX12_determinant_180 : decode cX12_determinant 180 = .ok (.iload 4, 2) := by decide +kernel
theorem dX12_determinant_182 : decode cX12_determinant 182 = .ok (.iconst 1, 1) := by decide +kernel
theorem dX12_determinant_183 : decode cX12_determinant 183 = .ok (.if_icmp .ne 12, 3) := by decide +kernel
theorem dX12_determinant_186 : decode cX12_determinant 186 = .ok (.aload_n 0, 1) := by decide +kernel
theorem dX12_determinant_187 : decode cX12_determinant 187 = .ok (.getfield 75, 3) := by decide +kernel
theorem dX12_determinant_190 : decode cX12_determinant 190 = .ok (.iload_n 3, 1) := by decide +kernel
theorem dX12_determinant_191 : decode cX12_determinant 191 = .ok (.laload, 1) := by decide +kernel
theorem dX12_determinant_192 : decode cX12_determinant 192 = .ok (.goto 13, 3) := by decide +kernel
theorem dX12_determinant_195 : decode cX12_determinant 195 = .ok (.aload_n 0, 1) := by decide +kernel
theorem dX12_determinant_196 : decode cX12_determinant 196 = .ok (.getfield 71, 3) := by decide +kernel
theorem dX12_determinant_199 : decode cX12_determinant 199 = .ok (.iconst 3, 1) := by decide +kernel
theorem dX12_determinant_200 : decode cX12_determinant 200 = .ok (.iload_n 3, 1) := by decide +kernel
theorem dX12_determinant_201 : decode cX12_determinant 201 = .ok (.imul, 1) := by decide +kernel
theorem dX12_determinant_202 : decode cX12_determinant 202 = .ok (.iconst 1, 1) := by decide +kernel
theorem dX12_determinant_203 : decode cX12_determinant 203 = .ok (.iadd, 1) := by decide +kernel
theorem dX12_determinant_204 : decode cX12_determinant 204 = .ok (.laload, 1) := by decide +kernel
theorem dX12_determinant_205 : decode cX12_determinant 205 = .ok (.lstore 19, 2) := by decide +kernel
theorem dX12_determinant_207 : decode cX12_determinant 207 = .ok (.iload 4, 2) := by decide +kernel
theorem dX12_determinant_209 : decode cX12_determinant 209 = .ok (.iconst 2, 1) := by decide +kernel
theorem dX12_determinant_210 : decode cX12_determinant 210 = .ok (.if_icmp .ne 12, 3) := by decide +kernel
theorem dX12_determinant_213 : decode cX12_determinant 213 = .ok (.aload_n 0, 1) := by decide +kernel
theorem dX12_determinant_214 : decode cX12_determinant 214 = .ok (.getfield 75, 3) := by decide +kernel
theorem dX12_determinant_217 : decode cX12_determinant 217 = .ok (.iload_n 3, 1) := by decide +kernel
theorem dX12_determinant_218 : decode cX12_determinant 218 = .ok (.laload, 1) := by decide +kernel
theorem dX12_determinant_219 : decode cX12_determinant 219 = .ok (.goto 13, 3) := by decide +kernel
theorem dX12_determinant_222 : decode cX12_determinant 222 = .ok (.aload_n 0, 1) := by decide +kernel
theorem dX12_determinant_223 : decode cX12_determinant 223 = .ok (.getfield 71, 3) := by decide +kernel
theorem dX12_determinant_226 : decode cX12_determinant 226 = .ok (.iconst 3, 1) := by decide +kernel
theorem dX12_determinant_227 : decode cX12_determinant 227 = .ok (.iload_n 3, 1) := by decide +kernel
theorem dX12_determinant_228 : decode cX12_determinant 228 = .ok (.imul, 1) := by decide +kernel
theorem dX12_determinant_229 : decode cX12_determinant 229 = .ok (.iconst 2, 1) := by decide +kernel
theorem dX12_determinant_230 : decode cX12_determinant 230 = .ok (.iadd, 1) := by decide +kernel
theorem dX12_determinant_231 : decode cX12_determinant 231 = .ok (.laload, 1) := by decide +kernel
theorem dX12_determinant_232 : decode cX12_determinant 232 = .ok (.lstore 21, 2) := by decide +kernel
theorem dX12_determinant_234 : decode cX12_determinant 234 = .ok (.lload 5, 2) := by decide +kernel
theorem dX12_determinant_236 : decode cX12_determinant 236 = .ok (.lload 13, 2) := by decide +kernel
theorem dX12_determinant_238 : decode cX12_determinant 238 = .ok (.lload 21, 2) := by decide +kernel
theorem dX12_determinant_240 : decode cX12_determinant 240 = .ok (.lmul, 1) := by decide +kernel
theorem dX12_determinant_241 : decode cX12_determinant 241 = .ok (.lload 15, 2) := by decide +kernel
theorem dX12_determinant_243 : decode cX12_determinant 243 = .ok (.lload 19, 2) := by decide +kernel
theorem dX12_determinant_245 : decode cX12_determinant 245 = .ok (.lmul, 1) := by decide +kernel
theorem dX12_determinant_246 : decode cX12_determinant 246 = .ok (.lsub, 1) := by decide +kernel
theorem dX12_determinant_247 : decode cX12_determinant 247 = .ok (.lmul, 1) := by decide +kernel
theorem dX12_determinant_248 : decode cX12_determinant 248 = .ok (.lload 7, 2) := by decide +kernel
theorem dX12_determinant_250 : decode cX12_determinant 250 = .ok (.lload 11, 2) := by decide +kernel
theorem dX12_determinant_252 : decode cX12_determinant 252 = .ok (.lload 21, 2) := by decide +kernel
theorem dX12_determinant_254 : decode cX12_determinant 254 = .ok (.lmul, 1) := by decide +kernel
theorem dX12_determinant_255 : decode cX12_determinant 255 = .ok (.lload 15, 2) := by decide +kernel
theorem dX12_determinant_257 : decode cX12_determinant 257 = .ok (.lload 17, 2) := by decide +kernel
theorem dX12_determinant_259 : decode cX12_determinant 259 = .ok (.lmul, 1) := by decide +kernel
theorem dX12_determinant_260 : decode cX12_determinant 260 = .ok (.lsub, 1) := by decide +kernel
theorem dX12_determinant_261 : decode cX12_determinant 261 = .ok (.lmul, 1) := by decide +kernel
theorem dX12_determinant_262 : decode cX12_determinant 262 = .ok (.lsub, 1) := by decide +kernel
theorem dX12_determinant_263 : decode cX12_determinant 263 = .ok (.lload 9, 2) := by decide +kernel
theorem dX12_determinant_265 : decode cX12_determinant 265 = .ok (.lload 11, 2) := by decide +kernel
theorem dX12_determinant_267 : decode cX12_determinant 267 = .ok (.lload 19, 2) := by decide +kernel
theorem dX12_determinant_269 : decode cX12_determinant 269 = .ok (.lmul, 1) := by decide +kernel
theorem dX12_determinant_270 : decode cX12_determinant 270 = .ok (.lload 13, 2) := by decide +kernel
theorem dX12_determinant_272 : decode cX12_determinant 272 = .ok (.lload 17, 2) := by decide +kernel
theorem dX12_determinant_274 : decode cX12_determinant 274 = .ok (.lmul, 1) := by decide +kernel
theorem dX12_determinant_275 : decode cX12_determinant 275 = .ok (.lsub, 1) := by decide +kernel
theorem dX12_determinant_276 : decode cX12_determinant 276 = .ok (.lmul, 1) := by decide +kernel
theorem dX12_determinant_277 : decode cX12_determinant 277 = .ok (.ladd, 1) := by decide +kernel
theorem dX12_determinant_278 : decode cX12_determinant 278 = .ok (.lreturn, 1) := by decide +kernel
theorem dX12_solves_0 : decode cX12_solves 0 = .ok (.aload_n 0, 1) := by decide +kernel
theorem dX12_solves_1 : decode cX12_solves 1 = .ok (.iload_n 1, 1) := by decide +kernel
theorem dX12_solves_2 : decode cX12_solves 2 = .ok (.iload_n 2, 1) := by decide +kernel
theorem dX12_solves_3 : decode cX12_solves 3 = .ok (.iload_n 3, 1) := by decide +kernel
theorem dX12_solves_4 : decode cX12_solves 4 = .ok (.iconst (-1), 1) := by decide +kernel
theorem dX12_solves_5 : decode cX12_solves 5 = .ok (.invokevirtual 233, 3) := by decide +kernel
theorem dX12_solves_8 : decode cX12_solves 8 = .ok (.lstore 4, 2) := by decide +kernel
theorem dX12_solves_10 : decode cX12_solves 10 = .ok (.lload 4, 2) := by decide +kernel
theorem dX12_solves_12 : decode cX12_solves 12 = .ok (.lconst 0, 1) := by decide +kernel
theorem dX12_solves_13 : decode cX12_solves 13 = .ok (.lcmp, 1) := by decide +kernel
theorem dX12_solves_14 : decode cX12_solves 14 = .ok (.ifCond .ne 5, 3) := by decide +kernel
theorem dX12_solves_17 : decode cX12_solves 17 = .ok (.iconst 0, 1) := by decide +kernel
theorem dX12_solves_18 : decode cX12_solves 18 = .ok (.ireturn, 1) := by decide +kernel
theorem dX12_solves_19 : decode cX12_solves 19 = .ok (.lload 4, 2) := by decide +kernel
theorem dX12_solves_21 : decode cX12_solves 21 = .ok (.lconst 0, 1) := by decide +kernel
theorem dX12_solves_22 : decode cX12_solves 22 = .ok (.lcmp, 1) := by decide +kernel
theorem dX12_solves_23 : decode cX12_solves 23 = .ok (.ifCond .ge 9, 3) := by decide +kernel
theorem dX12_solves_26 : decode cX12_solves 26 = .ok (.ldc2_w 237, 3) := by decide +kernel
theorem dX12_solves_29 : decode cX12_solves 29 = .ok (.goto 4, 3) := by decide +kernel
theorem dX12_solves_32 : decode cX12_solves 32 = .ok (.lconst 1, 1) := by decide +kernel
theorem dX12_solves_33 : decode cX12_solves 33 = .ok (.lstore 6, 2) := by decide +kernel
theorem dX12_solves_35 : decode cX12_solves 35 = .ok (.iconst 0, 1) := by decide +kernel
theorem dX12_solves_36 : decode cX12_solves 36 = .ok (.istore 8, 2) := by decide +kernel
theorem dX12_solves_38 : decode cX12_solves 38 = .ok (.iload 8, 2) := by decide +kernel
theorem dX12_solves_40 : decode cX12_solves 40 = .ok (.iconst 3, 1) := by decide +kernel
theorem dX12_solves_41 : decode cX12_solves 41 = .ok (.if_icmp .ge 28, 3) := by decide +kernel
theorem dX12_solves_44 : decode cX12_solves 44 = .ok (.aload_n 0, 1) := by decide +kernel
theorem dX12_solves_45 : decode cX12_solves 45 = .ok (.getfield 96, 3) := by decide +kernel
theorem dX12_solves_48 : decode cX12_solves 48 = .ok (.iload 8, 2) := by decide +kernel
theorem dX12_solves_50 : decode cX12_solves 50 = .ok (.lload 6, 2) := by decide +kernel
theorem dX12_solves_52 : decode cX12_solves 52 = .ok (.aload_n 0, 1) := by decide +kernel
theorem dX12_solves_53 : decode cX12_solves 53 = .ok (.iload_n 1, 1) := by decide +kernel
theorem dX12_solves_54 : decode cX12_solves 54 = .ok (.iload_n 2, 1) := by decide +kernel
theorem dX12_solves_55 : decode cX12_solves 55 = .ok (.iload_n 3, 1) := by decide +kernel
theorem dX12_solves_56 : decode cX12_solves 56 = .ok (.iload 8, 2) := by decide +kernel
theorem dX12_solves_58 : decode cX12_solves 58 = .ok (.invokevirtual 233, 3) := by decide +kernel
theorem dX12_solves_61 : decode cX12_solves 61 = .ok (.lmul, 1) := by decide +kernel
theorem dX12_solves_62 : decode cX12_solves 62 = .ok (.lastore, 1) := by decide +kernel
theorem dX12_solves_63 : decode cX12_solves 63 = .ok (.iinc 8 1, 3) := by decide +kernel
theorem dX12_solves_66 : decode cX12_solves 66 = .ok (.goto (-28), 3) := by decide +kernel
theorem dX12_solves_69 : decode cX12_solves 69 = .ok (.aload_n 0, 1) := by decide +kernel
theorem dX12_solves_70 : decode cX12_solves 70 = .ok (.getfield 96, 3) := by decide +kernel
theorem dX12_solves_73 : decode cX12_solves 73 = .ok (.iconst 3, 1) := by decide +kernel
theorem dX12_solves_74 : decode cX12_solves 74 = .ok (.lload 6, 2) := by decide +kernel
theorem dX12_solves_76 : decode cX12_solves 76 = .ok (.lload 4, 2) := by decide +kernel
theorem dX12_solves_78 : decode cX12_solves 78 = .ok (.lmul, 1) := by decide +kernel
theorem dX12_solves_79 : decode cX12_solves 79 = .ok (.lastore, 1) := by decide +kernel
theorem dX12_solves_80 : decode cX12_solves 80 = .ok (.iconst 1, 1) := by decide +kernel
theorem dX12_solves_81 : decode cX12_solves 81 = .ok (.ireturn, 1) := by decide +kernel
theorem dX12_fits_0 : decode cX12_fits 0 = .ok (.iconst 0, 1) := by decide +kernel
theorem dX12_fits_1 : decode cX12_fits 1 = .ok (.istore_n 2, 1) := by decide +kernel
theorem dX12_fits_2 : decode cX12_fits 2 = .ok (.iload_n 2, 1) := by decide +kernel
theorem dX12_fits_3 : decode cX12_fits 3 = .ok (.iload_n 1, 1) := by decide +kernel
theorem dX12_fits_4 : decode cX12_fits 4 = .ok (.if_icmp .ge 124, 3) := by decide +kernel
theorem dX12_fits_7 : decode cX12_fits 7 = .ok (.aload_n 0, 1) := by decide +kernel
theorem dX12_fits_8 : decode cX12_fits 8 = .ok (.getfield 71, 3) := by decide +kernel
theorem dX12_fits_11 : decode cX12_fits 11 = .ok (.iconst 3, 1) := by decide +kernel
theorem dX12_fits_12 : decode cX12_fits 12 = .ok (.iload_n 2, 1) := by decide +kernel
theorem dX12_fits_13 : decode cX12_fits 13 = .ok (.imul, 1) := by decide +kernel
theorem dX12_fits_14 : decode cX12_fits 14 = .ok (.laload, 1) := by decide +kernel
theorem dX12_fits_15 : decode cX12_fits 15 = .ok (.aload_n 0, 1) := by decide +kernel
theorem dX12_fits_16 : decode cX12_fits 16 = .ok (.getfield 96, 3) := by decide +kernel
theorem dX12_fits_19 : decode cX12_fits 19 = .ok (.iconst 0, 1) := by decide +kernel
theorem dX12_fits_20 : decode cX12_fits 20 = .ok (.laload, 1) := by decide +kernel
theorem dX12_fits_21 : decode cX12_fits 21 = .ok (.lmul, 1) := by decide +kernel
theorem dX12_fits_22 : decode cX12_fits 22 = .ok (.aload_n 0, 1) := by decide +kernel
theorem dX12_fits_23 : decode cX12_fits 23 = .ok (.getfield 71, 3) := by decide +kernel
theorem dX12_fits_26 : decode cX12_fits 26 = .ok (.iconst 3, 1) := by decide +kernel
theorem dX12_fits_27 : decode cX12_fits 27 = .ok (.iload_n 2, 1) := by decide +kernel
theorem dX12_fits_28 : decode cX12_fits 28 = .ok (.imul, 1) := by decide +kernel
theorem dX12_fits_29 : decode cX12_fits 29 = .ok (.iconst 1, 1) := by decide +kernel
theorem dX12_fits_30 : decode cX12_fits 30 = .ok (.iadd, 1) := by decide +kernel
theorem dX12_fits_31 : decode cX12_fits 31 = .ok (.laload, 1) := by decide +kernel
theorem dX12_fits_32 : decode cX12_fits 32 = .ok (.aload_n 0, 1) := by decide +kernel
theorem dX12_fits_33 : decode cX12_fits 33 = .ok (.getfield 96, 3) := by decide +kernel
theorem dX12_fits_36 : decode cX12_fits 36 = .ok (.iconst 1, 1) := by decide +kernel
theorem dX12_fits_37 : decode cX12_fits 37 = .ok (.laload, 1) := by decide +kernel
theorem dX12_fits_38 : decode cX12_fits 38 = .ok (.lmul, 1) := by decide +kernel
theorem dX12_fits_39 : decode cX12_fits 39 = .ok (.ladd, 1) := by decide +kernel
theorem dX12_fits_40 : decode cX12_fits 40 = .ok (.aload_n 0, 1) := by decide +kernel
theorem dX12_fits_41 : decode cX12_fits 41 = .ok (.getfield 71, 3) := by decide +kernel
theorem dX12_fits_44 : decode cX12_fits 44 = .ok (.iconst 3, 1) := by decide +kernel
theorem dX12_fits_45 : decode cX12_fits 45 = .ok (.iload_n 2, 1) := by decide +kernel
theorem dX12_fits_46 : decode cX12_fits 46 = .ok (.imul, 1) := by decide +kernel
theorem dX12_fits_47 : decode cX12_fits 47 = .ok (.iconst 2, 1) := by decide +kernel
theorem dX12_fits_48 : decode cX12_fits 48 = .ok (.iadd, 1) := by decide +kernel
theorem dX12_fits_49 : decode cX12_fits 49 = .ok (.laload, 1) := by decide +kernel
theorem dX12_fits_50 : decode cX12_fits 50 = .ok (.aload_n 0, 1) := by decide +kernel
theorem dX12_fits_51 : decode cX12_fits 51 = .ok (.getfield 96, 3) := by decide +kernel
theorem dX12_fits_54 : decode cX12_fits 54 = .ok (.iconst 2, 1) := by decide +kernel
theorem dX12_fits_55 : decode cX12_fits 55 = .ok (.laload, 1) := by decide +kernel
theorem dX12_fits_56 : decode cX12_fits 56 = .ok (.lmul, 1) := by decide +kernel
theorem dX12_fits_57 : decode cX12_fits 57 = .ok (.ladd, 1) := by decide +kernel
theorem dX12_fits_58 : decode cX12_fits 58 = .ok (.aload_n 0, 1) := by decide +kernel
theorem dX12_fits_59 : decode cX12_fits 59 = .ok (.getfield 75, 3) := by decide +kernel
theorem dX12_fits_62 : decode cX12_fits 62 = .ok (.iload_n 2, 1) := by decide +kernel
theorem dX12_fits_63 : decode cX12_fits 63 = .ok (.laload, 1) := by decide +kernel
theorem dX12_fits_64 : decode cX12_fits 64 = .ok (.aload_n 0, 1) := by decide +kernel
theorem dX12_fits_65 : decode cX12_fits 65 = .ok (.getfield 96, 3) := by decide +kernel
theorem dX12_fits_68 : decode cX12_fits 68 = .ok (.iconst 3, 1) := by decide +kernel
theorem dX12_fits_69 : decode cX12_fits 69 = .ok (.laload, 1) := by decide +kernel
theorem dX12_fits_70 : decode cX12_fits 70 = .ok (.lmul, 1) := by decide +kernel
theorem dX12_fits_71 : decode cX12_fits 71 = .ok (.lsub, 1) := by decide +kernel
theorem dX12_fits_72 : decode cX12_fits 72 = .ok (.lstore_n 3, 1) := by decide +kernel
theorem dX12_fits_73 : decode cX12_fits 73 = .ok (.aload_n 0, 1) := by decide +kernel
theorem dX12_fits_74 : decode cX12_fits 74 = .ok (.getfield 87, 3) := by decide +kernel
theorem dX12_fits_77 : decode cX12_fits 77 = .ok (.iload_n 2, 1) := by decide +kernel
theorem dX12_fits_78 : decode cX12_fits 78 = .ok (.iaload, 1) := by decide +kernel
theorem dX12_fits_79 : decode cX12_fits 79 = .ok (.ifCond .ne 9, 3) := by decide +kernel
theorem dX12_fits_82 : decode cX12_fits 82 = .ok (.lload_n 3, 1) := by decide +kernel
theorem dX12_fits_83 : decode cX12_fits 83 = .ok (.lconst 0, 1) := by decide +kernel
theorem dX12_fits_84 : decode cX12_fits 84 = .ok (.lcmp, 1) := by decide +kernel
theorem dX12_fits_85 : decode cX12_fits 85 = .ok (.ifCond .gt 35, 3) := by decide +kernel
theorem dX12_fits_88 : decode cX12_fits 88 = .ok (.aload_n 0, 1) := by decide +kernel
theorem dX12_fits_89 : decode cX12_fits 89 = .ok (.getfield 87, 3) := by decide +kernel
theorem dX12_fits_92 : decode cX12_fits 92 = .ok (.iload_n 2, 1) := by decide +kernel
theorem dX12_fits_93 : decode cX12_fits 93 = .ok (.iaload, 1) := by decide +kernel
theorem dX12_fits_94 : decode cX12_fits 94 = .ok (.iconst 1, 1) := by decide +kernel
theorem dX12_fits_95 : decode cX12_fits 95 = .ok (.if_icmp .ne 9, 3) := by decide +kernel
theorem dX12_fits_98 : decode cX12_fits 98 = .ok (.lload_n 3, 1) := by decide +kernel
theorem dX12_fits_99 : decode cX12_fits 99 = .ok (.lconst 0, 1) := by decide +kernel
theorem dX12_fits_100 : decode cX12_fits 100 = .ok (.lcmp, 1) := by decide +kernel
theorem dX12_fits_101 : decode cX12_fits 101 = .ok (.ifCond .lt 19, 3) := by decide +kernel
theorem dX12_fits_104 : decode cX12_fits 104 = .ok (.aload_n 0, 1) := by decide +kernel
theorem dX12_fits_105 : decode cX12_fits 105 = .ok (.getfield 87, 3) := by decide +kernel
theorem dX12_fits_108 : decode cX12_fits 108 = .ok (.iload_n 2, 1) := by decide +kernel
theorem dX12_fits_109 : decode cX12_fits 109 = .ok (.iaload, 1) := by decide +kernel
theorem dX12_fits_110 : decode cX12_fits 110 = .ok (.iconst 2, 1) := by decide +kernel
theorem dX12_fits_111 : decode cX12_fits 111 = .ok (.if_icmp .ne 11, 3) := by decide +kernel
theorem dX12_fits_114 : decode cX12_fits 114 = .ok (.lload_n 3, 1) := by decide +kernel
theorem dX12_fits_115 : decode cX12_fits 115 = .ok (.lconst 0, 1) := by decide +kernel
theorem dX12_fits_116 : decode cX12_fits 116 = .ok (.lcmp, 1) := by decide +kernel
theorem dX12_fits_117 : decode cX12_fits 117 = .ok (.ifCond .eq 5, 3) := by decide +kernel
theorem dX12_fits_120 : decode cX12_fits 120 = .ok (.iconst 0, 1) := by decide +kernel
theorem dX12_fits_121 : decode cX12_fits 121 = .ok (.ireturn, 1) := by decide +kernel
theorem dX12_fits_122 : decode cX12_fits 122 = .ok (.iinc 2 1, 3) := by decide +kernel
theorem dX12_fits_125 : decode cX12_fits 125 = .ok (.goto (-123), 3) := by decide +kernel
theorem dX12_fits_128 : decode cX12_fits 128 = .ok (.iconst 1, 1) := by decide +kernel
theorem dX12_fits_129 : decode cX12_fits 129 = .ok (.ireturn, 1) := by decide +kernel
theorem dX12_findsPoints_0 : decode cX12_findsPoints 0 = .ok (.aload_n 0, 1) := by decide +kernel
theorem dX12_findsPoints_1 : decode cX12_findsPoints 1 = .ok (.iload_n 1, 1) := by decide +kernel
theorem dX12_findsPoints_2 : decode cX12_findsPoints 2 = .ok (.iload_n 2, 1) := by decide +kernel
theorem dX12_findsPoints_3 : decode cX12_findsPoints 3 = .ok (.iconst 0, 1) := by decide +kernel
theorem dX12_findsPoints_4 : decode cX12_findsPoints 4 = .ok (.invokevirtual 239, 3) := by decide +kernel
theorem dX12_findsPoints_7 : decode cX12_findsPoints 7 = .ok (.aload_n 0, 1) := by decide +kernel
theorem dX12_findsPoints_8 : decode cX12_findsPoints 8 = .ok (.iconst 0, 1) := by decide +kernel
theorem dX12_findsPoints_9 : decode cX12_findsPoints 9 = .ok (.putfield 111, 3) := by decide +kernel
theorem dX12_findsPoints_12 : decode cX12_findsPoints 12 = .ok (.iconst 0, 1) := by decide +kernel
theorem dX12_findsPoints_13 : decode cX12_findsPoints 13 = .ok (.istore_n 3, 1) := by decide +kernel
theorem dX12_findsPoints_14 : decode cX12_findsPoints 14 = .ok (.iload_n 3, 1) := by decide +kernel
theorem dX12_findsPoints_15 : decode cX12_findsPoints 15 = .ok (.aload_n 0, 1) := by decide +kernel
theorem dX12_findsPoints_16 : decode cX12_findsPoints 16 = .ok (.getfield 108, 3) := by decide +kernel
theorem dX12_findsPoints_19 : decode cX12_findsPoints 19 = .ok (.if_icmp .ge 147, 3) := by decide +kernel
theorem dX12_findsPoints_22 : decode cX12_findsPoints 22 = .ok (.iload_n 3, 1) := by decide +kernel
theorem dX12_findsPoints_23 : decode cX12_findsPoints 23 = .ok (.iconst 1, 1) := by decide +kernel
theorem dX12_findsPoints_24 : decode cX12_findsPoints 24 = .ok (.iadd, 1) := by decide +kernel
theorem dX12_findsPoints_25 : decode cX12_findsPoints 25 = .ok (.istore 4, 2) := by decide +kernel
theorem dX12_findsPoints_27 : decode cX12_findsPoints 27 = .ok (.iload 4, 2) := by decide +kernel
theorem dX12_findsPoints_29 : decode cX12_findsPoints 29 = .ok (.aload_n 0, 1) := by decide +kernel
theorem dX12_findsPoints_30 : decode cX12_findsPoints 30 = .ok (.getfield 108, 3) := by decide +kernel
theorem dX12_findsPoints_33 : decode cX12_findsPoints 33 = .ok (.if_icmp .ge 127, 3) := by decide +kernel
theorem dX12_findsPoints_36 : decode cX12_findsPoints 36 = .ok (.iload 4, 2) := by decide +kernel
theorem dX12_findsPoints_38 : decode cX12_findsPoints 38 = .ok (.iconst 1, 1) := by decide +kernel
theorem dX12_findsPoints_39 : decode cX12_findsPoints 39 = .ok (.iadd, 1) := by decide +kernel
theorem dX12_findsPoints_40 : decode cX12_findsPoints 40 = .ok (.istore 5, 2) := by decide +kernel
theorem dX12_findsPoints_42 : decode cX12_findsPoints 42 = .ok (.iload 5, 2) := by decide +kernel
theorem dX12_findsPoints_44 : decode cX12_findsPoints 44 = .ok (.aload_n 0, 1) := by decide +kernel
theorem dX12_findsPoints_45 : decode cX12_findsPoints 45 = .ok (.getfield 108, 3) := by decide +kernel
theorem dX12_findsPoints_48 : decode cX12_findsPoints 48 = .ok (.if_icmp .ge 106, 3) := by decide +kernel
theorem dX12_findsPoints_51 : decode cX12_findsPoints 51 = .ok (.aload_n 0, 1) := by decide +kernel
theorem dX12_findsPoints_52 : decode cX12_findsPoints 52 = .ok (.iload_n 3, 1) := by decide +kernel
theorem dX12_findsPoints_53 : decode cX12_findsPoints 53 = .ok (.iload 4, 2) := by decide +kernel
theorem dX12_findsPoints_55 : decode cX12_findsPoints 55 = .ok (.iload 5, 2) := by decide +kernel
theorem dX12_findsPoints_57 : decode cX12_findsPoints 57 = .ok (.invokevirtual 243, 3) := by decide +kernel
theorem dX12_findsPoints_60 : decode cX12_findsPoints 60 = .ok (.ifCond .eq 88, 3) := by decide +kernel
theorem dX12_findsPoints_63 : decode cX12_findsPoints 63 = .ok (.aload_n 0, 1) := by decide +kernel
theorem dX12_findsPoints_64 : decode cX12_findsPoints 64 = .ok (.aload_n 0, 1) := by decide +kernel
theorem dX12_findsPoints_65 : decode cX12_findsPoints 65 = .ok (.getfield 108, 3) := by decide +kernel
theorem dX12_findsPoints_68 : decode cX12_findsPoints 68 = .ok (.invokevirtual 246, 3) := by decide +kernel
theorem dX12_findsPoints_71 : decode cX12_findsPoints 71 = .ok (.ifCond .ne 6, 3) := by decide +kernel
theorem dX12_findsPoints_74 : decode cX12_findsPoints 74 = .ok (.goto 74, 3) := by decide +kernel
theorem dX12_findsPoints_77 : decode cX12_findsPoints 77 = .ok (.iconst 0, 1) := by decide +kernel
theorem dX12_findsPoints_78 : decode cX12_findsPoints 78 = .ok (.istore 6, 2) := by decide +kernel
theorem dX12_findsPoints_80 : decode cX12_findsPoints 80 = .ok (.iload 6, 2) := by decide +kernel
theorem dX12_findsPoints_82 : decode cX12_findsPoints 82 = .ok (.iconst 3, 1) := by decide +kernel
theorem dX12_findsPoints_83 : decode cX12_findsPoints 83 = .ok (.if_icmp .ge 30, 3) := by decide +kernel
theorem dX12_findsPoints_86 : decode cX12_findsPoints 86 = .ok (.aload_n 0, 1) := by decide +kernel
theorem dX12_findsPoints_87 : decode cX12_findsPoints 87 = .ok (.getfield 78, 3) := by decide +kernel
theorem dX12_findsPoints_90 : decode cX12_findsPoints 90 = .ok (.iconst 3, 1) := by decide +kernel
theorem dX12_findsPoints_91 : decode cX12_findsPoints 91 = .ok (.aload_n 0, 1) := by decide +kernel
theorem dX12_findsPoints_92 : decode cX12_findsPoints 92 = .ok (.getfield 111, 3) := by decide +kernel
theorem dX12_findsPoints_95 : decode cX12_findsPoints 95 = .ok (.imul, 1) := by decide +kernel
theorem dX12_findsPoints_96 : decode cX12_findsPoints 96 = .ok (.iload 6, 2) := by decide +kernel
theorem dX12_findsPoints_98 : decode cX12_findsPoints 98 = .ok (.iadd, 1) := by decide +kernel
theorem dX12_findsPoints_99 : decode cX12_findsPoints 99 = .ok (.aload_n 0, 1) := by decide +kernel
theorem dX12_findsPoints_100 : decode cX12_findsPoints 100 = .ok (.getfield 96, 3) := by decide +kernel
theorem dX12_findsPoints_103 : decode cX12_findsPoints 103 = .ok (.iload 6, 2) := by decide +kernel
theorem dX12_findsPoints_105 : decode cX12_findsPoints 105 = .ok (.laload, 1) := by decide +kernel
theorem dX12_findsPoints_106 : decode cX12_findsPoints 106 = .ok (.lastore, 1) := by decide +kernel
theorem dX12_findsPoints_107 : decode cX12_findsPoints 107 = .ok (.iinc 6 1, 3) := by decide +kernel
theorem dX12_findsPoints_110 : decode cX12_findsPoints 110 = .ok (.goto (-30), 3) := by decide +kernel
theorem dX12_findsPoints_113 : decode cX12_findsPoints 113 = .ok (.aload_n 0, 1) := by decide +kernel
theorem dX12_findsPoints_114 : decode cX12_findsPoints 114 = .ok (.getfield 81, 3) := by decide +kernel
theorem dX12_findsPoints_117 : decode cX12_findsPoints 117 = .ok (.aload_n 0, 1) := by decide +kernel
theorem dX12_findsPoints_118 : decode cX12_findsPoints 118 = .ok (.getfield 111, 3) := by decide +kernel
theorem dX12_findsPoints_121 : decode cX12_findsPoints 121 = .ok (.aload_n 0, 1) := by decide +kernel
theorem dX12_findsPoints_122 : decode cX12_findsPoints 122 = .ok (.getfield 96, 3) := by decide +kernel
theorem dX12_findsPoints_125 : decode cX12_findsPoints 125 = .ok (.iconst 3, 1) := by decide +kernel
theorem dX12_findsPoints_126 : decode cX12_findsPoints 126 = .ok (.laload, 1) := by decide +kernel
theorem dX12_findsPoints_127 : decode cX12_findsPoints 127 = .ok (.lastore, 1) := by decide +kernel
theorem dX12_findsPoints_128 : decode cX12_findsPoints 128 = .ok (.aload_n 0, 1) := by decide +kernel
theorem dX12_findsPoints_129 : decode cX12_findsPoints 129 = .ok (.getfield 90, 3) := by decide +kernel
theorem dX12_findsPoints_132 : decode cX12_findsPoints 132 = .ok (.aload_n 0, 1) := by decide +kernel
theorem dX12_findsPoints_133 : decode cX12_findsPoints 133 = .ok (.getfield 111, 3) := by decide +kernel
theorem dX12_findsPoints_136 : decode cX12_findsPoints 136 = .ok (.iconst 1, 1) := by decide +kernel
theorem dX12_findsPoints_137 : decode cX12_findsPoints 137 = .ok (.bastore, 1) := by decide +kernel
theorem dX12_findsPoints_138 : decode cX12_findsPoints 138 = .ok (.aload_n 0, 1) := by decide +kernel
theorem dX12_findsPoints_139 : decode cX12_findsPoints 139 = .ok (.dup, 1) := by decide +kernel
theorem dX12_findsPoints_140 : decode cX12_findsPoints 140 = .ok (.getfield 111, 3) := by decide +kernel
theorem dX12_findsPoints_143 : decode cX12_findsPoints 143 = .ok (.iconst 1, 1) := by decide +kernel
theorem dX12_findsPoints_144 : decode cX12_findsPoints 144 = .ok (.iadd, 1) := by decide +kernel
theorem dX12_findsPoints_145 : decode cX12_findsPoints 145 = .ok (.putfield 111, 3) := by decide +kernel
theorem dX12_findsPoints_148 : decode cX12_findsPoints 148 = .ok (.iinc 5 1, 3) := by decide +kernel
theorem dX12_findsPoints_151 : decode cX12_findsPoints 151 = .ok (.goto (-109), 3) := by decide +kernel
theorem dX12_findsPoints_154 : decode cX12_findsPoints 154 = .ok (.iinc 4 1, 3) := by decide +kernel
theorem dX12_findsPoints_157 : decode cX12_findsPoints 157 = .ok (.goto (-130), 3) := by decide +kernel
theorem dX12_findsPoints_160 : decode cX12_findsPoints 160 = .ok (.iinc 3 1, 3) := by decide +kernel
theorem dX12_findsPoints_163 : decode cX12_findsPoints 163 = .ok (.goto (-149), 3) := by decide +kernel
theorem dX12_findsPoints_166 : decode cX12_findsPoints 166 = .ok (.return_, 1) := by decide +kernel
theorem dX12_findsRays_0 : decode cX12_findsRays 0 = .ok (.aload_n 0, 1) := by decide +kernel
theorem dX12_findsRays_1 : decode cX12_findsRays 1 = .ok (.iload_n 1, 1) := by decide +kernel
theorem dX12_findsRays_2 : decode cX12_findsRays 2 = .ok (.iconst (-1), 1) := by decide +kernel
theorem dX12_findsRays_3 : decode cX12_findsRays 3 = .ok (.iconst 1, 1) := by decide +kernel
theorem dX12_findsRays_4 : decode cX12_findsRays 4 = .ok (.invokevirtual 239, 3) := by decide +kernel
theorem dX12_findsRays_7 : decode cX12_findsRays 7 = .ok (.aload_n 0, 1) := by decide +kernel
theorem dX12_findsRays_8 : decode cX12_findsRays 8 = .ok (.iconst 0, 1) := by decide +kernel
theorem dX12_findsRays_9 : decode cX12_findsRays 9 = .ok (.putfield 114, 3) := by decide +kernel
theorem dX12_findsRays_12 : decode cX12_findsRays 12 = .ok (.aload_n 0, 1) := by decide +kernel
theorem dX12_findsRays_13 : decode cX12_findsRays 13 = .ok (.getfield 108, 3) := by decide +kernel
theorem dX12_findsRays_16 : decode cX12_findsRays 16 = .ok (.istore_n 2, 1) := by decide +kernel
theorem dX12_findsRays_17 : decode cX12_findsRays 17 = .ok (.aload_n 0, 1) := by decide +kernel
theorem dX12_findsRays_18 : decode cX12_findsRays 18 = .ok (.lconst 1, 1) := by decide +kernel
theorem dX12_findsRays_19 : decode cX12_findsRays 19 = .ok (.lconst 1, 1) := by decide +kernel
theorem dX12_findsRays_20 : decode cX12_findsRays 20 = .ok (.lconst 1, 1) := by decide +kernel
theorem dX12_findsRays_21 : decode cX12_findsRays 21 = .ok (.iconst 2, 1) := by decide +kernel
theorem dX12_findsRays_22 : decode cX12_findsRays 22 = .ok (.lconst 1, 1) := by decide +kernel
theorem dX12_findsRays_23 : decode cX12_findsRays 23 = .ok (.invokevirtual 225, 3) := by decide +kernel
theorem dX12_findsRays_26 : decode cX12_findsRays 26 = .ok (.iconst 0, 1) := by decide +kernel
theorem dX12_findsRays_27 : decode cX12_findsRays 27 = .ok (.istore_n 3, 1) := by decide +kernel
theorem dX12_findsRays_28 : decode cX12_findsRays 28 = .ok (.iload_n 3, 1) := by decide +kernel
theorem dX12_findsRays_29 : decode cX12_findsRays 29 = .ok (.iload_n 2, 1) := by decide +kernel
theorem dX12_findsRays_30 : decode cX12_findsRays 30 = .ok (.if_icmp .ge 104, 3) := by decide +kernel
theorem dX12_findsRays_33 : decode cX12_findsRays 33 = .ok (.iload_n 3, 1) := by decide +kernel
theorem dX12_findsRays_34 : decode cX12_findsRays 34 = .ok (.iconst 1, 1) := by decide +kernel
theorem dX12_findsRays_35 : decode cX12_findsRays 35 = .ok (.iadd, 1) := by decide +kernel
theorem dX12_findsRays_36 : decode cX12_findsRays 36 = .ok (.istore 4, 2) := by decide +kernel
theorem dX12_findsRays_38 : decode cX12_findsRays 38 = .ok (.iload 4, 2) := by decide +kernel
theorem dX12_findsRays_40 : decode cX12_findsRays 40 = .ok (.iload_n 2, 1) := by decide +kernel
theorem dX12_findsRays_41 : decode cX12_findsRays 41 = .ok (.if_icmp .ge 87, 3) := by decide +kernel
theorem dX12_findsRays_44 : decode cX12_findsRays 44 = .ok (.aload_n 0, 1) := by decide +kernel
theorem dX12_findsRays_45 : decode cX12_findsRays 45 = .ok (.iload_n 3, 1) := by decide +kernel
theorem dX12_findsRays_46 : decode cX12_findsRays 46 = .ok (.iload 4, 2) := by decide +kernel
theorem dX12_findsRays_48 : decode cX12_findsRays 48 = .ok (.iload_n 2, 1) := by decide +kernel
theorem dX12_findsRays_49 : decode cX12_findsRays 49 = .ok (.invokevirtual 243, 3) := by decide +kernel
theorem dX12_findsRays_52 : decode cX12_findsRays 52 = .ok (.ifCond .eq 70, 3) := by decide +kernel
theorem dX12_findsRays_55 : decode cX12_findsRays 55 = .ok (.aload_n 0, 1) := by decide +kernel
theorem dX12_findsRays_56 : decode cX12_findsRays 56 = .ok (.iload_n 2, 1) := by decide +kernel
theorem dX12_findsRays_57 : decode cX12_findsRays 57 = .ok (.invokevirtual 246, 3) := by decide +kernel
theorem dX12_findsRays_60 : decode cX12_findsRays 60 = .ok (.ifCond .ne 6, 3) := by decide +kernel
theorem dX12_findsRays_63 : decode cX12_findsRays 63 = .ok (.goto 59, 3) := by decide +kernel
theorem dX12_findsRays_66 : decode cX12_findsRays 66 = .ok (.iconst 0, 1) := by decide +kernel
theorem dX12_findsRays_67 : decode cX12_findsRays 67 = .ok (.istore 5, 2) := by decide +kernel
theorem dX12_findsRays_69 : decode cX12_findsRays 69 = .ok (.iload 5, 2) := by decide +kernel
theorem dX12_findsRays_71 : decode cX12_findsRays 71 = .ok (.iconst 3, 1) := by decide +kernel
theorem dX12_findsRays_72 : decode cX12_findsRays 72 = .ok (.if_icmp .ge 30, 3) := by decide +kernel
theorem dX12_findsRays_75 : decode cX12_findsRays 75 = .ok (.aload_n 0, 1) := by decide +kernel
theorem dX12_findsRays_76 : decode cX12_findsRays 76 = .ok (.getfield 84, 3) := by decide +kernel
theorem dX12_findsRays_79 : decode cX12_findsRays 79 = .ok (.iconst 3, 1) := by decide +kernel
theorem dX12_findsRays_80 : decode cX12_findsRays 80 = .ok (.aload_n 0, 1) := by decide +kernel
theorem dX12_findsRays_81 : decode cX12_findsRays 81 = .ok (.getfield 114, 3) := by decide +kernel
theorem dX12_findsRays_84 : decode cX12_findsRays 84 = .ok (.imul, 1) := by decide +kernel
theorem dX12_findsRays_85 : decode cX12_findsRays 85 = .ok (.iload 5, 2) := by decide +kernel
theorem dX12_findsRays_87 : decode cX12_findsRays 87 = .ok (.iadd, 1) := by decide +kernel
theorem dX12_findsRays_88 : decode cX12_findsRays 88 = .ok (.aload_n 0, 1) := by decide +kernel
theorem dX12_findsRays_89 : decode cX12_findsRays 89 = .ok (.getfield 96, 3) := by decide +kernel
theorem dX12_findsRays_92 : decode cX12_findsRays 92 = .ok (.iload 5, 2) := by decide +kernel
theorem dX12_findsRays_94 : decode cX12_findsRays 94 = .ok (.laload, 1) := by decide +kernel
theorem dX12_findsRays_95 : decode cX12_findsRays 95 = .ok (.lastore, 1) := by decide +kernel
theorem dX12_findsRays_96 : decode cX12_findsRays 96 = .ok (.iinc 5 1, 3) := by decide +kernel
theorem dX12_findsRays_99 : decode cX12_findsRays 99 = .ok (.goto (-30), 3) := by decide +kernel
theorem dX12_findsRays_102 : decode cX12_findsRays 102 = .ok (.aload_n 0, 1) := by decide +kernel
theorem dX12_findsRays_103 : decode cX12_findsRays 103 = .ok (.getfield 93, 3) := by decide +kernel
theorem dX12_findsRays_106 : decode cX12_findsRays 106 = .ok (.aload_n 0, 1) := by decide +kernel
theorem dX12_findsRays_107 : decode cX12_findsRays 107 = .ok (.getfield 114, 3) := by decide +kernel
theorem dX12_findsRays_110 : decode cX12_findsRays 110 = .ok (.iconst 1, 1) := by decide +kernel
theorem dX12_findsRays_111 : decode cX12_findsRays 111 = .ok (.bastore, 1) := by decide +kernel
theorem dX12_findsRays_112 : decode cX12_findsRays 112 = .ok (.aload_n 0, 1) := by decide +kernel
theorem dX12_findsRays_113 : decode cX12_findsRays 113 = .ok (.dup, 1) := by decide +kernel
theorem dX12_findsRays_114 : decode cX12_findsRays 114 = .ok (.getfield 114, 3) := by decide +kernel
theorem dX12_findsRays_117 : decode cX12_findsRays 117 = .ok (.iconst 1, 1) := by decide +kernel
theorem dX12_findsRays_118 : decode cX12_findsRays 118 = .ok (.iadd, 1) := by decide +kernel
theorem dX12_findsRays_119 : decode cX12_findsRays 119 = .ok (.putfield 114, 3) := by decide +kernel
theorem dX12_findsRays_122 : decode cX12_findsRays 122 = .ok (.iinc 4 1, 3) := by decide +kernel
theorem dX12_findsRays_125 : decode cX12_findsRays 125 = .ok (.goto (-87), 3) := by decide +kernel
theorem dX12_findsRays_128 : decode cX12_findsRays 128 = .ok (.iinc 3 1, 3) := by decide +kernel
theorem dX12_findsRays_131 : decode cX12_findsRays 131 = .ok (.goto (-103), 3) := by decide +kernel
theorem dX12_findsRays_134 : decode cX12_findsRays 134 = .ok (.return_, 1) := by decide +kernel
theorem dX12_gain_0 : decode cX12_gain 0 = .ok (.lconst 0, 1) := by decide +kernel
theorem dX12_gain_1 : decode cX12_gain 1 = .ok (.lstore_n 3, 1) := by decide +kernel
theorem dX12_gain_2 : decode cX12_gain 2 = .ok (.iconst 0, 1) := by decide +kernel
theorem dX12_gain_3 : decode cX12_gain 3 = .ok (.istore 5, 2) := by decide +kernel
theorem dX12_gain_5 : decode cX12_gain 5 = .ok (.iload 5, 2) := by decide +kernel
theorem dX12_gain_7 : decode cX12_gain 7 = .ok (.iconst 3, 1) := by decide +kernel
theorem dX12_gain_8 : decode cX12_gain 8 = .ok (.if_icmp .ge 36, 3) := by decide +kernel
theorem dX12_gain_11 : decode cX12_gain 11 = .ok (.lload_n 3, 1) := by decide +kernel
theorem dX12_gain_12 : decode cX12_gain 12 = .ok (.aload_n 0, 1) := by decide +kernel
theorem dX12_gain_13 : decode cX12_gain 13 = .ok (.getfield 25, 3) := by decide +kernel
theorem dX12_gain_16 : decode cX12_gain 16 = .ok (.iconst 3, 1) := by decide +kernel
theorem dX12_gain_17 : decode cX12_gain 17 = .ok (.iload_n 1, 1) := by decide +kernel
theorem dX12_gain_18 : decode cX12_gain 18 = .ok (.imul, 1) := by decide +kernel
theorem dX12_gain_19 : decode cX12_gain 19 = .ok (.iload 5, 2) := by decide +kernel
theorem dX12_gain_21 : decode cX12_gain 21 = .ok (.iadd, 1) := by decide +kernel
theorem dX12_gain_22 : decode cX12_gain 22 = .ok (.iaload, 1) := by decide +kernel
theorem dX12_gain_23 : decode cX12_gain 23 = .ok (.i2l, 1) := by decide +kernel
theorem dX12_gain_24 : decode cX12_gain 24 = .ok (.aload_n 0, 1) := by decide +kernel
theorem dX12_gain_25 : decode cX12_gain 25 = .ok (.getfield 84, 3) := by decide +kernel
theorem dX12_gain_28 : decode cX12_gain 28 = .ok (.iconst 3, 1) := by decide +kernel
theorem dX12_gain_29 : decode cX12_gain 29 = .ok (.iload_n 2, 1) := by decide +kernel
theorem dX12_gain_30 : decode cX12_gain 30 = .ok (.imul, 1) := by decide +kernel
theorem dX12_gain_31 : decode cX12_gain 31 = .ok (.iload 5, 2) := by decide +kernel
theorem dX12_gain_33 : decode cX12_gain 33 = .ok (.iadd, 1) := by decide +kernel
theorem dX12_gain_34 : decode cX12_gain 34 = .ok (.laload, 1) := by decide +kernel
theorem dX12_gain_35 : decode cX12_gain 35 = .ok (.lmul, 1) := by decide +kernel
theorem dX12_gain_36 : decode cX12_gain 36 = .ok (.ladd, 1) := by decide +kernel
theorem dX12_gain_37 : decode cX12_gain 37 = .ok (.lstore_n 3, 1) := by decide +kernel
theorem dX12_gain_38 : decode cX12_gain 38 = .ok (.iinc 5 1, 3) := by decide +kernel
theorem dX12_gain_41 : decode cX12_gain 41 = .ok (.goto (-36), 3) := by decide +kernel
theorem dX12_gain_44 : decode cX12_gain 44 = .ok (.aload_n 0, 1) := by decide +kernel
theorem dX12_gain_45 : decode cX12_gain 45 = .ok (.getfield 32, 3) := by decide +kernel
theorem dX12_gain_48 : decode cX12_gain 48 = .ok (.iload_n 1, 1) := by decide +kernel
theorem dX12_gain_49 : decode cX12_gain 49 = .ok (.baload, 1) := by decide +kernel
theorem dX12_gain_50 : decode cX12_gain 50 = .ok (.ifCond .eq 7, 3) := by decide +kernel
theorem dX12_gain_53 : decode cX12_gain 53 = .ok (.lload_n 3, 1) := by decide +kernel
theorem dX12_gain_54 : decode cX12_gain 54 = .ok (.goto 5, 3) := by decide +kernel
theorem dX12_gain_57 : decode cX12_gain 57 = .ok (.lload_n 3, 1) := by decide +kernel
theorem dX12_gain_58 : decode cX12_gain 58 = .ok (.lneg, 1) := by decide +kernel
theorem dX12_gain_59 : decode cX12_gain 59 = .ok (.lreturn, 1) := by decide +kernel
theorem dX12_top_0 : decode cX12_top 0 = .ok (.lconst 0, 1) := by decide +kernel
theorem dX12_top_1 : decode cX12_top 1 = .ok (.lstore_n 3, 1) := by decide +kernel
theorem dX12_top_2 : decode cX12_top 2 = .ok (.iconst 0, 1) := by decide +kernel
theorem dX12_top_3 : decode cX12_top 3 = .ok (.istore 5, 2) := by decide +kernel
theorem dX12_top_5 : decode cX12_top 5 = .ok (.iload 5, 2) := by decide +kernel
theorem dX12_top_7 : decode cX12_top 7 = .ok (.iconst 3, 1) := by decide +kernel
theorem dX12_top_8 : decode cX12_top 8 = .ok (.if_icmp .ge 36, 3) := by decide +kernel
theorem dX12_top_11 : decode cX12_top 11 = .ok (.lload_n 3, 1) := by decide +kernel
theorem dX12_top_12 : decode cX12_top 12 = .ok (.aload_n 0, 1) := by decide +kernel
theorem dX12_top_13 : decode cX12_top 13 = .ok (.getfield 25, 3) := by decide +kernel
theorem dX12_top_16 : decode cX12_top 16 = .ok (.iconst 3, 1) := by decide +kernel
theorem dX12_top_17 : decode cX12_top 17 = .ok (.iload_n 1, 1) := by decide +kernel
theorem dX12_top_18 : decode cX12_top 18 = .ok (.imul, 1) := by decide +kernel
theorem dX12_top_19 : decode cX12_top 19 = .ok (.iload 5, 2) := by decide +kernel
theorem dX12_top_21 : decode cX12_top 21 = .ok (.iadd, 1) := by decide +kernel
theorem dX12_top_22 : decode cX12_top 22 = .ok (.iaload, 1) := by decide +kernel
theorem dX12_top_23 : decode cX12_top 23 = .ok (.i2l, 1) := by decide +kernel
theorem dX12_top_24 : decode cX12_top 24 = .ok (.aload_n 0, 1) := by decide +kernel
theorem dX12_top_25 : decode cX12_top 25 = .ok (.getfield 78, 3) := by decide +kernel
theorem dX12_top_28 : decode cX12_top 28 = .ok (.iconst 3, 1) := by decide +kernel
theorem dX12_top_29 : decode cX12_top 29 = .ok (.iload_n 2, 1) := by decide +kernel
theorem dX12_top_30 : decode cX12_top 30 = .ok (.imul, 1) := by decide +kernel
theorem dX12_top_31 : decode cX12_top 31 = .ok (.iload 5, 2) := by decide +kernel
theorem dX12_top_33 : decode cX12_top 33 = .ok (.iadd, 1) := by decide +kernel
theorem dX12_top_34 : decode cX12_top 34 = .ok (.laload, 1) := by decide +kernel
theorem dX12_top_35 : decode cX12_top 35 = .ok (.lmul, 1) := by decide +kernel
theorem dX12_top_36 : decode cX12_top 36 = .ok (.ladd, 1) := by decide +kernel
theorem dX12_top_37 : decode cX12_top 37 = .ok (.lstore_n 3, 1) := by decide +kernel
theorem dX12_top_38 : decode cX12_top 38 = .ok (.iinc 5 1, 3) := by decide +kernel
theorem dX12_top_41 : decode cX12_top 41 = .ok (.goto (-36), 3) := by decide +kernel
theorem dX12_top_44 : decode cX12_top 44 = .ok (.lload_n 3, 1) := by decide +kernel
theorem dX12_top_45 : decode cX12_top 45 = .ok (.lreturn, 1) := by decide +kernel
theorem dX12_isOpenFor_0 : decode cX12_isOpenFor 0 = .ok (.iconst 0, 1) := by decide +kernel
theorem dX12_isOpenFor_1 : decode cX12_isOpenFor 1 = .ok (.istore_n 2, 1) := by decide +kernel
theorem dX12_isOpenFor_2 : decode cX12_isOpenFor 2 = .ok (.iload_n 2, 1) := by decide +kernel
theorem dX12_isOpenFor_3 : decode cX12_isOpenFor 3 = .ok (.aload_n 0, 1) := by decide +kernel
theorem dX12_isOpenFor_4 : decode cX12_isOpenFor 4 = .ok (.getfield 114, 3) := by decide +kernel
theorem dX12_isOpenFor_7 : decode cX12_isOpenFor 7 = .ok (.if_icmp .ge 31, 3) := by decide +kernel
theorem dX12_isOpenFor_10 : decode cX12_isOpenFor 10 = .ok (.aload_n 0, 1) := by decide +kernel
theorem dX12_isOpenFor_11 : decode cX12_isOpenFor 11 = .ok (.getfield 93, 3) := by decide +kernel
theorem dX12_isOpenFor_14 : decode cX12_isOpenFor 14 = .ok (.iload_n 2, 1) := by decide +kernel
theorem dX12_isOpenFor_15 : decode cX12_isOpenFor 15 = .ok (.baload, 1) := by decide +kernel
theorem dX12_isOpenFor_16 : decode cX12_isOpenFor 16 = .ok (.ifCond .eq 16, 3) := by decide +kernel
theorem dX12_isOpenFor_19 : decode cX12_isOpenFor 19 = .ok (.aload_n 0, 1) := by decide +kernel
theorem dX12_isOpenFor_20 : decode cX12_isOpenFor 20 = .ok (.iload_n 1, 1) := by decide +kernel
theorem dX12_isOpenFor_21 : decode cX12_isOpenFor 21 = .ok (.iload_n 2, 1) := by decide +kernel
theorem dX12_isOpenFor_22 : decode cX12_isOpenFor 22 = .ok (.invokevirtual 249, 3) := by decide +kernel
theorem dX12_isOpenFor_25 : decode cX12_isOpenFor 25 = .ok (.lconst 0, 1) := by decide +kernel
theorem dX12_isOpenFor_26 : decode cX12_isOpenFor 26 = .ok (.lcmp, 1) := by decide +kernel
theorem dX12_isOpenFor_27 : decode cX12_isOpenFor 27 = .ok (.ifCond .le 5, 3) := by decide +kernel
theorem dX12_isOpenFor_30 : decode cX12_isOpenFor 30 = .ok (.iconst 1, 1) := by decide +kernel
theorem dX12_isOpenFor_31 : decode cX12_isOpenFor 31 = .ok (.ireturn, 1) := by decide +kernel
theorem dX12_isOpenFor_32 : decode cX12_isOpenFor 32 = .ok (.iinc 2 1, 3) := by decide +kernel
theorem dX12_isOpenFor_35 : decode cX12_isOpenFor 35 = .ok (.goto (-33), 3) := by decide +kernel
theorem dX12_isOpenFor_38 : decode cX12_isOpenFor 38 = .ok (.iconst 0, 1) := by decide +kernel
theorem dX12_isOpenFor_39 : decode cX12_isOpenFor 39 = .ok (.ireturn, 1) := by decide +kernel
theorem dX12_divisor_0 : decode cX12_divisor 0 = .ok (.lload_n 0, 1) := by decide +kernel
theorem dX12_divisor_1 : decode cX12_divisor 1 = .ok (.lconst 0, 1) := by decide +kernel
theorem dX12_divisor_2 : decode cX12_divisor 2 = .ok (.lcmp, 1) := by decide +kernel
theorem dX12_divisor_3 : decode cX12_divisor 3 = .ok (.ifCond .ge 8, 3) := by decide +kernel
theorem dX12_divisor_6 : decode cX12_divisor 6 = .ok (.lload_n 0, 1) := by decide +kernel
theorem dX12_divisor_7 : decode cX12_divisor 7 = .ok (.lneg, 1) := by decide +kernel
theorem dX12_divisor_8 : decode cX12_divisor 8 = .ok (.goto 4, 3) := by decide +kernel
theorem dX12_divisor_11 : decode cX12_divisor 11 = .ok (.lload_n 0, 1) := by decide +kernel
theorem dX12_divisor_12 : decode cX12_divisor 12 = .ok (.lstore 4, 2) := by decide +kernel
theorem dX12_divisor_14 : decode cX12_divisor 14 = .ok (.lload_n 2, 1) := by decide +kernel
theorem dX12_divisor_15 : decode cX12_divisor 15 = .ok (.lstore 6, 2) := by decide +kernel
theorem dX12_divisor_17 : decode cX12_divisor 17 = .ok (.lload 6, 2) := by decide +kernel
theorem dX12_divisor_19 : decode cX12_divisor 19 = .ok (.lconst 0, 1) := by decide +kernel
theorem dX12_divisor_20 : decode cX12_divisor 20 = .ok (.lcmp, 1) := by decide +kernel
theorem dX12_divisor_21 : decode cX12_divisor 21 = .ok (.ifCond .le 21, 3) := by decide +kernel
theorem dX12_divisor_24 : decode cX12_divisor 24 = .ok (.lload 4, 2) := by decide +kernel
theorem dX12_divisor_26 : decode cX12_divisor 26 = .ok (.lload 6, 2) := by decide +kernel
theorem dX12_divisor_28 : decode cX12_divisor 28 = .ok (.lrem, 1) := by decide +kernel
theorem dX12_divisor_29 : decode cX12_divisor 29 = .ok (.lstore 8, 2) := by decide +kernel
theorem dX12_divisor_31 : decode cX12_divisor 31 = .ok (.lload 6, 2) := by decide +kernel
theorem dX12_divisor_33 : decode cX12_divisor 33 = .ok (.lstore 4, 2) := by decide +kernel
theorem dX12_divisor_35 : decode cX12_divisor 35 = .ok (.lload 8, 2) := by decide +kernel
theorem dX12_divisor_37 : decode cX12_divisor 37 = .ok (.lstore 6, 2) := by decide +kernel
theorem dX12_divisor_39 : decode cX12_divisor 39 = .ok (.goto (-22), 3) := by decide +kernel
theorem dX12_divisor_42 : decode cX12_divisor 42 = .ok (.lload 4, 2) := by decide +kernel
theorem dX12_divisor_44 : decode cX12_divisor 44 = .ok (.lreturn, 1) := by decide +kernel
theorem dX12_better_0 : decode cX12_better 0 = .ok (.aload_n 0, 1) := by decide +kernel
theorem dX12_better_1 : decode cX12_better 1 = .ok (.iload_n 1, 1) := by decide +kernel
theorem dX12_better_2 : decode cX12_better 2 = .ok (.iload_n 2, 1) := by decide +kernel
theorem dX12_better_3 : decode cX12_better 3 = .ok (.invokevirtual 253, 3) := by decide +kernel
theorem dX12_better_6 : decode cX12_better 6 = .ok (.aload_n 0, 1) := by decide +kernel
theorem dX12_better_7 : decode cX12_better 7 = .ok (.getfield 81, 3) := by decide +kernel
theorem dX12_better_10 : decode cX12_better 10 = .ok (.iload_n 3, 1) := by decide +kernel
theorem dX12_better_11 : decode cX12_better 11 = .ok (.laload, 1) := by decide +kernel
theorem dX12_better_12 : decode cX12_better 12 = .ok (.lmul, 1) := by decide +kernel
theorem dX12_better_13 : decode cX12_better 13 = .ok (.aload_n 0, 1) := by decide +kernel
theorem dX12_better_14 : decode cX12_better 14 = .ok (.iload_n 1, 1) := by decide +kernel
theorem dX12_better_15 : decode cX12_better 15 = .ok (.iload_n 3, 1) := by decide +kernel
theorem dX12_better_16 : decode cX12_better 16 = .ok (.invokevirtual 253, 3) := by decide +kernel
theorem dX12_better_19 : decode cX12_better 19 = .ok (.aload_n 0, 1) := by decide +kernel
theorem dX12_better_20 : decode cX12_better 20 = .ok (.getfield 81, 3) := by decide +kernel
theorem dX12_better_23 : decode cX12_better 23 = .ok (.iload_n 2, 1) := by decide +kernel
theorem dX12_better_24 : decode cX12_better 24 = .ok (.laload, 1) := by decide +kernel
theorem dX12_better_25 : decode cX12_better 25 = .ok (.lmul, 1) := by decide +kernel
theorem dX12_better_26 : decode cX12_better 26 = .ok (.lsub, 1) := by decide +kernel
theorem dX12_better_27 : decode cX12_better 27 = .ok (.lstore 4, 2) := by decide +kernel
theorem dX12_better_29 : decode cX12_better 29 = .ok (.aload_n 0, 1) := by decide +kernel
theorem dX12_better_30 : decode cX12_better 30 = .ok (.getfield 32, 3) := by decide +kernel
theorem dX12_better_33 : decode cX12_better 33 = .ok (.iload_n 1, 1) := by decide +kernel
theorem dX12_better_34 : decode cX12_better 34 = .ok (.baload, 1) := by decide +kernel
theorem dX12_better_35 : decode cX12_better 35 = .ok (.ifCond .eq 8, 3) := by decide +kernel
theorem dX12_better_38 : decode cX12_better 38 = .ok (.lload 4, 2) := by decide +kernel
theorem dX12_better_40 : decode cX12_better 40 = .ok (.goto 6, 3) := by decide +kernel
theorem dX12_better_43 : decode cX12_better 43 = .ok (.lload 4, 2) := by decide +kernel
theorem dX12_better_45 : decode cX12_better 45 = .ok (.lneg, 1) := by decide +kernel
theorem dX12_better_46 : decode cX12_better 46 = .ok (.lreturn, 1) := by decide +kernel
theorem dX12_looksAtAim_0 : decode cX12_looksAtAim 0 = .ok (.iconst (-1), 1) := by decide +kernel
theorem dX12_looksAtAim_1 : decode cX12_looksAtAim 1 = .ok (.istore_n 2, 1) := by decide +kernel
theorem dX12_looksAtAim_2 : decode cX12_looksAtAim 2 = .ok (.iconst 0, 1) := by decide +kernel
theorem dX12_looksAtAim_3 : decode cX12_looksAtAim 3 = .ok (.istore_n 3, 1) := by decide +kernel
theorem dX12_looksAtAim_4 : decode cX12_looksAtAim 4 = .ok (.iload_n 3, 1) := by decide +kernel
theorem dX12_looksAtAim_5 : decode cX12_looksAtAim 5 = .ok (.aload_n 0, 1) := by decide +kernel
theorem dX12_looksAtAim_6 : decode cX12_looksAtAim 6 = .ok (.getfield 111, 3) := by decide +kernel
theorem dX12_looksAtAim_9 : decode cX12_looksAtAim 9 = .ok (.if_icmp .ge 36, 3) := by decide +kernel
theorem dX12_looksAtAim_12 : decode cX12_looksAtAim 12 = .ok (.aload_n 0, 1) := by decide +kernel
theorem dX12_looksAtAim_13 : decode cX12_looksAtAim 13 = .ok (.getfield 90, 3) := by decide +kernel
theorem dX12_looksAtAim_16 : decode cX12_looksAtAim 16 = .ok (.iload_n 3, 1) := by decide +kernel
theorem dX12_looksAtAim_17 : decode cX12_looksAtAim 17 = .ok (.baload, 1) := by decide +kernel
theorem dX12_looksAtAim_18 : decode cX12_looksAtAim 18 = .ok (.ifCond .eq 21, 3) := by decide +kernel
theorem dX12_looksAtAim_21 : decode cX12_looksAtAim 21 = .ok (.iload_n 2, 1) := by decide +kernel
theorem dX12_looksAtAim_22 : decode cX12_looksAtAim 22 = .ok (.ifCond .lt 15, 3) := by decide +kernel
theorem dX12_looksAtAim_25 : decode cX12_looksAtAim 25 = .ok (.aload_n 0, 1) := by decide +kernel
theorem dX12_looksAtAim_26 : decode cX12_looksAtAim 26 = .ok (.iload_n 1, 1) := by decide +kernel
theorem dX12_looksAtAim_27 : decode cX12_looksAtAim 27 = .ok (.iload_n 3, 1) := by decide +kernel
theorem dX12_looksAtAim_28 : decode cX12_looksAtAim 28 = .ok (.iload_n 2, 1) := by decide +kernel
theorem dX12_looksAtAim_29 : decode cX12_looksAtAim 29 = .ok (.invokevirtual 256, 3) := by decide +kernel
theorem dX12_looksAtAim_32 : decode cX12_looksAtAim 32 = .ok (.lconst 0, 1) := by decide +kernel
theorem dX12_looksAtAim_33 : decode cX12_looksAtAim 33 = .ok (.lcmp, 1) := by decide +kernel
theorem dX12_looksAtAim_34 : decode cX12_looksAtAim 34 = .ok (.ifCond .le 5, 3) := by decide +kernel
theorem dX12_looksAtAim_37 : decode cX12_looksAtAim 37 = .ok (.iload_n 3, 1) := by decide +kernel
theorem dX12_looksAtAim_38 : decode cX12_looksAtAim 38 = .ok (.istore_n 2, 1) := by decide +kernel
theorem dX12_looksAtAim_39 : decode cX12_looksAtAim 39 = .ok (.iinc 3 1, 3) := by decide +kernel
theorem dX12_looksAtAim_42 : decode cX12_looksAtAim 42 = .ok (.goto (-38), 3) := by decide +kernel
theorem dX12_looksAtAim_45 : decode cX12_looksAtAim 45 = .ok (.iconst 0, 1) := by decide +kernel
theorem dX12_looksAtAim_46 : decode cX12_looksAtAim 46 = .ok (.istore_n 3, 1) := by decide +kernel
theorem dX12_looksAtAim_47 : decode cX12_looksAtAim 47 = .ok (.iload_n 3, 1) := by decide +kernel
theorem dX12_looksAtAim_48 : decode cX12_looksAtAim 48 = .ok (.aload_n 0, 1) := by decide +kernel
theorem dX12_looksAtAim_49 : decode cX12_looksAtAim 49 = .ok (.getfield 111, 3) := by decide +kernel
theorem dX12_looksAtAim_52 : decode cX12_looksAtAim 52 = .ok (.if_icmp .ge 41, 3) := by decide +kernel
theorem dX12_looksAtAim_55 : decode cX12_looksAtAim 55 = .ok (.aload_n 0, 1) := by decide +kernel
theorem dX12_looksAtAim_56 : decode cX12_looksAtAim 56 = .ok (.getfield 90, 3) := by decide +kernel
theorem dX12_looksAtAim_59 : decode cX12_looksAtAim 59 = .ok (.iload_n 3, 1) := by decide +kernel
theorem dX12_looksAtAim_60 : decode cX12_looksAtAim 60 = .ok (.aload_n 0, 1) := by decide +kernel
theorem dX12_looksAtAim_61 : decode cX12_looksAtAim 61 = .ok (.getfield 90, 3) := by decide +kernel
theorem dX12_looksAtAim_64 : decode cX12_looksAtAim 64 = .ok (.iload_n 3, 1) := by decide +kernel
theorem dX12_looksAtAim_65 : decode cX12_looksAtAim 65 = .ok (.baload, 1) := by decide +kernel
theorem dX12_looksAtAim_66 : decode cX12_looksAtAim 66 = .ok (.ifCond .eq 19, 3) := by decide +kernel
theorem dX12_looksAtAim_69 : decode cX12_looksAtAim 69 = .ok (.aload_n 0, 1) := by decide +kernel
theorem dX12_looksAtAim_70 : decode cX12_looksAtAim 70 = .ok (.iload_n 1, 1) := by decide +kernel
theorem dX12_looksAtAim_71 : decode cX12_looksAtAim 71 = .ok (.iload_n 3, 1) := by decide +kernel
theorem dX12_looksAtAim_72 : decode cX12_looksAtAim 72 = .ok (.iload_n 2, 1) := by decide +kernel
theorem dX12_looksAtAim_73 : decode cX12_looksAtAim 73 = .ok (.invokevirtual 256, 3) := by decide +kernel
theorem dX12_looksAtAim_76 : decode cX12_looksAtAim 76 = .ok (.lconst 0, 1) := by decide +kernel
theorem dX12_looksAtAim_77 : decode cX12_looksAtAim 77 = .ok (.lcmp, 1) := by decide +kernel
theorem dX12_looksAtAim_78 : decode cX12_looksAtAim 78 = .ok (.ifCond .ne 7, 3) := by decide +kernel
theorem dX12_looksAtAim_81 : decode cX12_looksAtAim 81 = .ok (.iconst 1, 1) := by decide +kernel
theorem dX12_looksAtAim_82 : decode cX12_looksAtAim 82 = .ok (.goto 4, 3) := by decide +kernel
theorem dX12_looksAtAim_85 : decode cX12_looksAtAim 85 = .ok (.iconst 0, 1) := by decide +kernel
theorem dX12_looksAtAim_86 : decode cX12_looksAtAim 86 = .ok (.bastore, 1) := by decide +kernel
theorem dX12_looksAtAim_87 : decode cX12_looksAtAim 87 = .ok (.iinc 3 1, 3) := by decide +kernel
theorem dX12_looksAtAim_90 : decode cX12_looksAtAim 90 = .ok (.goto (-43), 3) := by decide +kernel
theorem dX12_looksAtAim_93 : decode cX12_looksAtAim 93 = .ok (.iconst 0, 1) := by decide +kernel
theorem dX12_looksAtAim_94 : decode cX12_looksAtAim 94 = .ok (.istore_n 3, 1) := by decide +kernel
theorem dX12_looksAtAim_95 : decode cX12_looksAtAim 95 = .ok (.iload_n 3, 1) := by decide +kernel
theorem dX12_looksAtAim_96 : decode cX12_looksAtAim 96 = .ok (.aload_n 0, 1) := by decide +kernel
theorem dX12_looksAtAim_97 : decode cX12_looksAtAim 97 = .ok (.getfield 114, 3) := by decide +kernel
theorem dX12_looksAtAim_100 : decode cX12_looksAtAim 100 = .ok (.if_icmp .ge 40, 3) := by decide +kernel
theorem dX12_looksAtAim_103 : decode cX12_looksAtAim 103 = .ok (.aload_n 0, 1) := by decide +kernel
theorem dX12_looksAtAim_104 : decode cX12_looksAtAim 104 = .ok (.getfield 93, 3) := by decide +kernel
theorem dX12_looksAtAim_107 : decode cX12_looksAtAim 107 = .ok (.iload_n 3, 1) := by decide +kernel
theorem dX12_looksAtAim_108 : decode cX12_looksAtAim 108 = .ok (.aload_n 0, 1) := by decide +kernel
theorem dX12_looksAtAim_109 : decode cX12_looksAtAim 109 = .ok (.getfield 93, 3) := by decide +kernel
theorem dX12_looksAtAim_112 : decode cX12_looksAtAim 112 = .ok (.iload_n 3, 1) := by decide +kernel
theorem dX12_looksAtAim_113 : decode cX12_looksAtAim 113 = .ok (.baload, 1) := by decide +kernel
theorem dX12_looksAtAim_114 : decode cX12_looksAtAim 114 = .ok (.ifCond .eq 18, 3) := by decide +kernel
theorem dX12_looksAtAim_117 : decode cX12_looksAtAim 117 = .ok (.aload_n 0, 1) := by decide +kernel
theorem dX12_looksAtAim_118 : decode cX12_looksAtAim 118 = .ok (.iload_n 1, 1) := by decide +kernel
theorem dX12_looksAtAim_119 : decode cX12_looksAtAim 119 = .ok (.iload_n 3, 1) := by decide +kernel
theorem dX12_looksAtAim_120 : decode cX12_looksAtAim 120 = .ok (.invokevirtual 249, 3) := by decide +kernel
theorem dX12_looksAtAim_123 : decode cX12_looksAtAim 123 = .ok (.lconst 0, 1) := by decide +kernel
theorem dX12_looksAtAim_124 : decode cX12_looksAtAim 124 = .ok (.lcmp, 1) := by decide +kernel
theorem dX12_looksAtAim_125 : decode cX12_looksAtAim 125 = .ok (.ifCond .ne 7, 3) := by decide +kernel
theorem dX12_looksAtAim_128 : decode cX12_looksAtAim 128 = .ok (.iconst 1, 1) := by decide +kernel
theorem dX12_looksAtAim_129 : decode cX12_looksAtAim 129 = .ok (.goto 4, 3) := by decide +kernel
theorem dX12_looksAtAim_132 : decode cX12_looksAtAim 132 = .ok (.iconst 0, 1) := by decide +kernel
theorem dX12_looksAtAim_133 : decode cX12_looksAtAim 133 = .ok (.bastore, 1) := by decide +kernel
theorem dX12_looksAtAim_134 : decode cX12_looksAtAim 134 = .ok (.iinc 3 1, 3) := by decide +kernel
theorem dX12_looksAtAim_137 : decode cX12_looksAtAim 137 = .ok (.goto (-42), 3) := by decide +kernel
theorem dX12_looksAtAim_140 : decode cX12_looksAtAim 140 = .ok (.aload_n 0, 1) := by decide +kernel
theorem dX12_looksAtAim_141 : decode cX12_looksAtAim 141 = .ok (.iload_n 1, 1) := by decide +kernel
theorem dX12_looksAtAim_142 : decode cX12_looksAtAim 142 = .ok (.iload_n 2, 1) := by decide +kernel
theorem dX12_looksAtAim_143 : decode cX12_looksAtAim 143 = .ok (.invokevirtual 253, 3) := by decide +kernel
theorem dX12_looksAtAim_146 : decode cX12_looksAtAim 146 = .ok (.aload_n 0, 1) := by decide +kernel
theorem dX12_looksAtAim_147 : decode cX12_looksAtAim 147 = .ok (.getfield 81, 3) := by decide +kernel
theorem dX12_looksAtAim_150 : decode cX12_looksAtAim 150 = .ok (.iload_n 2, 1) := by decide +kernel
theorem dX12_looksAtAim_151 : decode cX12_looksAtAim 151 = .ok (.laload, 1) := by decide +kernel
theorem dX12_looksAtAim_152 : decode cX12_looksAtAim 152 = .ok (.invokestatic 260, 3) := by decide +kernel
theorem dX12_looksAtAim_155 : decode cX12_looksAtAim 155 = .ok (.lstore_n 3, 1) := by decide +kernel
theorem dX12_looksAtAim_156 : decode cX12_looksAtAim 156 = .ok (.aload_n 0, 1) := by decide +kernel
theorem dX12_looksAtAim_157 : decode cX12_looksAtAim 157 = .ok (.getfield 99, 3) := by decide +kernel
theorem dX12_looksAtAim_160 : decode cX12_looksAtAim 160 = .ok (.iload_n 1, 1) := by decide +kernel
theorem dX12_looksAtAim_161 : decode cX12_looksAtAim 161 = .ok (.aload_n 0, 1) := by decide +kernel
theorem dX12_looksAtAim_162 : decode cX12_looksAtAim 162 = .ok (.iload_n 1, 1) := by decide +kernel
theorem dX12_looksAtAim_163 : decode cX12_looksAtAim 163 = .ok (.iload_n 2, 1) := by decide +kernel
theorem dX12_looksAtAim_164 : decode cX12_looksAtAim 164 = .ok (.invokevirtual 253, 3) := by decide +kernel
theorem dX12_looksAtAim_167 : decode cX12_looksAtAim 167 = .ok (.lload_n 3, 1) := by decide +kernel
theorem dX12_looksAtAim_168 : decode cX12_looksAtAim 168 = .ok (.ldiv, 1) := by decide +kernel
theorem dX12_looksAtAim_169 : decode cX12_looksAtAim 169 = .ok (.lastore, 1) := by decide +kernel
theorem dX12_looksAtAim_170 : decode cX12_looksAtAim 170 = .ok (.aload_n 0, 1) := by decide +kernel
theorem dX12_looksAtAim_171 : decode cX12_looksAtAim 171 = .ok (.getfield 102, 3) := by decide +kernel
theorem dX12_looksAtAim_174 : decode cX12_looksAtAim 174 = .ok (.iload_n 1, 1) := by decide +kernel
theorem dX12_looksAtAim_175 : decode cX12_looksAtAim 175 = .ok (.aload_n 0, 1) := by decide +kernel
theorem dX12_looksAtAim_176 : decode cX12_looksAtAim 176 = .ok (.getfield 81, 3) := by decide +kernel
theorem dX12_looksAtAim_179 : decode cX12_looksAtAim 179 = .ok (.iload_n 2, 1) := by decide +kernel
theorem dX12_looksAtAim_180 : decode cX12_looksAtAim 180 = .ok (.laload, 1) := by decide +kernel
theorem dX12_looksAtAim_181 : decode cX12_looksAtAim 181 = .ok (.lload_n 3, 1) := by decide +kernel
theorem dX12_looksAtAim_182 : decode cX12_looksAtAim 182 = .ok (.ldiv, 1) := by decide +kernel
theorem dX12_looksAtAim_183 : decode cX12_looksAtAim 183 = .ok (.lastore, 1) := by decide +kernel
theorem dX12_looksAtAim_184 : decode cX12_looksAtAim 184 = .ok (.return_, 1) := by decide +kernel
theorem dX12_findsLeast_0 : decode cX12_findsLeast 0 = .ok (.iconst 0, 1) := by decide +kernel
theorem dX12_findsLeast_1 : decode cX12_findsLeast 1 = .ok (.istore_n 1, 1) := by decide +kernel
theorem dX12_findsLeast_2 : decode cX12_findsLeast 2 = .ok (.iload_n 1, 1) := by decide +kernel
theorem dX12_findsLeast_3 : decode cX12_findsLeast 3 = .ok (.iconst 3, 1) := by decide +kernel
theorem dX12_findsLeast_4 : decode cX12_findsLeast 4 = .ok (.if_icmp .ge 175, 3) := by decide +kernel
theorem dX12_findsLeast_7 : decode cX12_findsLeast 7 = .ok (.aload_n 0, 1) := by decide +kernel
theorem dX12_findsLeast_8 : decode cX12_findsLeast 8 = .ok (.iconst (-1), 1) := by decide +kernel
theorem dX12_findsLeast_9 : decode cX12_findsLeast 9 = .ok (.putfield 120, 3) := by decide +kernel
theorem dX12_findsLeast_12 : decode cX12_findsLeast 12 = .ok (.iconst 0, 1) := by decide +kernel
theorem dX12_findsLeast_13 : decode cX12_findsLeast 13 = .ok (.istore_n 2, 1) := by decide +kernel
theorem dX12_findsLeast_14 : decode cX12_findsLeast 14 = .ok (.iload_n 2, 1) := by decide +kernel
theorem dX12_findsLeast_15 : decode cX12_findsLeast 15 = .ok (.aload_n 0, 1) := by decide +kernel
theorem dX12_findsLeast_16 : decode cX12_findsLeast 16 = .ok (.getfield 111, 3) := by decide +kernel
theorem dX12_findsLeast_19 : decode cX12_findsLeast 19 = .ok (.if_icmp .ge 74, 3) := by decide +kernel
theorem dX12_findsLeast_22 : decode cX12_findsLeast 22 = .ok (.aload_n 0, 1) := by decide +kernel
theorem dX12_findsLeast_23 : decode cX12_findsLeast 23 = .ok (.getfield 90, 3) := by decide +kernel
theorem dX12_findsLeast_26 : decode cX12_findsLeast 26 = .ok (.iload_n 2, 1) := by decide +kernel
theorem dX12_findsLeast_27 : decode cX12_findsLeast 27 = .ok (.baload, 1) := by decide +kernel
theorem dX12_findsLeast_28 : decode cX12_findsLeast 28 = .ok (.ifCond .eq 59, 3) := by decide +kernel
theorem dX12_findsLeast_31 : decode cX12_findsLeast 31 = .ok (.aload_n 0, 1) := by decide +kernel
theorem dX12_findsLeast_32 : decode cX12_findsLeast 32 = .ok (.getfield 120, 3) := by decide +kernel
theorem dX12_findsLeast_35 : decode cX12_findsLeast 35 = .ok (.ifCond .lt 47, 3) := by decide +kernel
theorem dX12_findsLeast_38 : decode cX12_findsLeast 38 = .ok (.aload_n 0, 1) := by decide +kernel
theorem dX12_findsLeast_39 : decode cX12_findsLeast 39 = .ok (.getfield 78, 3) := by decide +kernel
theorem dX12_findsLeast_42 : decode cX12_findsLeast 42 = .ok (.iconst 3, 1) := by decide +kernel
theorem dX12_findsLeast_43 : decode cX12_findsLeast 43 = .ok (.iload_n 2, 1) := by decide +kernel
theorem dX12_findsLeast_44 : decode cX12_findsLeast 44 = .ok (.imul, 1) := by decide +kernel
theorem dX12_findsLeast_45 : decode cX12_findsLeast 45 = .ok (.iload_n 1, 1) := by decide +kernel
theorem dX12_findsLeast_46 : decode cX12_findsLeast 46 = .ok (.iadd, 1) := by decide +kernel
theorem dX12_findsLeast_47 : decode cX12_findsLeast 47 = .ok (.laload, 1) := by decide +kernel
theorem dX12_findsLeast_48 : decode cX12_findsLeast 48 = .ok (.aload_n 0, 1) := by decide +kernel
theorem dX12_findsLeast_49 : decode cX12_findsLeast 49 = .ok (.getfield 81, 3) := by decide +kernel
theorem dX12_findsLeast_52 : decode cX12_findsLeast 52 = .ok (.aload_n 0, 1) := by decide +kernel
theorem dX12_findsLeast_53 : decode cX12_findsLeast 53 = .ok (.getfield 120, 3) := by decide +kernel
theorem dX12_findsLeast_56 : decode cX12_findsLeast 56 = .ok (.laload, 1) := by decide +kernel
theorem dX12_findsLeast_57 : decode cX12_findsLeast 57 = .ok (.lmul, 1) := by decide +kernel
theorem dX12_findsLeast_58 : decode cX12_findsLeast 58 = .ok (.aload_n 0, 1) := by decide +kernel
theorem dX12_findsLeast_59 : decode cX12_findsLeast 59 = .ok (.getfield 78, 3) := by decide +kernel
theorem dX12_findsLeast_62 : decode cX12_findsLeast 62 = .ok (.iconst 3, 1) := by decide +kernel
theorem dX12_findsLeast_63 : decode cX12_findsLeast 63 = .ok (.aload_n 0, 1) := by decide +kernel
theorem dX12_findsLeast_64 : decode cX12_findsLeast 64 = .ok (.getfield 120, 3) := by decide +kernel
theorem dX12_findsLeast_67 : decode cX12_findsLeast 67 = .ok (.imul, 1) := by decide +kernel
theorem dX12_findsLeast_68 : decode cX12_findsLeast 68 = .ok (.iload_n 1, 1) := by decide +kernel
theorem dX12_findsLeast_69 : decode cX12_findsLeast 69 = .ok (.iadd, 1) := by decide +kernel
theorem dX12_findsLeast_70 : decode cX12_findsLeast 70 = .ok (.laload, 1) := by decide +kernel
theorem dX12_findsLeast_71 : decode cX12_findsLeast 71 = .ok (.aload_n 0, 1) := by decide +kernel
theorem dX12_findsLeast_72 : decode cX12_findsLeast 72 = .ok (.getfield 81, 3) := by decide +kernel
theorem dX12_findsLeast_75 : decode cX12_findsLeast 75 = .ok (.iload_n 2, 1) := by decide +kernel
theorem dX12_findsLeast_76 : decode cX12_findsLeast 76 = .ok (.laload, 1) := by decide +kernel
theorem dX12_findsLeast_77 : decode cX12_findsLeast 77 = .ok (.lmul, 1) := by decide +kernel
theorem dX12_findsLeast_78 : decode cX12_findsLeast 78 = .ok (.lcmp, 1) := by decide +kernel
theorem dX12_findsLeast_79 : decode cX12_findsLeast 79 = .ok (.ifCond .ge 8, 3) := by decide +kernel
theorem dX12_findsLeast_82 : decode cX12_findsLeast 82 = .ok (.aload_n 0, 1) := by decide +kernel
theorem dX12_findsLeast_83 : decode cX12_findsLeast 83 = .ok (.iload_n 2, 1) := by decide +kernel
theorem dX12_findsLeast_84 : decode cX12_findsLeast 84 = .ok (.putfield 120, 3) := by decide +kernel
theorem dX12_findsLeast_87 : decode cX12_findsLeast 87 = .ok (.iinc 2 1, 3) := by decide +kernel
theorem dX12_findsLeast_90 : decode cX12_findsLeast 90 = .ok (.goto (-76), 3) := by decide +kernel
theorem dX12_findsLeast_93 : decode cX12_findsLeast 93 = .ok (.iconst 0, 1) := by decide +kernel
theorem dX12_findsLeast_94 : decode cX12_findsLeast 94 = .ok (.istore_n 2, 1) := by decide +kernel
theorem dX12_findsLeast_95 : decode cX12_findsLeast 95 = .ok (.iload_n 2, 1) := by decide +kernel
theorem dX12_findsLeast_96 : decode cX12_findsLeast 96 = .ok (.aload_n 0, 1) := by decide +kernel
theorem dX12_findsLeast_97 : decode cX12_findsLeast 97 = .ok (.getfield 111, 3) := by decide +kernel
theorem dX12_findsLeast_100 : decode cX12_findsLeast 100 = .ok (.if_icmp .ge 73, 3) := by decide +kernel
theorem dX12_findsLeast_103 : decode cX12_findsLeast 103 = .ok (.aload_n 0, 1) := by decide +kernel
theorem dX12_findsLeast_104 : decode cX12_findsLeast 104 = .ok (.getfield 90, 3) := by decide +kernel
theorem dX12_findsLeast_107 : decode cX12_findsLeast 107 = .ok (.iload_n 2, 1) := by decide +kernel
theorem dX12_findsLeast_108 : decode cX12_findsLeast 108 = .ok (.aload_n 0, 1) := by decide +kernel
theorem dX12_findsLeast_109 : decode cX12_findsLeast 109 = .ok (.getfield 90, 3) := by decide +kernel
theorem dX12_findsLeast_112 : decode cX12_findsLeast 112 = .ok (.iload_n 2, 1) := by decide +kernel
theorem dX12_findsLeast_113 : decode cX12_findsLeast 113 = .ok (.baload, 1) := by decide +kernel
theorem dX12_findsLeast_114 : decode cX12_findsLeast 114 = .ok (.ifCond .eq 51, 3) := by decide +kernel
theorem dX12_findsLeast_117 : decode cX12_findsLeast 117 = .ok (.aload_n 0, 1) := by decide +kernel
theorem dX12_findsLeast_118 : decode cX12_findsLeast 118 = .ok (.getfield 78, 3) := by decide +kernel
theorem dX12_findsLeast_121 : decode cX12_findsLeast 121 = .ok (.iconst 3, 1) := by decide +kernel
theorem dX12_findsLeast_122 : decode cX12_findsLeast 122 = .ok (.iload_n 2, 1) := by decide +kernel
theorem dX12_findsLeast_123 : decode cX12_findsLeast 123 = .ok (.imul, 1) := by decide +kernel
theorem dX12_findsLeast_124 : decode cX12_findsLeast 124 = .ok (.iload_n 1, 1) := by decide +kernel
theorem dX12_findsLeast_125 : decode cX12_findsLeast 125 = .ok (.iadd, 1) := by decide +kernel
theorem dX12_findsLeast_126 : decode cX12_findsLeast 126 = .ok (.laload, 1) := by decide +kernel
theorem dX12_findsLeast_127 : decode cX12_findsLeast 127 = .ok (.aload_n 0, 1) := by decide +kernel
theorem dX12_findsLeast_128 : decode cX12_findsLeast 128 = .ok (.getfield 81, 3) := by decide +kernel
theorem dX12_findsLeast_131 : decode cX12_findsLeast 131 = .ok (.aload_n 0, 1) := by decide +kernel
theorem dX12_findsLeast_132 : decode cX12_findsLeast 132 = .ok (.getfield 120, 3) := by decide +kernel
theorem dX12_findsLeast_135 : decode cX12_findsLeast 135 = .ok (.laload, 1) := by decide +kernel
theorem dX12_findsLeast_136 : decode cX12_findsLeast 136 = .ok (.lmul, 1) := by decide +kernel
theorem dX12_findsLeast_137 : decode cX12_findsLeast 137 = .ok (.aload_n 0, 1) := by decide +kernel
theorem dX12_findsLeast_138 : decode cX12_findsLeast 138 = .ok (.getfield 78, 3) := by decide +kernel
theorem dX12_findsLeast_141 : decode cX12_findsLeast 141 = .ok (.iconst 3, 1) := by decide +kernel
theorem dX12_findsLeast_142 : decode cX12_findsLeast 142 = .ok (.aload_n 0, 1) := by decide +kernel
theorem dX12_findsLeast_143 : decode cX12_findsLeast 143 = .ok (.getfield 120, 3) := by decide +kernel
theorem dX12_findsLeast_146 : decode cX12_findsLeast 146 = .ok (.imul, 1) := by decide +kernel
theorem dX12_findsLeast_147 : decode cX12_findsLeast 147 = .ok (.iload_n 1, 1) := by decide +kernel
theorem dX12_findsLeast_148 : decode cX12_findsLeast 148 = .ok (.iadd, 1) := by decide +kernel
theorem dX12_findsLeast_149 : decode cX12_findsLeast 149 = .ok (.laload, 1) := by decide +kernel
theorem dX12_findsLeast_150 : decode cX12_findsLeast 150 = .ok (.aload_n 0, 1) := by decide +kernel
theorem dX12_findsLeast_151 : decode cX12_findsLeast 151 = .ok (.getfield 81, 3) := by decide +kernel
theorem dX12_findsLeast_154 : decode cX12_findsLeast 154 = .ok (.iload_n 2, 1) := by decide +kernel
theorem dX12_findsLeast_155 : decode cX12_findsLeast 155 = .ok (.laload, 1) := by decide +kernel
theorem dX12_findsLeast_156 : decode cX12_findsLeast 156 = .ok (.lmul, 1) := by decide +kernel
theorem dX12_findsLeast_157 : decode cX12_findsLeast 157 = .ok (.lcmp, 1) := by decide +kernel
theorem dX12_findsLeast_158 : decode cX12_findsLeast 158 = .ok (.ifCond .ne 7, 3) := by decide +kernel
theorem dX12_findsLeast_161 : decode cX12_findsLeast 161 = .ok (.iconst 1, 1) := by decide +kernel
theorem dX12_findsLeast_162 : decode cX12_findsLeast 162 = .ok (.goto 4, 3) := by decide +kernel
theorem dX12_findsLeast_165 : decode cX12_findsLeast 165 = .ok (.iconst 0, 1) := by decide +kernel
theorem dX12_findsLeast_166 : decode cX12_findsLeast 166 = .ok (.bastore, 1) := by decide +kernel
theorem dX12_findsLeast_167 : decode cX12_findsLeast 167 = .ok (.iinc 2 1, 3) := by decide +kernel
theorem dX12_findsLeast_170 : decode cX12_findsLeast 170 = .ok (.goto (-75), 3) := by decide +kernel
theorem dX12_findsLeast_173 : decode cX12_findsLeast 173 = .ok (.iinc 1 1, 3) := by decide +kernel
theorem dX12_findsLeast_176 : decode cX12_findsLeast 176 = .ok (.goto (-174), 3) := by decide +kernel
theorem dX12_findsLeast_179 : decode cX12_findsLeast 179 = .ok (.return_, 1) := by decide +kernel
theorem dX12_looks_0 : decode cX12_looks 0 = .ok (.aload_n 0, 1) := by decide +kernel
theorem dX12_looks_1 : decode cX12_looks 1 = .ok (.iload_n 1, 1) := by decide +kernel
theorem dX12_looks_2 : decode cX12_looks 2 = .ok (.iload_n 2, 1) := by decide +kernel
theorem dX12_looks_3 : decode cX12_looks 3 = .ok (.invokevirtual 264, 3) := by decide +kernel
theorem dX12_looks_6 : decode cX12_looks 6 = .ok (.aload_n 0, 1) := by decide +kernel
theorem dX12_looks_7 : decode cX12_looks 7 = .ok (.iload_n 1, 1) := by decide +kernel
theorem dX12_looks_8 : decode cX12_looks 8 = .ok (.invokevirtual 268, 3) := by decide +kernel
theorem dX12_looks_11 : decode cX12_looks 11 = .ok (.aload_n 0, 1) := by decide +kernel
theorem dX12_looks_12 : decode cX12_looks 12 = .ok (.aload_n 0, 1) := by decide +kernel
theorem dX12_looks_13 : decode cX12_looks 13 = .ok (.getfield 111, 3) := by decide +kernel
theorem dX12_looks_16 : decode cX12_looks 16 = .ok (.ifCond .ne 8, 3) := by decide +kernel
theorem dX12_looks_19 : decode cX12_looks 19 = .ok (.bipush 105, 2) := by decide +kernel
theorem dX12_looks_21 : decode cX12_looks 21 = .ok (.goto 5, 3) := by decide +kernel
theorem dX12_looks_24 : decode cX12_looks 24 = .ok (.bipush 111, 2) := by decide +kernel
theorem dX12_looks_26 : decode cX12_looks 26 = .ok (.putfield 123, 3) := by decide +kernel
theorem dX12_looks_29 : decode cX12_looks 29 = .ok (.aload_n 0, 1) := by decide +kernel
theorem dX12_looks_30 : decode cX12_looks 30 = .ok (.aload_n 0, 1) := by decide +kernel
theorem dX12_looks_31 : decode cX12_looks 31 = .ok (.getfield 123, 3) := by decide +kernel
theorem dX12_looks_34 : decode cX12_looks 34 = .ok (.bipush 105, 2) := by decide +kernel
theorem dX12_looks_36 : decode cX12_looks 36 = .ok (.if_icmp .ne 7, 3) := by decide +kernel
theorem dX12_looks_39 : decode cX12_looks 39 = .ok (.iconst 0, 1) := by decide +kernel
theorem dX12_looks_40 : decode cX12_looks 40 = .ok (.goto 7, 3) := by decide +kernel
theorem dX12_looks_43 : decode cX12_looks 43 = .ok (.aload_n 0, 1) := by decide +kernel
theorem dX12_looks_44 : decode cX12_looks 44 = .ok (.getfield 49, 3) := by decide +kernel
theorem dX12_looks_47 : decode cX12_looks 47 = .ok (.putfield 117, 3) := by decide +kernel
theorem dX12_looks_50 : decode cX12_looks 50 = .ok (.iconst 0, 1) := by decide +kernel
theorem dX12_looks_51 : decode cX12_looks 51 = .ok (.istore_n 3, 1) := by decide +kernel
theorem dX12_looks_52 : decode cX12_looks 52 = .ok (.iload_n 3, 1) := by decide +kernel
theorem dX12_looks_53 : decode cX12_looks 53 = .ok (.aload_n 0, 1) := by decide +kernel
theorem dX12_looks_54 : decode cX12_looks 54 = .ok (.getfield 49, 3) := by decide +kernel
theorem dX12_looks_57 : decode cX12_looks 57 = .ok (.if_icmp .ge 45, 3) := by decide +kernel
theorem dX12_looks_60 : decode cX12_looks 60 = .ok (.aload_n 0, 1) := by decide +kernel
theorem dX12_looks_61 : decode cX12_looks 61 = .ok (.getfield 123, 3) := by decide +kernel
theorem dX12_looks_64 : decode cX12_looks 64 = .ok (.bipush 111, 2) := by decide +kernel
theorem dX12_looks_66 : decode cX12_looks 66 = .ok (.if_icmp .ne 36, 3) := by decide +kernel
theorem dX12_looks_69 : decode cX12_looks 69 = .ok (.aload_n 0, 1) := by decide +kernel
theorem dX12_looks_70 : decode cX12_looks 70 = .ok (.iload_n 3, 1) := by decide +kernel
theorem dX12_looks_71 : decode cX12_looks 71 = .ok (.invokevirtual 272, 3) := by decide +kernel
theorem dX12_looks_74 : decode cX12_looks 74 = .ok (.ifCond .eq 17, 3) := by decide +kernel
theorem dX12_looks_77 : decode cX12_looks 77 = .ok (.aload_n 0, 1) := by decide +kernel
theorem dX12_looks_78 : decode cX12_looks 78 = .ok (.bipush 117, 2) := by decide +kernel
theorem dX12_looks_80 : decode cX12_looks 80 = .ok (.putfield 123, 3) := by decide +kernel
theorem dX12_looks_83 : decode cX12_looks 83 = .ok (.aload_n 0, 1) := by decide +kernel
theorem dX12_looks_84 : decode cX12_looks 84 = .ok (.iload_n 3, 1) := by decide +kernel
theorem dX12_looks_85 : decode cX12_looks 85 = .ok (.putfield 117, 3) := by decide +kernel
theorem dX12_looks_88 : decode cX12_looks 88 = .ok (.goto 8, 3) := by decide +kernel
theorem dX12_looks_91 : decode cX12_looks 91 = .ok (.aload_n 0, 1) := by decide +kernel
theorem dX12_looks_92 : decode cX12_looks 92 = .ok (.iload_n 3, 1) := by decide +kernel
theorem dX12_looks_93 : decode cX12_looks 93 = .ok (.invokevirtual 275, 3) := by decide +kernel
theorem dX12_looks_96 : decode cX12_looks 96 = .ok (.iinc 3 1, 3) := by decide +kernel
theorem dX12_looks_99 : decode cX12_looks 99 = .ok (.goto (-47), 3) := by decide +kernel
theorem dX12_looks_102 : decode cX12_looks 102 = .ok (.aload_n 0, 1) := by decide +kernel
theorem dX12_looks_103 : decode cX12_looks 103 = .ok (.getfield 123, 3) := by decide +kernel
theorem dX12_looks_106 : decode cX12_looks 106 = .ok (.bipush 111, 2) := by decide +kernel
theorem dX12_looks_108 : decode cX12_looks 108 = .ok (.if_icmp .ne 7, 3) := by decide +kernel
theorem dX12_looks_111 : decode cX12_looks 111 = .ok (.aload_n 0, 1) := by decide +kernel
theorem dX12_looks_112 : decode cX12_looks 112 = .ok (.invokevirtual 278, 3) := by decide +kernel
theorem dX12_looks_115 : decode cX12_looks 115 = .ok (.return_, 1) := by decide +kernel
theorem dX12_allLeft_0 : decode cX12_allLeft 0 = .ok (.iconst 0, 1) := by decide +kernel
theorem dX12_allLeft_1 : decode cX12_allLeft 1 = .ok (.istore_n 1, 1) := by decide +kernel
theorem dX12_allLeft_2 : decode cX12_allLeft 2 = .ok (.iconst 0, 1) := by decide +kernel
theorem dX12_allLeft_3 : decode cX12_allLeft 3 = .ok (.istore_n 2, 1) := by decide +kernel
theorem dX12_allLeft_4 : decode cX12_allLeft 4 = .ok (.iload_n 2, 1) := by decide +kernel
theorem dX12_allLeft_5 : decode cX12_allLeft 5 = .ok (.aload_n 0, 1) := by decide +kernel
theorem dX12_allLeft_6 : decode cX12_allLeft 6 = .ok (.getfield 46, 3) := by decide +kernel
theorem dX12_allLeft_9 : decode cX12_allLeft 9 = .ok (.if_icmp .ge 28, 3) := by decide +kernel
theorem dX12_allLeft_12 : decode cX12_allLeft 12 = .ok (.iload_n 1, 1) := by decide +kernel
theorem dX12_allLeft_13 : decode cX12_allLeft 13 = .ok (.aload_n 0, 1) := by decide +kernel
theorem dX12_allLeft_14 : decode cX12_allLeft 14 = .ok (.getfield 28, 3) := by decide +kernel
theorem dX12_allLeft_17 : decode cX12_allLeft 17 = .ok (.iload_n 2, 1) := by decide +kernel
theorem dX12_allLeft_18 : decode cX12_allLeft 18 = .ok (.baload, 1) := by decide +kernel
theorem dX12_allLeft_19 : decode cX12_allLeft 19 = .ok (.ifCond .eq 7, 3) := by decide +kernel
theorem dX12_allLeft_22 : decode cX12_allLeft 22 = .ok (.iconst 0, 1) := by decide +kernel
theorem dX12_allLeft_23 : decode cX12_allLeft 23 = .ok (.goto 6, 3) := by decide +kernel
theorem dX12_allLeft_26 : decode cX12_allLeft 26 = .ok (.iconst 1, 1) := by decide +kernel
theorem dX12_allLeft_27 : decode cX12_allLeft 27 = .ok (.iload_n 2, 1) := by decide +kernel
theorem dX12_allLeft_28 : decode cX12_allLeft 28 = .ok (.ishl, 1) := by decide +kernel
theorem dX12_allLeft_29 : decode cX12_allLeft 29 = .ok (.iadd, 1) := by decide +kernel
theorem dX12_allLeft_30 : decode cX12_allLeft 30 = .ok (.istore_n 1, 1) := by decide +kernel
theorem dX12_allLeft_31 : decode cX12_allLeft 31 = .ok (.iinc 2 1, 3) := by decide +kernel
theorem dX12_allLeft_34 : decode cX12_allLeft 34 = .ok (.goto (-30), 3) := by decide +kernel
theorem dX12_allLeft_37 : decode cX12_allLeft 37 = .ok (.iload_n 1, 1) := by decide +kernel
theorem dX12_allLeft_38 : decode cX12_allLeft 38 = .ok (.ireturn, 1) := by decide +kernel
theorem dX12_looksNow_0 : decode cX12_looksNow 0 = .ok (.aload_n 0, 1) := by decide +kernel
theorem dX12_looksNow_1 : decode cX12_looksNow 1 = .ok (.aload_n 0, 1) := by decide +kernel
theorem dX12_looksNow_2 : decode cX12_looksNow 2 = .ok (.invokevirtual 281, 3) := by decide +kernel
theorem dX12_looksNow_5 : decode cX12_looksNow 5 = .ok (.iconst (-1), 1) := by decide +kernel
theorem dX12_looksNow_6 : decode cX12_looksNow 6 = .ok (.invokevirtual 284, 3) := by decide +kernel
theorem dX12_looksNow_9 : decode cX12_looksNow 9 = .ok (.return_, 1) := by decide +kernel
theorem dX12_state_0 : decode cX12_state 0 = .ok (.aload_n 0, 1) := by decide +kernel
theorem dX12_state_1 : decode cX12_state 1 = .ok (.iconst 0, 1) := by decide +kernel
theorem dX12_state_2 : decode cX12_state 2 = .ok (.putfield 39, 3) := by decide +kernel
theorem dX12_state_5 : decode cX12_state 5 = .ok (.aload_n 0, 1) := by decide +kernel
theorem dX12_state_6 : decode cX12_state 6 = .ok (.invokevirtual 287, 3) := by decide +kernel
theorem dX12_state_9 : decode cX12_state 9 = .ok (.aload_n 0, 1) := by decide +kernel
theorem dX12_state_10 : decode cX12_state 10 = .ok (.getfield 123, 3) := by decide +kernel
theorem dX12_state_13 : decode cX12_state 13 = .ok (.ireturn, 1) := by decide +kernel
theorem dX12_open_0 : decode cX12_open 0 = .ok (.aload_n 0, 1) := by decide +kernel
theorem dX12_open_1 : decode cX12_open 1 = .ok (.invokevirtual 287, 3) := by decide +kernel
theorem dX12_open_4 : decode cX12_open 4 = .ok (.aload_n 0, 1) := by decide +kernel
theorem dX12_open_5 : decode cX12_open 5 = .ok (.aload_n 0, 1) := by decide +kernel
theorem dX12_open_6 : decode cX12_open 6 = .ok (.getfield 123, 3) := by decide +kernel
theorem dX12_open_9 : decode cX12_open 9 = .ok (.bipush 117, 2) := by decide +kernel
theorem dX12_open_11 : decode cX12_open 11 = .ok (.if_icmp .ne 7, 3) := by decide +kernel
theorem dX12_open_14 : decode cX12_open 14 = .ok (.iconst 1, 1) := by decide +kernel
theorem dX12_open_15 : decode cX12_open 15 = .ok (.goto 4, 3) := by decide +kernel
theorem dX12_open_18 : decode cX12_open 18 = .ok (.iconst 0, 1) := by decide +kernel
theorem dX12_open_19 : decode cX12_open 19 = .ok (.invokevirtual 188, 3) := by decide +kernel
theorem dX12_open_22 : decode cX12_open 22 = .ok (.ifCond .le 7, 3) := by decide +kernel
theorem dX12_open_25 : decode cX12_open 25 = .ok (.iconst 0, 1) := by decide +kernel
theorem dX12_open_26 : decode cX12_open 26 = .ok (.goto 7, 3) := by decide +kernel
theorem dX12_open_29 : decode cX12_open 29 = .ok (.aload_n 0, 1) := by decide +kernel
theorem dX12_open_30 : decode cX12_open 30 = .ok (.getfield 117, 3) := by decide +kernel
theorem dX12_open_33 : decode cX12_open 33 = .ok (.ireturn, 1) := by decide +kernel
theorem dX12_wrongValue_0 : decode cX12_wrongValue 0 = .ok (.aload_n 0, 1) := by decide +kernel
theorem dX12_wrongValue_1 : decode cX12_wrongValue 1 = .ok (.invokevirtual 287, 3) := by decide +kernel
theorem dX12_wrongValue_4 : decode cX12_wrongValue 4 = .ok (.aload_n 0, 1) := by decide +kernel
theorem dX12_wrongValue_5 : decode cX12_wrongValue 5 = .ok (.iload_n 1, 1) := by decide +kernel
theorem dX12_wrongValue_6 : decode cX12_wrongValue 6 = .ok (.invokevirtual 290, 3) := by decide +kernel
theorem dX12_wrongValue_9 : decode cX12_wrongValue 9 = .ok (.ifCond .ne 7, 3) := by decide +kernel
theorem dX12_wrongValue_12 : decode cX12_wrongValue 12 = .ok (.iconst 1, 1) := by decide +kernel
theorem dX12_wrongValue_13 : decode cX12_wrongValue 13 = .ok (.goto 25, 3) := by decide +kernel
theorem dX12_wrongValue_16 : decode cX12_wrongValue 16 = .ok (.aload_n 0, 1) := by decide +kernel
theorem dX12_wrongValue_17 : decode cX12_wrongValue 17 = .ok (.getfield 123, 3) := by decide +kernel
theorem dX12_wrongValue_20 : decode cX12_wrongValue 20 = .ok (.bipush 105, 2) := by decide +kernel
theorem dX12_wrongValue_22 : decode cX12_wrongValue 22 = .ok (.if_icmp .eq 11, 3) := by decide +kernel
theorem dX12_wrongValue_25 : decode cX12_wrongValue 25 = .ok (.iload_n 1, 1) := by decide +kernel
theorem dX12_wrongValue_26 : decode cX12_wrongValue 26 = .ok (.aload_n 0, 1) := by decide +kernel
theorem dX12_wrongValue_27 : decode cX12_wrongValue 27 = .ok (.getfield 117, 3) := by decide +kernel
theorem dX12_wrongValue_30 : decode cX12_wrongValue 30 = .ok (.if_icmp .lt 7, 3) := by decide +kernel
theorem dX12_wrongValue_33 : decode cX12_wrongValue 33 = .ok (.iconst 2, 1) := by decide +kernel
theorem dX12_wrongValue_34 : decode cX12_wrongValue 34 = .ok (.goto 4, 3) := by decide +kernel
theorem dX12_wrongValue_37 : decode cX12_wrongValue 37 = .ok (.iconst 0, 1) := by decide +kernel
theorem dX12_wrongValue_38 : decode cX12_wrongValue 38 = .ok (.ireturn, 1) := by decide +kernel
theorem dX12_valueTop_0 : decode cX12_valueTop 0 = .ok (.aload_n 0, 1) := by decide +kernel
theorem dX12_valueTop_1 : decode cX12_valueTop 1 = .ok (.aload_n 0, 1) := by decide +kernel
theorem dX12_valueTop_2 : decode cX12_valueTop 2 = .ok (.iload_n 1, 1) := by decide +kernel
theorem dX12_valueTop_3 : decode cX12_valueTop 3 = .ok (.invokevirtual 293, 3) := by decide +kernel
theorem dX12_valueTop_6 : decode cX12_valueTop 6 = .ok (.putfield 39, 3) := by decide +kernel
theorem dX12_valueTop_9 : decode cX12_valueTop 9 = .ok (.aload_n 0, 1) := by decide +kernel
theorem dX12_valueTop_10 : decode cX12_valueTop 10 = .ok (.getfield 39, 3) := by decide +kernel
theorem dX12_valueTop_13 : decode cX12_valueTop 13 = .ok (.ifCond .le 7, 3) := by decide +kernel
theorem dX12_valueTop_16 : decode cX12_valueTop 16 = .ok (.lconst 0, 1) := by decide +kernel
theorem dX12_valueTop_17 : decode cX12_valueTop 17 = .ok (.goto 9, 3) := by decide +kernel
theorem dX12_valueTop_20 : decode cX12_valueTop 20 = .ok (.aload_n 0, 1) := by decide +kernel
theorem dX12_valueTop_21 : decode cX12_valueTop 21 = .ok (.getfield 99, 3) := by decide +kernel
theorem dX12_valueTop_24 : decode cX12_valueTop 24 = .ok (.iload_n 1, 1) := by decide +kernel
theorem dX12_valueTop_25 : decode cX12_valueTop 25 = .ok (.laload, 1) := by decide +kernel
theorem dX12_valueTop_26 : decode cX12_valueTop 26 = .ok (.lreturn, 1) := by decide +kernel
theorem dX12_valueBottom_0 : decode cX12_valueBottom 0 = .ok (.aload_n 0, 1) := by decide +kernel
theorem dX12_valueBottom_1 : decode cX12_valueBottom 1 = .ok (.aload_n 0, 1) := by decide +kernel
theorem dX12_valueBottom_2 : decode cX12_valueBottom 2 = .ok (.iload_n 1, 1) := by decide +kernel
theorem dX12_valueBottom_3 : decode cX12_valueBottom 3 = .ok (.invokevirtual 293, 3) := by decide +kernel
theorem dX12_valueBottom_6 : decode cX12_valueBottom 6 = .ok (.putfield 39, 3) := by decide +kernel
theorem dX12_valueBottom_9 : decode cX12_valueBottom 9 = .ok (.aload_n 0, 1) := by decide +kernel
theorem dX12_valueBottom_10 : decode cX12_valueBottom 10 = .ok (.getfield 39, 3) := by decide +kernel
theorem dX12_valueBottom_13 : decode cX12_valueBottom 13 = .ok (.ifCond .le 7, 3) := by decide +kernel
theorem dX12_valueBottom_16 : decode cX12_valueBottom 16 = .ok (.lconst 0, 1) := by decide +kernel
theorem dX12_valueBottom_17 : decode cX12_valueBottom 17 = .ok (.goto 9, 3) := by decide +kernel
theorem dX12_valueBottom_20 : decode cX12_valueBottom 20 = .ok (.aload_n 0, 1) := by decide +kernel
theorem dX12_valueBottom_21 : decode cX12_valueBottom 21 = .ok (.getfield 102, 3) := by decide +kernel
theorem dX12_valueBottom_24 : decode cX12_valueBottom 24 = .ok (.iload_n 1, 1) := by decide +kernel
theorem dX12_valueBottom_25 : decode cX12_valueBottom 25 = .ok (.laload, 1) := by decide +kernel
theorem dX12_valueBottom_26 : decode cX12_valueBottom 26 = .ok (.lreturn, 1) := by decide +kernel
theorem dX12_topByPoints_0 : decode cX12_topByPoints 0 = .ok (.aload_n 0, 1) := by decide +kernel
theorem dX12_topByPoints_1 : decode cX12_topByPoints 1 = .ok (.invokevirtual 287, 3) := by decide +kernel
theorem dX12_topByPoints_4 : decode cX12_topByPoints 4 = .ok (.aload_n 0, 1) := by decide +kernel
theorem dX12_topByPoints_5 : decode cX12_topByPoints 5 = .ok (.aload_n 0, 1) := by decide +kernel
theorem dX12_topByPoints_6 : decode cX12_topByPoints 6 = .ok (.iload_n 1, 1) := by decide +kernel
theorem dX12_topByPoints_7 : decode cX12_topByPoints 7 = .ok (.invokevirtual 290, 3) := by decide +kernel
theorem dX12_topByPoints_10 : decode cX12_topByPoints 10 = .ok (.ifCond .ne 7, 3) := by decide +kernel
theorem dX12_topByPoints_13 : decode cX12_topByPoints 13 = .ok (.iconst 1, 1) := by decide +kernel
theorem dX12_topByPoints_14 : decode cX12_topByPoints 14 = .ok (.goto 17, 3) := by decide +kernel
theorem dX12_topByPoints_17 : decode cX12_topByPoints 17 = .ok (.aload_n 0, 1) := by decide +kernel
theorem dX12_topByPoints_18 : decode cX12_topByPoints 18 = .ok (.getfield 123, 3) := by decide +kernel
theorem dX12_topByPoints_21 : decode cX12_topByPoints 21 = .ok (.bipush 111, 2) := by decide +kernel
theorem dX12_topByPoints_23 : decode cX12_topByPoints 23 = .ok (.if_icmp .eq 7, 3) := by decide +kernel
theorem dX12_topByPoints_26 : decode cX12_topByPoints 26 = .ok (.iconst 2, 1) := by decide +kernel
theorem dX12_topByPoints_27 : decode cX12_topByPoints 27 = .ok (.goto 4, 3) := by decide +kernel
theorem dX12_topByPoints_30 : decode cX12_topByPoints 30 = .ok (.iconst 0, 1) := by decide +kernel
theorem dX12_topByPoints_31 : decode cX12_topByPoints 31 = .ok (.putfield 39, 3) := by decide +kernel
theorem dX12_topByPoints_34 : decode cX12_topByPoints 34 = .ok (.aload_n 0, 1) := by decide +kernel
theorem dX12_topByPoints_35 : decode cX12_topByPoints 35 = .ok (.getfield 39, 3) := by decide +kernel
theorem dX12_topByPoints_38 : decode cX12_topByPoints 38 = .ok (.ifCond .le 7, 3) := by decide +kernel
theorem dX12_topByPoints_41 : decode cX12_topByPoints 41 = .ok (.lconst 0, 1) := by decide +kernel
theorem dX12_topByPoints_42 : decode cX12_topByPoints 42 = .ok (.goto 9, 3) := by decide +kernel
theorem dX12_topByPoints_45 : decode cX12_topByPoints 45 = .ok (.aload_n 0, 1) := by decide +kernel
theorem dX12_topByPoints_46 : decode cX12_topByPoints 46 = .ok (.getfield 99, 3) := by decide +kernel
theorem dX12_topByPoints_49 : decode cX12_topByPoints 49 = .ok (.iload_n 1, 1) := by decide +kernel
theorem dX12_topByPoints_50 : decode cX12_topByPoints 50 = .ok (.laload, 1) := by decide +kernel
theorem dX12_topByPoints_51 : decode cX12_topByPoints 51 = .ok (.lreturn, 1) := by decide +kernel
theorem dX12_wrongPoint_0 : decode cX12_wrongPoint 0 = .ok (.aload_n 0, 1) := by decide +kernel
theorem dX12_wrongPoint_1 : decode cX12_wrongPoint 1 = .ok (.invokevirtual 287, 3) := by decide +kernel
theorem dX12_wrongPoint_4 : decode cX12_wrongPoint 4 = .ok (.aload_n 0, 1) := by decide +kernel
theorem dX12_wrongPoint_5 : decode cX12_wrongPoint 5 = .ok (.iload_n 1, 1) := by decide +kernel
theorem dX12_wrongPoint_6 : decode cX12_wrongPoint 6 = .ok (.invokevirtual 139, 3) := by decide +kernel
theorem dX12_wrongPoint_9 : decode cX12_wrongPoint 9 = .ok (.ifCond .ne 7, 3) := by decide +kernel
theorem dX12_wrongPoint_12 : decode cX12_wrongPoint 12 = .ok (.iconst 1, 1) := by decide +kernel
theorem dX12_wrongPoint_13 : decode cX12_wrongPoint 13 = .ok (.goto 17, 3) := by decide +kernel
theorem dX12_wrongPoint_16 : decode cX12_wrongPoint 16 = .ok (.aload_n 0, 1) := by decide +kernel
theorem dX12_wrongPoint_17 : decode cX12_wrongPoint 17 = .ok (.getfield 123, 3) := by decide +kernel
theorem dX12_wrongPoint_20 : decode cX12_wrongPoint 20 = .ok (.bipush 111, 2) := by decide +kernel
theorem dX12_wrongPoint_22 : decode cX12_wrongPoint 22 = .ok (.if_icmp .eq 7, 3) := by decide +kernel
theorem dX12_wrongPoint_25 : decode cX12_wrongPoint 25 = .ok (.iconst 2, 1) := by decide +kernel
theorem dX12_wrongPoint_26 : decode cX12_wrongPoint 26 = .ok (.goto 4, 3) := by decide +kernel
theorem dX12_wrongPoint_29 : decode cX12_wrongPoint 29 = .ok (.iconst 0, 1) := by decide +kernel
theorem dX12_wrongPoint_30 : decode cX12_wrongPoint 30 = .ok (.ireturn, 1) := by decide +kernel
theorem dX12_pointTop_0 : decode cX12_pointTop 0 = .ok (.aload_n 0, 1) := by decide +kernel
theorem dX12_pointTop_1 : decode cX12_pointTop 1 = .ok (.aload_n 0, 1) := by decide +kernel
theorem dX12_pointTop_2 : decode cX12_pointTop 2 = .ok (.iload_n 1, 1) := by decide +kernel
theorem dX12_pointTop_3 : decode cX12_pointTop 3 = .ok (.invokevirtual 296, 3) := by decide +kernel
theorem dX12_pointTop_6 : decode cX12_pointTop 6 = .ok (.putfield 39, 3) := by decide +kernel
theorem dX12_pointTop_9 : decode cX12_pointTop 9 = .ok (.aload_n 0, 1) := by decide +kernel
theorem dX12_pointTop_10 : decode cX12_pointTop 10 = .ok (.getfield 39, 3) := by decide +kernel
theorem dX12_pointTop_13 : decode cX12_pointTop 13 = .ok (.ifCond .le 7, 3) := by decide +kernel
theorem dX12_pointTop_16 : decode cX12_pointTop 16 = .ok (.lconst 0, 1) := by decide +kernel
theorem dX12_pointTop_17 : decode cX12_pointTop 17 = .ok (.goto 42, 3) := by decide +kernel
theorem dX12_pointTop_20 : decode cX12_pointTop 20 = .ok (.aload_n 0, 1) := by decide +kernel
theorem dX12_pointTop_21 : decode cX12_pointTop 21 = .ok (.getfield 78, 3) := by decide +kernel
theorem dX12_pointTop_24 : decode cX12_pointTop 24 = .ok (.iconst 3, 1) := by decide +kernel
theorem dX12_pointTop_25 : decode cX12_pointTop 25 = .ok (.aload_n 0, 1) := by decide +kernel
theorem dX12_pointTop_26 : decode cX12_pointTop 26 = .ok (.getfield 120, 3) := by decide +kernel
theorem dX12_pointTop_29 : decode cX12_pointTop 29 = .ok (.imul, 1) := by decide +kernel
theorem dX12_pointTop_30 : decode cX12_pointTop 30 = .ok (.iload_n 1, 1) := by decide +kernel
theorem dX12_pointTop_31 : decode cX12_pointTop 31 = .ok (.iadd, 1) := by decide +kernel
theorem dX12_pointTop_32 : decode cX12_pointTop 32 = .ok (.laload, 1) := by decide +kernel
theorem dX12_pointTop_33 : decode cX12_pointTop 33 = .ok (.aload_n 0, 1) := by decide +kernel
theorem dX12_pointTop_34 : decode cX12_pointTop 34 = .ok (.getfield 78, 3) := by decide +kernel
theorem dX12_pointTop_37 : decode cX12_pointTop 37 = .ok (.iconst 3, 1) := by decide +kernel
theorem dX12_pointTop_38 : decode cX12_pointTop 38 = .ok (.aload_n 0, 1) := by decide +kernel
theorem dX12_pointTop_39 : decode cX12_pointTop 39 = .ok (.getfield 120, 3) := by decide +kernel
theorem dX12_pointTop_42 : decode cX12_pointTop 42 = .ok (.imul, 1) := by decide +kernel
theorem dX12_pointTop_43 : decode cX12_pointTop 43 = .ok (.iload_n 1, 1) := by decide +kernel
theorem dX12_pointTop_44 : decode cX12_pointTop 44 = .ok (.iadd, 1) := by decide +kernel
theorem dX12_pointTop_45 : decode cX12_pointTop 45 = .ok (.laload, 1) := by decide +kernel
theorem dX12_pointTop_46 : decode cX12_pointTop 46 = .ok (.aload_n 0, 1) := by decide +kernel
theorem dX12_pointTop_47 : decode cX12_pointTop 47 = .ok (.getfield 81, 3) := by decide +kernel
theorem dX12_pointTop_50 : decode cX12_pointTop 50 = .ok (.aload_n 0, 1) := by decide +kernel
theorem dX12_pointTop_51 : decode cX12_pointTop 51 = .ok (.getfield 120, 3) := by decide +kernel
theorem dX12_pointTop_54 : decode cX12_pointTop 54 = .ok (.laload, 1) := by decide +kernel
theorem dX12_pointTop_55 : decode cX12_pointTop 55 = .ok (.invokestatic 260, 3) := by decide +kernel
theorem dX12_pointTop_58 : decode cX12_pointTop 58 = .ok (.ldiv, 1) := by decide +kernel
theorem dX12_pointTop_59 : decode cX12_pointTop 59 = .ok (.lreturn, 1) := by decide +kernel
theorem dX12_pointBottom_0 : decode cX12_pointBottom 0 = .ok (.aload_n 0, 1) := by decide +kernel
theorem dX12_pointBottom_1 : decode cX12_pointBottom 1 = .ok (.aload_n 0, 1) := by decide +kernel
theorem dX12_pointBottom_2 : decode cX12_pointBottom 2 = .ok (.iload_n 1, 1) := by decide +kernel
theorem dX12_pointBottom_3 : decode cX12_pointBottom 3 = .ok (.invokevirtual 296, 3) := by decide +kernel
theorem dX12_pointBottom_6 : decode cX12_pointBottom 6 = .ok (.putfield 39, 3) := by decide +kernel
theorem dX12_pointBottom_9 : decode cX12_pointBottom 9 = .ok (.aload_n 0, 1) := by decide +kernel
theorem dX12_pointBottom_10 : decode cX12_pointBottom 10 = .ok (.getfield 39, 3) := by decide +kernel
theorem dX12_pointBottom_13 : decode cX12_pointBottom 13 = .ok (.ifCond .le 7, 3) := by decide +kernel
theorem dX12_pointBottom_16 : decode cX12_pointBottom 16 = .ok (.lconst 0, 1) := by decide +kernel
theorem dX12_pointBottom_17 : decode cX12_pointBottom 17 = .ok (.goto 38, 3) := by decide +kernel
theorem dX12_pointBottom_20 : decode cX12_pointBottom 20 = .ok (.aload_n 0, 1) := by decide +kernel
theorem dX12_pointBottom_21 : decode cX12_pointBottom 21 = .ok (.getfield 81, 3) := by decide +kernel
theorem dX12_pointBottom_24 : decode cX12_pointBottom 24 = .ok (.aload_n 0, 1) := by decide +kernel
theorem dX12_pointBottom_25 : decode cX12_pointBottom 25 = .ok (.getfield 120, 3) := by decide +kernel
theorem dX12_pointBottom_28 : decode cX12_pointBottom 28 = .ok (.laload, 1) := by decide +kernel
theorem dX12_pointBottom_29 : decode cX12_pointBottom 29 = .ok (.aload_n 0, 1) := by decide +kernel
theorem dX12_pointBottom_30 : decode cX12_pointBottom 30 = .ok (.getfield 78, 3) := by decide +kernel
theorem dX12_pointBottom_33 : decode cX12_pointBottom 33 = .ok (.iconst 3, 1) := by decide +kernel
theorem dX12_pointBottom_34 : decode cX12_pointBottom 34 = .ok (.aload_n 0, 1) := by decide +kernel
theorem dX12_pointBottom_35 : decode cX12_pointBottom 35 = .ok (.getfield 120, 3) := by decide +kernel
theorem dX12_pointBottom_38 : decode cX12_pointBottom 38 = .ok (.imul, 1) := by decide +kernel
theorem dX12_pointBottom_39 : decode cX12_pointBottom 39 = .ok (.iload_n 1, 1) := by decide +kernel
theorem dX12_pointBottom_40 : decode cX12_pointBottom 40 = .ok (.iadd, 1) := by decide +kernel
theorem dX12_pointBottom_41 : decode cX12_pointBottom 41 = .ok (.laload, 1) := by decide +kernel
theorem dX12_pointBottom_42 : decode cX12_pointBottom 42 = .ok (.aload_n 0, 1) := by decide +kernel
theorem dX12_pointBottom_43 : decode cX12_pointBottom 43 = .ok (.getfield 81, 3) := by decide +kernel
theorem dX12_pointBottom_46 : decode cX12_pointBottom 46 = .ok (.aload_n 0, 1) := by decide +kernel
theorem dX12_pointBottom_47 : decode cX12_pointBottom 47 = .ok (.getfield 120, 3) := by decide +kernel
theorem dX12_pointBottom_50 : decode cX12_pointBottom 50 = .ok (.laload, 1) := by decide +kernel
theorem dX12_pointBottom_51 : decode cX12_pointBottom 51 = .ok (.invokestatic 260, 3) := by decide +kernel
theorem dX12_pointBottom_54 : decode cX12_pointBottom 54 = .ok (.ldiv, 1) := by decide +kernel
theorem dX12_pointBottom_55 : decode cX12_pointBottom 55 = .ok (.lreturn, 1) := by decide +kernel
theorem dX12_isRowTight_0 : decode cX12_isRowTight 0 = .ok (.lconst 0, 1) := by decide +kernel
theorem dX12_isRowTight_1 : decode cX12_isRowTight 1 = .ok (.lstore_n 2, 1) := by decide +kernel
theorem dX12_isRowTight_2 : decode cX12_isRowTight 2 = .ok (.iconst 0, 1) := by decide +kernel
theorem dX12_isRowTight_3 : decode cX12_isRowTight 3 = .ok (.istore 4, 2) := by decide +kernel
theorem dX12_isRowTight_5 : decode cX12_isRowTight 5 = .ok (.iload 4, 2) := by decide +kernel
theorem dX12_isRowTight_7 : decode cX12_isRowTight 7 = .ok (.iconst 3, 1) := by decide +kernel
theorem dX12_isRowTight_8 : decode cX12_isRowTight 8 = .ok (.if_icmp .ge 39, 3) := by decide +kernel
theorem dX12_isRowTight_11 : decode cX12_isRowTight 11 = .ok (.lload_n 2, 1) := by decide +kernel
theorem dX12_isRowTight_12 : decode cX12_isRowTight 12 = .ok (.aload_n 0, 1) := by decide +kernel
theorem dX12_isRowTight_13 : decode cX12_isRowTight 13 = .ok (.getfield 16, 3) := by decide +kernel
theorem dX12_isRowTight_16 : decode cX12_isRowTight 16 = .ok (.iconst 3, 1) := by decide +kernel
theorem dX12_isRowTight_17 : decode cX12_isRowTight 17 = .ok (.iload_n 1, 1) := by decide +kernel
theorem dX12_isRowTight_18 : decode cX12_isRowTight 18 = .ok (.imul, 1) := by decide +kernel
theorem dX12_isRowTight_19 : decode cX12_isRowTight 19 = .ok (.iload 4, 2) := by decide +kernel
theorem dX12_isRowTight_21 : decode cX12_isRowTight 21 = .ok (.iadd, 1) := by decide +kernel
theorem dX12_isRowTight_22 : decode cX12_isRowTight 22 = .ok (.iaload, 1) := by decide +kernel
theorem dX12_isRowTight_23 : decode cX12_isRowTight 23 = .ok (.i2l, 1) := by decide +kernel
theorem dX12_isRowTight_24 : decode cX12_isRowTight 24 = .ok (.aload_n 0, 1) := by decide +kernel
theorem dX12_isRowTight_25 : decode cX12_isRowTight 25 = .ok (.getfield 78, 3) := by decide +kernel
theorem dX12_isRowTight_28 : decode cX12_isRowTight 28 = .ok (.iconst 3, 1) := by decide +kernel
theorem dX12_isRowTight_29 : decode cX12_isRowTight 29 = .ok (.aload_n 0, 1) := by decide +kernel
theorem dX12_isRowTight_30 : decode cX12_isRowTight 30 = .ok (.getfield 120, 3) := by decide +kernel
theorem dX12_isRowTight_33 : decode cX12_isRowTight 33 = .ok (.imul, 1) := by decide +kernel
theorem dX12_isRowTight_34 : decode cX12_isRowTight 34 = .ok (.iload 4, 2) := by decide +kernel
theorem dX12_isRowTight_36 : decode cX12_isRowTight 36 = .ok (.iadd, 1) := by decide +kernel
theorem dX12_isRowTight_37 : decode cX12_isRowTight 37 = .ok (.laload, 1) := by decide +kernel
theorem dX12_isRowTight_38 : decode cX12_isRowTight 38 = .ok (.lmul, 1) := by decide +kernel
theorem dX12_isRowTight_39 : decode cX12_isRowTight 39 = .ok (.ladd, 1) := by decide +kernel
theorem dX12_isRowTight_40 : decode cX12_isRowTight 40 = .ok (.lstore_n 2, 1) := by decide +kernel
theorem dX12_isRowTight_41 : decode cX12_isRowTight 41 = .ok (.iinc 4 1, 3) := by decide +kernel
theorem dX12_isRowTight_44 : decode cX12_isRowTight 44 = .ok (.goto (-39), 3) := by decide +kernel
theorem dX12_isRowTight_47 : decode cX12_isRowTight 47 = .ok (.lload_n 2, 1) := by decide +kernel
theorem dX12_isRowTight_48 : decode cX12_isRowTight 48 = .ok (.aload_n 0, 1) := by decide +kernel
theorem dX12_isRowTight_49 : decode cX12_isRowTight 49 = .ok (.getfield 22, 3) := by decide +kernel
theorem dX12_isRowTight_52 : decode cX12_isRowTight 52 = .ok (.iload_n 1, 1) := by decide +kernel
theorem dX12_isRowTight_53 : decode cX12_isRowTight 53 = .ok (.iaload, 1) := by decide +kernel
theorem dX12_isRowTight_54 : decode cX12_isRowTight 54 = .ok (.i2l, 1) := by decide +kernel
theorem dX12_isRowTight_55 : decode cX12_isRowTight 55 = .ok (.aload_n 0, 1) := by decide +kernel
theorem dX12_isRowTight_56 : decode cX12_isRowTight 56 = .ok (.getfield 81, 3) := by decide +kernel
theorem dX12_isRowTight_59 : decode cX12_isRowTight 59 = .ok (.aload_n 0, 1) := by decide +kernel
theorem dX12_isRowTight_60 : decode cX12_isRowTight 60 = .ok (.getfield 120, 3) := by decide +kernel
theorem dX12_isRowTight_63 : decode cX12_isRowTight 63 = .ok (.laload, 1) := by decide +kernel
theorem dX12_isRowTight_64 : decode cX12_isRowTight 64 = .ok (.lmul, 1) := by decide +kernel
theorem dX12_isRowTight_65 : decode cX12_isRowTight 65 = .ok (.lcmp, 1) := by decide +kernel
theorem dX12_isRowTight_66 : decode cX12_isRowTight 66 = .ok (.ifCond .ne 7, 3) := by decide +kernel
theorem dX12_isRowTight_69 : decode cX12_isRowTight 69 = .ok (.iconst 1, 1) := by decide +kernel
theorem dX12_isRowTight_70 : decode cX12_isRowTight 70 = .ok (.goto 4, 3) := by decide +kernel
theorem dX12_isRowTight_73 : decode cX12_isRowTight 73 = .ok (.iconst 0, 1) := by decide +kernel
theorem dX12_isRowTight_74 : decode cX12_isRowTight 74 = .ok (.ireturn, 1) := by decide +kernel
theorem dX12_isTight_0 : decode cX12_isTight 0 = .ok (.aload_n 0, 1) := by decide +kernel
theorem dX12_isTight_1 : decode cX12_isTight 1 = .ok (.invokevirtual 287, 3) := by decide +kernel
theorem dX12_isTight_4 : decode cX12_isTight 4 = .ok (.aload_n 0, 1) := by decide +kernel
theorem dX12_isTight_5 : decode cX12_isTight 5 = .ok (.aload_n 0, 1) := by decide +kernel
theorem dX12_isTight_6 : decode cX12_isTight 6 = .ok (.iload_n 1, 1) := by decide +kernel
theorem dX12_isTight_7 : decode cX12_isTight 7 = .ok (.invokevirtual 202, 3) := by decide +kernel
theorem dX12_isTight_10 : decode cX12_isTight 10 = .ok (.putfield 39, 3) := by decide +kernel
theorem dX12_isTight_13 : decode cX12_isTight 13 = .ok (.aload_n 0, 1) := by decide +kernel
theorem dX12_isTight_14 : decode cX12_isTight 14 = .ok (.getfield 39, 3) := by decide +kernel
theorem dX12_isTight_17 : decode cX12_isTight 17 = .ok (.ifCond .ne 21, 3) := by decide +kernel
theorem dX12_isTight_20 : decode cX12_isTight 20 = .ok (.aload_n 0, 1) := by decide +kernel
theorem dX12_isTight_21 : decode cX12_isTight 21 = .ok (.aload_n 0, 1) := by decide +kernel
theorem dX12_isTight_22 : decode cX12_isTight 22 = .ok (.getfield 123, 3) := by decide +kernel
theorem dX12_isTight_25 : decode cX12_isTight 25 = .ok (.bipush 111, 2) := by decide +kernel
theorem dX12_isTight_27 : decode cX12_isTight 27 = .ok (.if_icmp .eq 7, 3) := by decide +kernel
theorem dX12_isTight_30 : decode cX12_isTight 30 = .ok (.iconst 3, 1) := by decide +kernel
theorem dX12_isTight_31 : decode cX12_isTight 31 = .ok (.goto 4, 3) := by decide +kernel
theorem dX12_isTight_34 : decode cX12_isTight 34 = .ok (.iconst 0, 1) := by decide +kernel
theorem dX12_isTight_35 : decode cX12_isTight 35 = .ok (.putfield 39, 3) := by decide +kernel
theorem dX12_isTight_38 : decode cX12_isTight 38 = .ok (.aload_n 0, 1) := by decide +kernel
theorem dX12_isTight_39 : decode cX12_isTight 39 = .ok (.getfield 39, 3) := by decide +kernel
theorem dX12_isTight_42 : decode cX12_isTight 42 = .ok (.ifCond .ne 15, 3) := by decide +kernel
theorem dX12_isTight_45 : decode cX12_isTight 45 = .ok (.aload_n 0, 1) := by decide +kernel
theorem dX12_isTight_46 : decode cX12_isTight 46 = .ok (.iload_n 1, 1) := by decide +kernel
theorem dX12_isTight_47 : decode cX12_isTight 47 = .ok (.invokevirtual 299, 3) := by decide +kernel
theorem dX12_isTight_50 : decode cX12_isTight 50 = .ok (.ifCond .eq 7, 3) := by decide +kernel
theorem dX12_isTight_53 : decode cX12_isTight 53 = .ok (.iconst 1, 1) := by decide +kernel
theorem dX12_isTight_54 : decode cX12_isTight 54 = .ok (.goto 4, 3) := by decide +kernel
theorem dX12_isTight_57 : decode cX12_isTight 57 = .ok (.iconst 0, 1) := by decide +kernel
theorem dX12_isTight_58 : decode cX12_isTight 58 = .ok (.ireturn, 1) := by decide +kernel
theorem dX12_tightRows_0 : decode cX12_tightRows 0 = .ok (.iconst 0, 1) := by decide +kernel
theorem dX12_tightRows_1 : decode cX12_tightRows 1 = .ok (.istore_n 1, 1) := by decide +kernel
theorem dX12_tightRows_2 : decode cX12_tightRows 2 = .ok (.iconst 0, 1) := by decide +kernel
theorem dX12_tightRows_3 : decode cX12_tightRows 3 = .ok (.istore_n 2, 1) := by decide +kernel
theorem dX12_tightRows_4 : decode cX12_tightRows 4 = .ok (.iload_n 2, 1) := by decide +kernel
theorem dX12_tightRows_5 : decode cX12_tightRows 5 = .ok (.aload_n 0, 1) := by decide +kernel
theorem dX12_tightRows_6 : decode cX12_tightRows 6 = .ok (.getfield 46, 3) := by decide +kernel
theorem dX12_tightRows_9 : decode cX12_tightRows 9 = .ok (.if_icmp .ge 34, 3) := by decide +kernel
theorem dX12_tightRows_12 : decode cX12_tightRows 12 = .ok (.iload_n 1, 1) := by decide +kernel
theorem dX12_tightRows_13 : decode cX12_tightRows 13 = .ok (.aload_n 0, 1) := by decide +kernel
theorem dX12_tightRows_14 : decode cX12_tightRows 14 = .ok (.getfield 28, 3) := by decide +kernel
theorem dX12_tightRows_17 : decode cX12_tightRows 17 = .ok (.iload_n 2, 1) := by decide +kernel
theorem dX12_tightRows_18 : decode cX12_tightRows 18 = .ok (.baload, 1) := by decide +kernel
theorem dX12_tightRows_19 : decode cX12_tightRows 19 = .ok (.ifCond .ne 15, 3) := by decide +kernel
theorem dX12_tightRows_22 : decode cX12_tightRows 22 = .ok (.aload_n 0, 1) := by decide +kernel
theorem dX12_tightRows_23 : decode cX12_tightRows 23 = .ok (.iload_n 2, 1) := by decide +kernel
theorem dX12_tightRows_24 : decode cX12_tightRows 24 = .ok (.invokevirtual 299, 3) := by decide +kernel
theorem dX12_tightRows_27 : decode cX12_tightRows 27 = .ok (.ifCond .eq 7, 3) := by decide +kernel
theorem dX12_tightRows_30 : decode cX12_tightRows 30 = .ok (.iconst 1, 1) := by decide +kernel
theorem dX12_tightRows_31 : decode cX12_tightRows 31 = .ok (.goto 4, 3) := by decide +kernel
theorem dX12_tightRows_34 : decode cX12_tightRows 34 = .ok (.iconst 0, 1) := by decide +kernel
theorem dX12_tightRows_35 : decode cX12_tightRows 35 = .ok (.iadd, 1) := by decide +kernel
theorem dX12_tightRows_36 : decode cX12_tightRows 36 = .ok (.istore_n 1, 1) := by decide +kernel
theorem dX12_tightRows_37 : decode cX12_tightRows 37 = .ok (.iinc 2 1, 3) := by decide +kernel
theorem dX12_tightRows_40 : decode cX12_tightRows 40 = .ok (.goto (-36), 3) := by decide +kernel
theorem dX12_tightRows_43 : decode cX12_tightRows 43 = .ok (.iload_n 1, 1) := by decide +kernel
theorem dX12_tightRows_44 : decode cX12_tightRows 44 = .ok (.ireturn, 1) := by decide +kernel
theorem dX12_tight_0 : decode cX12_tight 0 = .ok (.aload_n 0, 1) := by decide +kernel
theorem dX12_tight_1 : decode cX12_tight 1 = .ok (.invokevirtual 287, 3) := by decide +kernel
theorem dX12_tight_4 : decode cX12_tight 4 = .ok (.aload_n 0, 1) := by decide +kernel
theorem dX12_tight_5 : decode cX12_tight 5 = .ok (.aload_n 0, 1) := by decide +kernel
theorem dX12_tight_6 : decode cX12_tight 6 = .ok (.getfield 123, 3) := by decide +kernel
theorem dX12_tight_9 : decode cX12_tight 9 = .ok (.bipush 111, 2) := by decide +kernel
theorem dX12_tight_11 : decode cX12_tight 11 = .ok (.if_icmp .ne 7, 3) := by decide +kernel
theorem dX12_tight_14 : decode cX12_tight 14 = .ok (.iconst 1, 1) := by decide +kernel
theorem dX12_tight_15 : decode cX12_tight 15 = .ok (.goto 4, 3) := by decide +kernel
theorem dX12_tight_18 : decode cX12_tight 18 = .ok (.iconst 0, 1) := by decide +kernel
theorem dX12_tight_19 : decode cX12_tight 19 = .ok (.invokevirtual 188, 3) := by decide +kernel
theorem dX12_tight_22 : decode cX12_tight 22 = .ok (.ifCond .le 5, 3) := by decide +kernel
theorem dX12_tight_25 : decode cX12_tight 25 = .ok (.iconst 0, 1) := by decide +kernel
theorem dX12_tight_26 : decode cX12_tight 26 = .ok (.ireturn, 1) := by decide +kernel
theorem dX12_tight_27 : decode cX12_tight 27 = .ok (.aload_n 0, 1) := by decide +kernel
theorem dX12_tight_28 : decode cX12_tight 28 = .ok (.invokevirtual 302, 3) := by decide +kernel
theorem dX12_tight_31 : decode cX12_tight 31 = .ok (.istore_n 1, 1) := by decide +kernel
theorem dX12_tight_32 : decode cX12_tight 32 = .ok (.iconst 0, 1) := by decide +kernel
theorem dX12_tight_33 : decode cX12_tight 33 = .ok (.istore_n 2, 1) := by decide +kernel
theorem dX12_tight_34 : decode cX12_tight 34 = .ok (.iload_n 2, 1) := by decide +kernel
theorem dX12_tight_35 : decode cX12_tight 35 = .ok (.aload_n 0, 1) := by decide +kernel
theorem dX12_tight_36 : decode cX12_tight 36 = .ok (.getfield 43, 3) := by decide +kernel
theorem dX12_tight_39 : decode cX12_tight 39 = .ok (.if_icmp .ge 104, 3) := by decide +kernel
theorem dX12_tight_42 : decode cX12_tight 42 = .ok (.iload_n 1, 1) := by decide +kernel
theorem dX12_tight_43 : decode cX12_tight 43 = .ok (.aload_n 0, 1) := by decide +kernel
theorem dX12_tight_44 : decode cX12_tight 44 = .ok (.getfield 78, 3) := by decide +kernel
theorem dX12_tight_47 : decode cX12_tight 47 = .ok (.iconst 3, 1) := by decide +kernel
theorem dX12_tight_48 : decode cX12_tight 48 = .ok (.aload_n 0, 1) := by decide +kernel
theorem dX12_tight_49 : decode cX12_tight 49 = .ok (.getfield 120, 3) := by decide +kernel
theorem dX12_tight_52 : decode cX12_tight 52 = .ok (.imul, 1) := by decide +kernel
theorem dX12_tight_53 : decode cX12_tight 53 = .ok (.iload_n 2, 1) := by decide +kernel
theorem dX12_tight_54 : decode cX12_tight 54 = .ok (.iadd, 1) := by decide +kernel
theorem dX12_tight_55 : decode cX12_tight 55 = .ok (.laload, 1) := by decide +kernel
theorem dX12_tight_56 : decode cX12_tight 56 = .ok (.aload_n 0, 1) := by decide +kernel
theorem dX12_tight_57 : decode cX12_tight 57 = .ok (.getfield 7, 3) := by decide +kernel
theorem dX12_tight_60 : decode cX12_tight 60 = .ok (.iload_n 2, 1) := by decide +kernel
theorem dX12_tight_61 : decode cX12_tight 61 = .ok (.iaload, 1) := by decide +kernel
theorem dX12_tight_62 : decode cX12_tight 62 = .ok (.i2l, 1) := by decide +kernel
theorem dX12_tight_63 : decode cX12_tight 63 = .ok (.aload_n 0, 1) := by decide +kernel
theorem dX12_tight_64 : decode cX12_tight 64 = .ok (.getfield 81, 3) := by decide +kernel
theorem dX12_tight_67 : decode cX12_tight 67 = .ok (.aload_n 0, 1) := by decide +kernel
theorem dX12_tight_68 : decode cX12_tight 68 = .ok (.getfield 120, 3) := by decide +kernel
theorem dX12_tight_71 : decode cX12_tight 71 = .ok (.laload, 1) := by decide +kernel
theorem dX12_tight_72 : decode cX12_tight 72 = .ok (.lmul, 1) := by decide +kernel
theorem dX12_tight_73 : decode cX12_tight 73 = .ok (.lcmp, 1) := by decide +kernel
theorem dX12_tight_74 : decode cX12_tight 74 = .ok (.ifCond .ne 7, 3) := by decide +kernel
theorem dX12_tight_77 : decode cX12_tight 77 = .ok (.iconst 1, 1) := by decide +kernel
theorem dX12_tight_78 : decode cX12_tight 78 = .ok (.goto 4, 3) := by decide +kernel
theorem dX12_tight_81 : decode cX12_tight 81 = .ok (.iconst 0, 1) := by decide +kernel
theorem dX12_tight_82 : decode cX12_tight 82 = .ok (.iadd, 1) := by decide +kernel
theorem dX12_tight_83 : decode cX12_tight 83 = .ok (.istore_n 1, 1) := by decide +kernel
theorem dX12_tight_84 : decode cX12_tight 84 = .ok (.iload_n 1, 1) := by decide +kernel
theorem dX12_tight_85 : decode cX12_tight 85 = .ok (.aload_n 0, 1) := by decide +kernel
theorem dX12_tight_86 : decode cX12_tight 86 = .ok (.getfield 13, 3) := by decide +kernel
theorem dX12_tight_89 : decode cX12_tight 89 = .ok (.iload_n 2, 1) := by decide +kernel
theorem dX12_tight_90 : decode cX12_tight 90 = .ok (.iaload, 1) := by decide +kernel
theorem dX12_tight_91 : decode cX12_tight 91 = .ok (.bipush 100, 2) := by decide +kernel
theorem dX12_tight_93 : decode cX12_tight 93 = .ok (.if_icmp .ge 41, 3) := by decide +kernel
theorem dX12_tight_96 : decode cX12_tight 96 = .ok (.aload_n 0, 1) := by decide +kernel
theorem dX12_tight_97 : decode cX12_tight 97 = .ok (.getfield 78, 3) := by decide +kernel
theorem dX12_tight_100 : decode cX12_tight 100 = .ok (.iconst 3, 1) := by decide +kernel
theorem dX12_tight_101 : decode cX12_tight 101 = .ok (.aload_n 0, 1) := by decide +kernel
theorem dX12_tight_102 : decode cX12_tight 102 = .ok (.getfield 120, 3) := by decide +kernel
theorem dX12_tight_105 : decode cX12_tight 105 = .ok (.imul, 1) := by decide +kernel
theorem dX12_tight_106 : decode cX12_tight 106 = .ok (.iload_n 2, 1) := by decide +kernel
theorem dX12_tight_107 : decode cX12_tight 107 = .ok (.iadd, 1) := by decide +kernel
theorem dX12_tight_108 : decode cX12_tight 108 = .ok (.laload, 1) := by decide +kernel
theorem dX12_tight_109 : decode cX12_tight 109 = .ok (.aload_n 0, 1) := by decide +kernel
theorem dX12_tight_110 : decode cX12_tight 110 = .ok (.getfield 13, 3) := by decide +kernel
theorem dX12_tight_113 : decode cX12_tight 113 = .ok (.iload_n 2, 1) := by decide +kernel
theorem dX12_tight_114 : decode cX12_tight 114 = .ok (.iaload, 1) := by decide +kernel
theorem dX12_tight_115 : decode cX12_tight 115 = .ok (.i2l, 1) := by decide +kernel
theorem dX12_tight_116 : decode cX12_tight 116 = .ok (.aload_n 0, 1) := by decide +kernel
theorem dX12_tight_117 : decode cX12_tight 117 = .ok (.getfield 81, 3) := by decide +kernel
theorem dX12_tight_120 : decode cX12_tight 120 = .ok (.aload_n 0, 1) := by decide +kernel
theorem dX12_tight_121 : decode cX12_tight 121 = .ok (.getfield 120, 3) := by decide +kernel
theorem dX12_tight_124 : decode cX12_tight 124 = .ok (.laload, 1) := by decide +kernel
theorem dX12_tight_125 : decode cX12_tight 125 = .ok (.lmul, 1) := by decide +kernel
theorem dX12_tight_126 : decode cX12_tight 126 = .ok (.lcmp, 1) := by decide +kernel
theorem dX12_tight_127 : decode cX12_tight 127 = .ok (.ifCond .ne 7, 3) := by decide +kernel
theorem dX12_tight_130 : decode cX12_tight 130 = .ok (.iconst 1, 1) := by decide +kernel
theorem dX12_tight_131 : decode cX12_tight 131 = .ok (.goto 4, 3) := by decide +kernel
theorem dX12_tight_134 : decode cX12_tight 134 = .ok (.iconst 0, 1) := by decide +kernel
theorem dX12_tight_135 : decode cX12_tight 135 = .ok (.iadd, 1) := by decide +kernel
theorem dX12_tight_136 : decode cX12_tight 136 = .ok (.istore_n 1, 1) := by decide +kernel
theorem dX12_tight_137 : decode cX12_tight 137 = .ok (.iinc 2 1, 3) := by decide +kernel
theorem dX12_tight_140 : decode cX12_tight 140 = .ok (.goto (-106), 3) := by decide +kernel
theorem dX12_tight_143 : decode cX12_tight 143 = .ok (.iload_n 1, 1) := by decide +kernel
theorem dX12_tight_144 : decode cX12_tight 144 = .ok (.ireturn, 1) := by decide +kernel
theorem dX12_isProved_0 : decode cX12_isProved 0 = .ok (.aload_n 0, 1) := by decide +kernel
theorem dX12_isProved_1 : decode cX12_isProved 1 = .ok (.iconst 0, 1) := by decide +kernel
theorem dX12_isProved_2 : decode cX12_isProved 2 = .ok (.putfield 39, 3) := by decide +kernel
theorem dX12_isProved_5 : decode cX12_isProved 5 = .ok (.iconst 1, 1) := by decide +kernel
theorem dX12_isProved_6 : decode cX12_isProved 6 = .ok (.ireturn, 1) := by decide +kernel
theorem dX12_wrongWorth_0 : decode cX12_wrongWorth 0 = .ok (.aload_n 0, 1) := by decide +kernel
theorem dX12_wrongWorth_1 : decode cX12_wrongWorth 1 = .ok (.iload_n 1, 1) := by decide +kernel
theorem dX12_wrongWorth_2 : decode cX12_wrongWorth 2 = .ok (.invokevirtual 199, 3) := by decide +kernel
theorem dX12_wrongWorth_5 : decode cX12_wrongWorth 5 = .ok (.ifCond .ne 7, 3) := by decide +kernel
theorem dX12_wrongWorth_8 : decode cX12_wrongWorth 8 = .ok (.iconst 1, 1) := by decide +kernel
theorem dX12_wrongWorth_9 : decode cX12_wrongWorth 9 = .ok (.goto 24, 3) := by decide +kernel
theorem dX12_wrongWorth_12 : decode cX12_wrongWorth 12 = .ok (.aload_n 0, 1) := by decide +kernel
theorem dX12_wrongWorth_13 : decode cX12_wrongWorth 13 = .ok (.getfield 28, 3) := by decide +kernel
theorem dX12_wrongWorth_16 : decode cX12_wrongWorth 16 = .ok (.iload_n 1, 1) := by decide +kernel
theorem dX12_wrongWorth_17 : decode cX12_wrongWorth 17 = .ok (.baload, 1) := by decide +kernel
theorem dX12_wrongWorth_18 : decode cX12_wrongWorth 18 = .ok (.ifCond .ne 10, 3) := by decide +kernel
theorem dX12_wrongWorth_21 : decode cX12_wrongWorth 21 = .ok (.aload_n 0, 1) := by decide +kernel
theorem dX12_wrongWorth_22 : decode cX12_wrongWorth 22 = .ok (.getfield 49, 3) := by decide +kernel
theorem dX12_wrongWorth_25 : decode cX12_wrongWorth 25 = .ok (.ifCond .ne 7, 3) := by decide +kernel
theorem dX12_wrongWorth_28 : decode cX12_wrongWorth 28 = .ok (.iconst 2, 1) := by decide +kernel
theorem dX12_wrongWorth_29 : decode cX12_wrongWorth 29 = .ok (.goto 4, 3) := by decide +kernel
theorem dX12_wrongWorth_32 : decode cX12_wrongWorth 32 = .ok (.iconst 0, 1) := by decide +kernel
theorem dX12_wrongWorth_33 : decode cX12_wrongWorth 33 = .ok (.istore_n 2, 1) := by decide +kernel
theorem dX12_wrongWorth_34 : decode cX12_wrongWorth 34 = .ok (.iload_n 2, 1) := by decide +kernel
theorem dX12_wrongWorth_35 : decode cX12_wrongWorth 35 = .ok (.ifCond .le 5, 3) := by decide +kernel
theorem dX12_wrongWorth_38 : decode cX12_wrongWorth 38 = .ok (.iload_n 2, 1) := by decide +kernel
theorem dX12_wrongWorth_39 : decode cX12_wrongWorth 39 = .ok (.ireturn, 1) := by decide +kernel
theorem dX12_wrongWorth_40 : decode cX12_wrongWorth 40 = .ok (.aload_n 0, 1) := by decide +kernel
theorem dX12_wrongWorth_41 : decode cX12_wrongWorth 41 = .ok (.invokevirtual 287, 3) := by decide +kernel
theorem dX12_wrongWorth_44 : decode cX12_wrongWorth 44 = .ok (.aload_n 0, 1) := by decide +kernel
theorem dX12_wrongWorth_45 : decode cX12_wrongWorth 45 = .ok (.getfield 123, 3) := by decide +kernel
theorem dX12_wrongWorth_48 : decode cX12_wrongWorth 48 = .ok (.bipush 105, 2) := by decide +kernel
theorem dX12_wrongWorth_50 : decode cX12_wrongWorth 50 = .ok (.if_icmp .eq 10, 3) := by decide +kernel
theorem dX12_wrongWorth_53 : decode cX12_wrongWorth 53 = .ok (.aload_n 0, 1) := by decide +kernel
theorem dX12_wrongWorth_54 : decode cX12_wrongWorth 54 = .ok (.getfield 117, 3) := by decide +kernel
theorem dX12_wrongWorth_57 : decode cX12_wrongWorth 57 = .ok (.ifCond .ne 5, 3) := by decide +kernel
theorem dX12_wrongWorth_60 : decode cX12_wrongWorth 60 = .ok (.iconst 3, 1) := by decide +kernel
theorem dX12_wrongWorth_61 : decode cX12_wrongWorth 61 = .ok (.ireturn, 1) := by decide +kernel
theorem dX12_wrongWorth_62 : decode cX12_wrongWorth 62 = .ok (.aload_n 0, 1) := by decide +kernel
theorem dX12_wrongWorth_63 : decode cX12_wrongWorth 63 = .ok (.getfield 99, 3) := by decide +kernel
theorem dX12_wrongWorth_66 : decode cX12_wrongWorth 66 = .ok (.iconst 0, 1) := by decide +kernel
theorem dX12_wrongWorth_67 : decode cX12_wrongWorth 67 = .ok (.laload, 1) := by decide +kernel
theorem dX12_wrongWorth_68 : decode cX12_wrongWorth 68 = .ok (.lstore_n 3, 1) := by decide +kernel
theorem dX12_wrongWorth_69 : decode cX12_wrongWorth 69 = .ok (.aload_n 0, 1) := by decide +kernel
theorem dX12_wrongWorth_70 : decode cX12_wrongWorth 70 = .ok (.getfield 102, 3) := by decide +kernel
theorem dX12_wrongWorth_73 : decode cX12_wrongWorth 73 = .ok (.iconst 0, 1) := by decide +kernel
theorem dX12_wrongWorth_74 : decode cX12_wrongWorth 74 = .ok (.laload, 1) := by decide +kernel
theorem dX12_wrongWorth_75 : decode cX12_wrongWorth 75 = .ok (.lstore 5, 2) := by decide +kernel
theorem dX12_wrongWorth_77 : decode cX12_wrongWorth 77 = .ok (.aload_n 0, 1) := by decide +kernel
theorem dX12_wrongWorth_78 : decode cX12_wrongWorth 78 = .ok (.aload_n 0, 1) := by decide +kernel
theorem dX12_wrongWorth_79 : decode cX12_wrongWorth 79 = .ok (.invokevirtual 281, 3) := by decide +kernel
theorem dX12_wrongWorth_82 : decode cX12_wrongWorth 82 = .ok (.iload_n 1, 1) := by decide +kernel
theorem dX12_wrongWorth_83 : decode cX12_wrongWorth 83 = .ok (.invokevirtual 284, 3) := by decide +kernel
theorem dX12_wrongWorth_86 : decode cX12_wrongWorth 86 = .ok (.aload_n 0, 1) := by decide +kernel
theorem dX12_wrongWorth_87 : decode cX12_wrongWorth 87 = .ok (.getfield 123, 3) := by decide +kernel
theorem dX12_wrongWorth_90 : decode cX12_wrongWorth 90 = .ok (.bipush 105, 2) := by decide +kernel
theorem dX12_wrongWorth_92 : decode cX12_wrongWorth 92 = .ok (.if_icmp .eq 10, 3) := by decide +kernel
theorem dX12_wrongWorth_95 : decode cX12_wrongWorth 95 = .ok (.aload_n 0, 1) := by decide +kernel
theorem dX12_wrongWorth_96 : decode cX12_wrongWorth 96 = .ok (.getfield 117, 3) := by decide +kernel
theorem dX12_wrongWorth_99 : decode cX12_wrongWorth 99 = .ok (.ifCond .ne 5, 3) := by decide +kernel
theorem dX12_wrongWorth_102 : decode cX12_wrongWorth 102 = .ok (.iconst 3, 1) := by decide +kernel
theorem dX12_wrongWorth_103 : decode cX12_wrongWorth 103 = .ok (.ireturn, 1) := by decide +kernel
theorem dX12_wrongWorth_104 : decode cX12_wrongWorth 104 = .ok (.aload_n 0, 1) := by decide +kernel
theorem dX12_wrongWorth_105 : decode cX12_wrongWorth 105 = .ok (.getfield 99, 3) := by decide +kernel
theorem dX12_wrongWorth_108 : decode cX12_wrongWorth 108 = .ok (.iconst 0, 1) := by decide +kernel
theorem dX12_wrongWorth_109 : decode cX12_wrongWorth 109 = .ok (.laload, 1) := by decide +kernel
theorem dX12_wrongWorth_110 : decode cX12_wrongWorth 110 = .ok (.lload 5, 2) := by decide +kernel
theorem dX12_wrongWorth_112 : decode cX12_wrongWorth 112 = .ok (.lmul, 1) := by decide +kernel
theorem dX12_wrongWorth_113 : decode cX12_wrongWorth 113 = .ok (.lload_n 3, 1) := by decide +kernel
theorem dX12_wrongWorth_114 : decode cX12_wrongWorth 114 = .ok (.aload_n 0, 1) := by decide +kernel
theorem dX12_wrongWorth_115 : decode cX12_wrongWorth 115 = .ok (.getfield 102, 3) := by decide +kernel
theorem dX12_wrongWorth_118 : decode cX12_wrongWorth 118 = .ok (.iconst 0, 1) := by decide +kernel
theorem dX12_wrongWorth_119 : decode cX12_wrongWorth 119 = .ok (.laload, 1) := by decide +kernel
theorem dX12_wrongWorth_120 : decode cX12_wrongWorth 120 = .ok (.lmul, 1) := by decide +kernel
theorem dX12_wrongWorth_121 : decode cX12_wrongWorth 121 = .ok (.lsub, 1) := by decide +kernel
theorem dX12_wrongWorth_122 : decode cX12_wrongWorth 122 = .ok (.lstore 7, 2) := by decide +kernel
theorem dX12_wrongWorth_124 : decode cX12_wrongWorth 124 = .ok (.lload 7, 2) := by decide +kernel
theorem dX12_wrongWorth_126 : decode cX12_wrongWorth 126 = .ok (.lload 5, 2) := by decide +kernel
theorem dX12_wrongWorth_128 : decode cX12_wrongWorth 128 = .ok (.aload_n 0, 1) := by decide +kernel
theorem dX12_wrongWorth_129 : decode cX12_wrongWorth 129 = .ok (.getfield 102, 3) := by decide +kernel
theorem dX12_wrongWorth_132 : decode cX12_wrongWorth 132 = .ok (.iconst 0, 1) := by decide +kernel
theorem dX12_wrongWorth_133 : decode cX12_wrongWorth 133 = .ok (.laload, 1) := by decide +kernel
theorem dX12_wrongWorth_134 : decode cX12_wrongWorth 134 = .ok (.lmul, 1) := by decide +kernel
theorem dX12_wrongWorth_135 : decode cX12_wrongWorth 135 = .ok (.invokestatic 260, 3) := by decide +kernel
theorem dX12_wrongWorth_138 : decode cX12_wrongWorth 138 = .ok (.lstore 9, 2) := by decide +kernel
theorem dX12_wrongWorth_140 : decode cX12_wrongWorth 140 = .ok (.aload_n 0, 1) := by decide +kernel
theorem dX12_wrongWorth_141 : decode cX12_wrongWorth 141 = .ok (.getfield 105, 3) := by decide +kernel
theorem dX12_wrongWorth_144 : decode cX12_wrongWorth 144 = .ok (.iconst 0, 1) := by decide +kernel
theorem dX12_wrongWorth_145 : decode cX12_wrongWorth 145 = .ok (.lload 7, 2) := by decide +kernel
theorem dX12_wrongWorth_147 : decode cX12_wrongWorth 147 = .ok (.lload 9, 2) := by decide +kernel
theorem dX12_wrongWorth_149 : decode cX12_wrongWorth 149 = .ok (.ldiv, 1) := by decide +kernel
theorem dX12_wrongWorth_150 : decode cX12_wrongWorth 150 = .ok (.lastore, 1) := by decide +kernel
theorem dX12_wrongWorth_151 : decode cX12_wrongWorth 151 = .ok (.aload_n 0, 1) := by decide +kernel
theorem dX12_wrongWorth_152 : decode cX12_wrongWorth 152 = .ok (.getfield 105, 3) := by decide +kernel
theorem dX12_wrongWorth_155 : decode cX12_wrongWorth 155 = .ok (.iconst 1, 1) := by decide +kernel
theorem dX12_wrongWorth_156 : decode cX12_wrongWorth 156 = .ok (.lload 5, 2) := by decide +kernel
theorem dX12_wrongWorth_158 : decode cX12_wrongWorth 158 = .ok (.aload_n 0, 1) := by decide +kernel
theorem dX12_wrongWorth_159 : decode cX12_wrongWorth 159 = .ok (.getfield 102, 3) := by decide +kernel
theorem dX12_wrongWorth_162 : decode cX12_wrongWorth 162 = .ok (.iconst 0, 1) := by decide +kernel
theorem dX12_wrongWorth_163 : decode cX12_wrongWorth 163 = .ok (.laload, 1) := by decide +kernel
theorem dX12_wrongWorth_164 : decode cX12_wrongWorth 164 = .ok (.lmul, 1) := by decide +kernel
theorem dX12_wrongWorth_165 : decode cX12_wrongWorth 165 = .ok (.lload 9, 2) := by decide +kernel
theorem dX12_wrongWorth_167 : decode cX12_wrongWorth 167 = .ok (.ldiv, 1) := by decide +kernel
theorem dX12_wrongWorth_168 : decode cX12_wrongWorth 168 = .ok (.lastore, 1) := by decide +kernel
theorem dX12_wrongWorth_169 : decode cX12_wrongWorth 169 = .ok (.iconst 0, 1) := by decide +kernel
theorem dX12_wrongWorth_170 : decode cX12_wrongWorth 170 = .ok (.ireturn, 1) := by decide +kernel
theorem dX12_worthTop_0 : decode cX12_worthTop 0 = .ok (.aload_n 0, 1) := by decide +kernel
theorem dX12_worthTop_1 : decode cX12_worthTop 1 = .ok (.aload_n 0, 1) := by decide +kernel
theorem dX12_worthTop_2 : decode cX12_worthTop 2 = .ok (.iload_n 1, 1) := by decide +kernel
theorem dX12_worthTop_3 : decode cX12_worthTop 3 = .ok (.invokevirtual 305, 3) := by decide +kernel
theorem dX12_worthTop_6 : decode cX12_worthTop 6 = .ok (.putfield 39, 3) := by decide +kernel
theorem dX12_worthTop_9 : decode cX12_worthTop 9 = .ok (.aload_n 0, 1) := by decide +kernel
theorem dX12_worthTop_10 : decode cX12_worthTop 10 = .ok (.getfield 39, 3) := by decide +kernel
theorem dX12_worthTop_13 : decode cX12_worthTop 13 = .ok (.ifCond .le 7, 3) := by decide +kernel
theorem dX12_worthTop_16 : decode cX12_worthTop 16 = .ok (.lconst 0, 1) := by decide +kernel
theorem dX12_worthTop_17 : decode cX12_worthTop 17 = .ok (.goto 9, 3) := by decide +kernel
theorem dX12_worthTop_20 : decode cX12_worthTop 20 = .ok (.aload_n 0, 1) := by decide +kernel
theorem dX12_worthTop_21 : decode cX12_worthTop 21 = .ok (.getfield 105, 3) := by decide +kernel
theorem dX12_worthTop_24 : decode cX12_worthTop 24 = .ok (.iconst 0, 1) := by decide +kernel
theorem dX12_worthTop_25 : decode cX12_worthTop 25 = .ok (.laload, 1) := by decide +kernel
theorem dX12_worthTop_26 : decode cX12_worthTop 26 = .ok (.lreturn, 1) := by decide +kernel
theorem dX12_worthBottom_0 : decode cX12_worthBottom 0 = .ok (.aload_n 0, 1) := by decide +kernel
theorem dX12_worthBottom_1 : decode cX12_worthBottom 1 = .ok (.aload_n 0, 1) := by decide +kernel
theorem dX12_worthBottom_2 : decode cX12_worthBottom 2 = .ok (.iload_n 1, 1) := by decide +kernel
theorem dX12_worthBottom_3 : decode cX12_worthBottom 3 = .ok (.invokevirtual 305, 3) := by decide +kernel
theorem dX12_worthBottom_6 : decode cX12_worthBottom 6 = .ok (.putfield 39, 3) := by decide +kernel
theorem dX12_worthBottom_9 : decode cX12_worthBottom 9 = .ok (.aload_n 0, 1) := by decide +kernel
theorem dX12_worthBottom_10 : decode cX12_worthBottom 10 = .ok (.getfield 39, 3) := by decide +kernel
theorem dX12_worthBottom_13 : decode cX12_worthBottom 13 = .ok (.ifCond .le 7, 3) := by decide +kernel
theorem dX12_worthBottom_16 : decode cX12_worthBottom 16 = .ok (.lconst 0, 1) := by decide +kernel
theorem dX12_worthBottom_17 : decode cX12_worthBottom 17 = .ok (.goto 9, 3) := by decide +kernel
theorem dX12_worthBottom_20 : decode cX12_worthBottom 20 = .ok (.aload_n 0, 1) := by decide +kernel
theorem dX12_worthBottom_21 : decode cX12_worthBottom 21 = .ok (.getfield 105, 3) := by decide +kernel
theorem dX12_worthBottom_24 : decode cX12_worthBottom 24 = .ok (.iconst 1, 1) := by decide +kernel
theorem dX12_worthBottom_25 : decode cX12_worthBottom 25 = .ok (.laload, 1) := by decide +kernel
theorem dX12_worthBottom_26 : decode cX12_worthBottom 26 = .ok (.lreturn, 1) := by decide +kernel
theorem dX12_conflict_0 : decode cX12_conflict 0 = .ok (.aload_n 0, 1) := by decide +kernel
theorem dX12_conflict_1 : decode cX12_conflict 1 = .ok (.invokevirtual 287, 3) := by decide +kernel
theorem dX12_conflict_4 : decode cX12_conflict 4 = .ok (.aload_n 0, 1) := by decide +kernel
theorem dX12_conflict_5 : decode cX12_conflict 5 = .ok (.aload_n 0, 1) := by decide +kernel
theorem dX12_conflict_6 : decode cX12_conflict 6 = .ok (.getfield 123, 3) := by decide +kernel
theorem dX12_conflict_9 : decode cX12_conflict 9 = .ok (.bipush 105, 2) := by decide +kernel
theorem dX12_conflict_11 : decode cX12_conflict 11 = .ok (.if_icmp .ne 7, 3) := by decide +kernel
theorem dX12_conflict_14 : decode cX12_conflict 14 = .ok (.iconst 1, 1) := by decide +kernel
theorem dX12_conflict_15 : decode cX12_conflict 15 = .ok (.goto 4, 3) := by decide +kernel
theorem dX12_conflict_18 : decode cX12_conflict 18 = .ok (.iconst 0, 1) := by decide +kernel
theorem dX12_conflict_19 : decode cX12_conflict 19 = .ok (.invokevirtual 188, 3) := by decide +kernel
theorem dX12_conflict_22 : decode cX12_conflict 22 = .ok (.ifCond .le 5, 3) := by decide +kernel
theorem dX12_conflict_25 : decode cX12_conflict 25 = .ok (.iconst 0, 1) := by decide +kernel
theorem dX12_conflict_26 : decode cX12_conflict 26 = .ok (.ireturn, 1) := by decide +kernel
theorem dX12_conflict_27 : decode cX12_conflict 27 = .ok (.aload_n 0, 1) := by decide +kernel
theorem dX12_conflict_28 : decode cX12_conflict 28 = .ok (.invokevirtual 281, 3) := by decide +kernel
theorem dX12_conflict_31 : decode cX12_conflict 31 = .ok (.istore_n 1, 1) := by decide +kernel
theorem dX12_conflict_32 : decode cX12_conflict 32 = .ok (.iconst 0, 1) := by decide +kernel
theorem dX12_conflict_33 : decode cX12_conflict 33 = .ok (.istore_n 2, 1) := by decide +kernel
theorem dX12_conflict_34 : decode cX12_conflict 34 = .ok (.iload_n 2, 1) := by decide +kernel
theorem dX12_conflict_35 : decode cX12_conflict 35 = .ok (.aload_n 0, 1) := by decide +kernel
theorem dX12_conflict_36 : decode cX12_conflict 36 = .ok (.getfield 46, 3) := by decide +kernel
theorem dX12_conflict_39 : decode cX12_conflict 39 = .ok (.if_icmp .ge 43, 3) := by decide +kernel
theorem dX12_conflict_42 : decode cX12_conflict 42 = .ok (.iload_n 1, 1) := by decide +kernel
theorem dX12_conflict_43 : decode cX12_conflict 43 = .ok (.iload_n 2, 1) := by decide +kernel
theorem dX12_conflict_44 : decode cX12_conflict 44 = .ok (.ishr, 1) := by decide +kernel
theorem dX12_conflict_45 : decode cX12_conflict 45 = .ok (.iconst 2, 1) := by decide +kernel
theorem dX12_conflict_46 : decode cX12_conflict 46 = .ok (.irem, 1) := by decide +kernel
theorem dX12_conflict_47 : decode cX12_conflict 47 = .ok (.ifCond .ne 6, 3) := by decide +kernel
theorem dX12_conflict_50 : decode cX12_conflict 50 = .ok (.goto 26, 3) := by decide +kernel
theorem dX12_conflict_53 : decode cX12_conflict 53 = .ok (.aload_n 0, 1) := by decide +kernel
theorem dX12_conflict_54 : decode cX12_conflict 54 = .ok (.iload_n 1, 1) := by decide +kernel
theorem dX12_conflict_55 : decode cX12_conflict 55 = .ok (.iconst 1, 1) := by decide +kernel
theorem dX12_conflict_56 : decode cX12_conflict 56 = .ok (.iload_n 2, 1) := by decide +kernel
theorem dX12_conflict_57 : decode cX12_conflict 57 = .ok (.ishl, 1) := by decide +kernel
theorem dX12_conflict_58 : decode cX12_conflict 58 = .ok (.isub, 1) := by decide +kernel
theorem dX12_conflict_59 : decode cX12_conflict 59 = .ok (.iconst (-1), 1) := by decide +kernel
theorem dX12_conflict_60 : decode cX12_conflict 60 = .ok (.invokevirtual 264, 3) := by decide +kernel
theorem dX12_conflict_63 : decode cX12_conflict 63 = .ok (.aload_n 0, 1) := by decide +kernel
theorem dX12_conflict_64 : decode cX12_conflict 64 = .ok (.getfield 111, 3) := by decide +kernel
theorem dX12_conflict_67 : decode cX12_conflict 67 = .ok (.ifCond .ne 9, 3) := by decide +kernel
theorem dX12_conflict_70 : decode cX12_conflict 70 = .ok (.iload_n 1, 1) := by decide +kernel
theorem dX12_conflict_71 : decode cX12_conflict 71 = .ok (.iconst 1, 1) := by decide +kernel
theorem dX12_conflict_72 : decode cX12_conflict 72 = .ok (.iload_n 2, 1) := by decide +kernel
theorem dX12_conflict_73 : decode cX12_conflict 73 = .ok (.ishl, 1) := by decide +kernel
theorem dX12_conflict_74 : decode cX12_conflict 74 = .ok (.isub, 1) := by decide +kernel
theorem dX12_conflict_75 : decode cX12_conflict 75 = .ok (.istore_n 1, 1) := by decide +kernel
theorem dX12_conflict_76 : decode cX12_conflict 76 = .ok (.iinc 2 1, 3) := by decide +kernel
theorem dX12_conflict_79 : decode cX12_conflict 79 = .ok (.goto (-45), 3) := by decide +kernel
theorem dX12_conflict_82 : decode cX12_conflict 82 = .ok (.iload_n 1, 1) := by decide +kernel
theorem dX12_conflict_83 : decode cX12_conflict 83 = .ok (.ireturn, 1) := by decide +kernel
theorem dX12_isWholeLooked_0 : decode cX12_isWholeLooked 0 = .ok (.iconst 0, 1) := by decide +kernel
theorem dX12_isWholeLooked_1 : decode cX12_isWholeLooked 1 = .ok (.istore_n 1, 1) := by decide +kernel
theorem dX12_isWholeLooked_2 : decode cX12_isWholeLooked 2 = .ok (.iload_n 1, 1) := by decide +kernel
theorem dX12_isWholeLooked_3 : decode cX12_isWholeLooked 3 = .ok (.aload_n 0, 1) := by decide +kernel
theorem dX12_isWholeLooked_4 : decode cX12_isWholeLooked 4 = .ok (.getfield 43, 3) := by decide +kernel
theorem dX12_isWholeLooked_7 : decode cX12_isWholeLooked 7 = .ok (.if_icmp .ge 40, 3) := by decide +kernel
theorem dX12_isWholeLooked_10 : decode cX12_isWholeLooked 10 = .ok (.aload_n 0, 1) := by decide +kernel
theorem dX12_isWholeLooked_11 : decode cX12_isWholeLooked 11 = .ok (.getfield 13, 3) := by decide +kernel
theorem dX12_isWholeLooked_14 : decode cX12_isWholeLooked 14 = .ok (.iload_n 1, 1) := by decide +kernel
theorem dX12_isWholeLooked_15 : decode cX12_isWholeLooked 15 = .ok (.iaload, 1) := by decide +kernel
theorem dX12_isWholeLooked_16 : decode cX12_isWholeLooked 16 = .ok (.bipush 100, 2) := by decide +kernel
theorem dX12_isWholeLooked_18 : decode cX12_isWholeLooked 18 = .ok (.if_icmp .eq 21, 3) := by decide +kernel
theorem dX12_isWholeLooked_21 : decode cX12_isWholeLooked 21 = .ok (.aload_n 0, 1) := by decide +kernel
theorem dX12_isWholeLooked_22 : decode cX12_isWholeLooked 22 = .ok (.getfield 13, 3) := by decide +kernel
theorem dX12_isWholeLooked_25 : decode cX12_isWholeLooked 25 = .ok (.iload_n 1, 1) := by decide +kernel
theorem dX12_isWholeLooked_26 : decode cX12_isWholeLooked 26 = .ok (.iaload, 1) := by decide +kernel
theorem dX12_isWholeLooked_27 : decode cX12_isWholeLooked 27 = .ok (.aload_n 0, 1) := by decide +kernel
theorem dX12_isWholeLooked_28 : decode cX12_isWholeLooked 28 = .ok (.getfield 7, 3) := by decide +kernel
theorem dX12_isWholeLooked_31 : decode cX12_isWholeLooked 31 = .ok (.iload_n 1, 1) := by decide +kernel
theorem dX12_isWholeLooked_32 : decode cX12_isWholeLooked 32 = .ok (.iaload, 1) := by decide +kernel
theorem dX12_isWholeLooked_33 : decode cX12_isWholeLooked 33 = .ok (.isub, 1) := by decide +kernel
theorem dX12_isWholeLooked_34 : decode cX12_isWholeLooked 34 = .ok (.bipush 6, 2) := by decide +kernel
theorem dX12_isWholeLooked_36 : decode cX12_isWholeLooked 36 = .ok (.if_icmp .le 5, 3) := by decide +kernel
theorem dX12_isWholeLooked_39 : decode cX12_isWholeLooked 39 = .ok (.iconst 0, 1) := by decide +kernel
theorem dX12_isWholeLooked_40 : decode cX12_isWholeLooked 40 = .ok (.ireturn, 1) := by decide +kernel
theorem dX12_isWholeLooked_41 : decode cX12_isWholeLooked 41 = .ok (.iinc 1 1, 3) := by decide +kernel
theorem dX12_isWholeLooked_44 : decode cX12_isWholeLooked 44 = .ok (.goto (-42), 3) := by decide +kernel
theorem dX12_isWholeLooked_47 : decode cX12_isWholeLooked 47 = .ok (.iconst 1, 1) := by decide +kernel
theorem dX12_isWholeLooked_48 : decode cX12_isWholeLooked 48 = .ok (.ireturn, 1) := by decide +kernel
theorem dX12_wholeTop_0 : decode cX12_wholeTop 0 = .ok (.aload_n 0, 1) := by decide +kernel
theorem dX12_wholeTop_1 : decode cX12_wholeTop 1 = .ok (.getfield 25, 3) := by decide +kernel
theorem dX12_wholeTop_4 : decode cX12_wholeTop 4 = .ok (.iconst 3, 1) := by decide +kernel
theorem dX12_wholeTop_5 : decode cX12_wholeTop 5 = .ok (.iload_n 1, 1) := by decide +kernel
theorem dX12_wholeTop_6 : decode cX12_wholeTop 6 = .ok (.imul, 1) := by decide +kernel
theorem dX12_wholeTop_7 : decode cX12_wholeTop 7 = .ok (.iaload, 1) := by decide +kernel
theorem dX12_wholeTop_8 : decode cX12_wholeTop 8 = .ok (.iload_n 2, 1) := by decide +kernel
theorem dX12_wholeTop_9 : decode cX12_wholeTop 9 = .ok (.imul, 1) := by decide +kernel
theorem dX12_wholeTop_10 : decode cX12_wholeTop 10 = .ok (.aload_n 0, 1) := by decide +kernel
theorem dX12_wholeTop_11 : decode cX12_wholeTop 11 = .ok (.getfield 25, 3) := by decide +kernel
theorem dX12_wholeTop_14 : decode cX12_wholeTop 14 = .ok (.iconst 3, 1) := by decide +kernel
theorem dX12_wholeTop_15 : decode cX12_wholeTop 15 = .ok (.iload_n 1, 1) := by decide +kernel
theorem dX12_wholeTop_16 : decode cX12_wholeTop 16 = .ok (.imul, 1) := by decide +kernel
theorem dX12_wholeTop_17 : decode cX12_wholeTop 17 = .ok (.iconst 1, 1) := by decide +kernel
theorem dX12_wholeTop_18 : decode cX12_wholeTop 18 = .ok (.iadd, 1) := by decide +kernel
theorem dX12_wholeTop_19 : decode cX12_wholeTop 19 = .ok (.iaload, 1) := by decide +kernel
theorem dX12_wholeTop_20 : decode cX12_wholeTop 20 = .ok (.iload_n 3, 1) := by decide +kernel
theorem dX12_wholeTop_21 : decode cX12_wholeTop 21 = .ok (.imul, 1) := by decide +kernel
theorem dX12_wholeTop_22 : decode cX12_wholeTop 22 = .ok (.iadd, 1) := by decide +kernel
theorem dX12_wholeTop_23 : decode cX12_wholeTop 23 = .ok (.aload_n 0, 1) := by decide +kernel
theorem dX12_wholeTop_24 : decode cX12_wholeTop 24 = .ok (.getfield 25, 3) := by decide +kernel
theorem dX12_wholeTop_27 : decode cX12_wholeTop 27 = .ok (.iconst 3, 1) := by decide +kernel
theorem dX12_wholeTop_28 : decode cX12_wholeTop 28 = .ok (.iload_n 1, 1) := by decide +kernel
theorem dX12_wholeTop_29 : decode cX12_wholeTop 29 = .ok (.imul, 1) := by decide +kernel
theorem dX12_wholeTop_30 : decode cX12_wholeTop 30 = .ok (.iconst 2, 1) := by decide +kernel
theorem dX12_wholeTop_31 : decode cX12_wholeTop 31 = .ok (.iadd, 1) := by decide +kernel
theorem dX12_wholeTop_32 : decode cX12_wholeTop 32 = .ok (.iaload, 1) := by decide +kernel
theorem dX12_wholeTop_33 : decode cX12_wholeTop 33 = .ok (.iload 4, 2) := by decide +kernel
theorem dX12_wholeTop_35 : decode cX12_wholeTop 35 = .ok (.imul, 1) := by decide +kernel
theorem dX12_wholeTop_36 : decode cX12_wholeTop 36 = .ok (.iadd, 1) := by decide +kernel
theorem dX12_wholeTop_37 : decode cX12_wholeTop 37 = .ok (.i2l, 1) := by decide +kernel
theorem dX12_wholeTop_38 : decode cX12_wholeTop 38 = .ok (.lstore 5, 2) := by decide +kernel
theorem dX12_wholeTop_40 : decode cX12_wholeTop 40 = .ok (.aload_n 0, 1) := by decide +kernel
theorem dX12_wholeTop_41 : decode cX12_wholeTop 41 = .ok (.getfield 32, 3) := by decide +kernel
theorem dX12_wholeTop_44 : decode cX12_wholeTop 44 = .ok (.iload_n 1, 1) := by decide +kernel
theorem dX12_wholeTop_45 : decode cX12_wholeTop 45 = .ok (.baload, 1) := by decide +kernel
theorem dX12_wholeTop_46 : decode cX12_wholeTop 46 = .ok (.ifCond .eq 8, 3) := by decide +kernel
theorem dX12_wholeTop_49 : decode cX12_wholeTop 49 = .ok (.lload 5, 2) := by decide +kernel
theorem dX12_wholeTop_51 : decode cX12_wholeTop 51 = .ok (.goto 6, 3) := by decide +kernel
theorem dX12_wholeTop_54 : decode cX12_wholeTop 54 = .ok (.lload 5, 2) := by decide +kernel
theorem dX12_wholeTop_56 : decode cX12_wholeTop 56 = .ok (.lneg, 1) := by decide +kernel
theorem dX12_wholeTop_57 : decode cX12_wholeTop 57 = .ok (.lreturn, 1) := by decide +kernel
theorem dX12_isWholeBetter_0 : decode cX12_isWholeBetter 0 = .ok (.iconst 0, 1) := by decide +kernel
theorem dX12_isWholeBetter_1 : decode cX12_isWholeBetter 1 = .ok (.istore 4, 2) := by decide +kernel
theorem dX12_isWholeBetter_3 : decode cX12_isWholeBetter 3 = .ok (.iload 4, 2) := by decide +kernel
theorem dX12_isWholeBetter_5 : decode cX12_isWholeBetter 5 = .ok (.aload_n 0, 1) := by decide +kernel
theorem dX12_isWholeBetter_6 : decode cX12_isWholeBetter 6 = .ok (.getfield 49, 3) := by decide +kernel
theorem dX12_isWholeBetter_9 : decode cX12_isWholeBetter 9 = .ok (.if_icmp .ge 71, 3) := by decide +kernel
theorem dX12_isWholeBetter_12 : decode cX12_isWholeBetter 12 = .ok (.aload_n 0, 1) := by decide +kernel
theorem dX12_isWholeBetter_13 : decode cX12_isWholeBetter 13 = .ok (.iload 4, 2) := by decide +kernel
theorem dX12_isWholeBetter_15 : decode cX12_isWholeBetter 15 = .ok (.iload_n 1, 1) := by decide +kernel
theorem dX12_isWholeBetter_16 : decode cX12_isWholeBetter 16 = .ok (.iload_n 2, 1) := by decide +kernel
theorem dX12_isWholeBetter_17 : decode cX12_isWholeBetter 17 = .ok (.iload_n 3, 1) := by decide +kernel
theorem dX12_isWholeBetter_18 : decode cX12_isWholeBetter 18 = .ok (.invokevirtual 308, 3) := by decide +kernel
theorem dX12_isWholeBetter_21 : decode cX12_isWholeBetter 21 = .ok (.lstore 5, 2) := by decide +kernel
theorem dX12_isWholeBetter_23 : decode cX12_isWholeBetter 23 = .ok (.aload_n 0, 1) := by decide +kernel
theorem dX12_isWholeBetter_24 : decode cX12_isWholeBetter 24 = .ok (.iload 4, 2) := by decide +kernel
theorem dX12_isWholeBetter_26 : decode cX12_isWholeBetter 26 = .ok (.aload_n 0, 1) := by decide +kernel
theorem dX12_isWholeBetter_27 : decode cX12_isWholeBetter 27 = .ok (.getfield 105, 3) := by decide +kernel
theorem dX12_isWholeBetter_30 : decode cX12_isWholeBetter 30 = .ok (.iconst 0, 1) := by decide +kernel
theorem dX12_isWholeBetter_31 : decode cX12_isWholeBetter 31 = .ok (.laload, 1) := by decide +kernel
theorem dX12_isWholeBetter_32 : decode cX12_isWholeBetter 32 = .ok (.l2i, 1) := by decide +kernel
theorem dX12_isWholeBetter_33 : decode cX12_isWholeBetter 33 = .ok (.aload_n 0, 1) := by decide +kernel
theorem dX12_isWholeBetter_34 : decode cX12_isWholeBetter 34 = .ok (.getfield 105, 3) := by decide +kernel
theorem dX12_isWholeBetter_37 : decode cX12_isWholeBetter 37 = .ok (.iconst 1, 1) := by decide +kernel
theorem dX12_isWholeBetter_38 : decode cX12_isWholeBetter 38 = .ok (.laload, 1) := by decide +kernel
theorem dX12_isWholeBetter_39 : decode cX12_isWholeBetter 39 = .ok (.l2i, 1) := by decide +kernel
theorem dX12_isWholeBetter_40 : decode cX12_isWholeBetter 40 = .ok (.aload_n 0, 1) := by decide +kernel
theorem dX12_isWholeBetter_41 : decode cX12_isWholeBetter 41 = .ok (.getfield 105, 3) := by decide +kernel
theorem dX12_isWholeBetter_44 : decode cX12_isWholeBetter 44 = .ok (.iconst 2, 1) := by decide +kernel
theorem dX12_isWholeBetter_45 : decode cX12_isWholeBetter 45 = .ok (.laload, 1) := by decide +kernel
theorem dX12_isWholeBetter_46 : decode cX12_isWholeBetter 46 = .ok (.l2i, 1) := by decide +kernel
theorem dX12_isWholeBetter_47 : decode cX12_isWholeBetter 47 = .ok (.invokevirtual 308, 3) := by decide +kernel
theorem dX12_isWholeBetter_50 : decode cX12_isWholeBetter 50 = .ok (.lstore 7, 2) := by decide +kernel
theorem dX12_isWholeBetter_52 : decode cX12_isWholeBetter 52 = .ok (.lload 5, 2) := by decide +kernel
theorem dX12_isWholeBetter_54 : decode cX12_isWholeBetter 54 = .ok (.lload 7, 2) := by decide +kernel
theorem dX12_isWholeBetter_56 : decode cX12_isWholeBetter 56 = .ok (.lcmp, 1) := by decide +kernel
theorem dX12_isWholeBetter_57 : decode cX12_isWholeBetter 57 = .ok (.ifCond .eq 17, 3) := by decide +kernel
theorem dX12_isWholeBetter_60 : decode cX12_isWholeBetter 60 = .ok (.lload 5, 2) := by decide +kernel
theorem dX12_isWholeBetter_62 : decode cX12_isWholeBetter 62 = .ok (.lload 7, 2) := by decide +kernel
theorem dX12_isWholeBetter_64 : decode cX12_isWholeBetter 64 = .ok (.lcmp, 1) := by decide +kernel
theorem dX12_isWholeBetter_65 : decode cX12_isWholeBetter 65 = .ok (.ifCond .le 7, 3) := by decide +kernel
theorem dX12_isWholeBetter_68 : decode cX12_isWholeBetter 68 = .ok (.iconst 1, 1) := by decide +kernel
theorem dX12_isWholeBetter_69 : decode cX12_isWholeBetter 69 = .ok (.goto 4, 3) := by decide +kernel
theorem dX12_isWholeBetter_72 : decode cX12_isWholeBetter 72 = .ok (.iconst 0, 1) := by decide +kernel
theorem dX12_isWholeBetter_73 : decode cX12_isWholeBetter 73 = .ok (.ireturn, 1) := by decide +kernel
theorem dX12_isWholeBetter_74 : decode cX12_isWholeBetter 74 = .ok (.iinc 4 1, 3) := by decide +kernel
theorem dX12_isWholeBetter_77 : decode cX12_isWholeBetter 77 = .ok (.goto (-74), 3) := by decide +kernel
theorem dX12_isWholeBetter_80 : decode cX12_isWholeBetter 80 = .ok (.iconst 0, 1) := by decide +kernel
theorem dX12_isWholeBetter_81 : decode cX12_isWholeBetter 81 = .ok (.ireturn, 1) := by decide +kernel
theorem dX12_findsWhole_0 : decode cX12_findsWhole 0 = .ok (.aload_n 0, 1) := by decide +kernel
theorem dX12_findsWhole_1 : decode cX12_findsWhole 1 = .ok (.aload_n 0, 1) := by decide +kernel
theorem dX12_findsWhole_2 : decode cX12_findsWhole 2 = .ok (.invokevirtual 281, 3) := by decide +kernel
theorem dX12_findsWhole_5 : decode cX12_findsWhole 5 = .ok (.iconst (-1), 1) := by decide +kernel
theorem dX12_findsWhole_6 : decode cX12_findsWhole 6 = .ok (.iconst 0, 1) := by decide +kernel
theorem dX12_findsWhole_7 : decode cX12_findsWhole 7 = .ok (.invokevirtual 239, 3) := by decide +kernel
theorem dX12_findsWhole_10 : decode cX12_findsWhole 10 = .ok (.iconst 0, 1) := by decide +kernel
theorem dX12_findsWhole_11 : decode cX12_findsWhole 11 = .ok (.istore_n 1, 1) := by decide +kernel
theorem dX12_findsWhole_12 : decode cX12_findsWhole 12 = .ok (.aload_n 0, 1) := by decide +kernel
theorem dX12_findsWhole_13 : decode cX12_findsWhole 13 = .ok (.getfield 96, 3) := by decide +kernel
theorem dX12_findsWhole_16 : decode cX12_findsWhole 16 = .ok (.iconst 3, 1) := by decide +kernel
theorem dX12_findsWhole_17 : decode cX12_findsWhole 17 = .ok (.lconst 1, 1) := by decide +kernel
theorem dX12_findsWhole_18 : decode cX12_findsWhole 18 = .ok (.lastore, 1) := by decide +kernel
theorem dX12_findsWhole_19 : decode cX12_findsWhole 19 = .ok (.aload_n 0, 1) := by decide +kernel
theorem dX12_findsWhole_20 : decode cX12_findsWhole 20 = .ok (.getfield 43, 3) := by decide +kernel
theorem dX12_findsWhole_23 : decode cX12_findsWhole 23 = .ok (.ifCond .le 12, 3) := by decide +kernel
theorem dX12_findsWhole_26 : decode cX12_findsWhole 26 = .ok (.aload_n 0, 1) := by decide +kernel
theorem dX12_findsWhole_27 : decode cX12_findsWhole 27 = .ok (.getfield 7, 3) := by decide +kernel
theorem dX12_findsWhole_30 : decode cX12_findsWhole 30 = .ok (.iconst 0, 1) := by decide +kernel
theorem dX12_findsWhole_31 : decode cX12_findsWhole 31 = .ok (.iaload, 1) := by decide +kernel
theorem dX12_findsWhole_32 : decode cX12_findsWhole 32 = .ok (.goto 4, 3) := by decide +kernel
theorem dX12_findsWhole_35 : decode cX12_findsWhole 35 = .ok (.iconst 0, 1) := by decide +kernel
theorem dX12_findsWhole_36 : decode cX12_findsWhole 36 = .ok (.istore_n 2, 1) := by decide +kernel
theorem dX12_findsWhole_37 : decode cX12_findsWhole 37 = .ok (.iload_n 2, 1) := by decide +kernel
theorem dX12_findsWhole_38 : decode cX12_findsWhole 38 = .ok (.aload_n 0, 1) := by decide +kernel
theorem dX12_findsWhole_39 : decode cX12_findsWhole 39 = .ok (.getfield 43, 3) := by decide +kernel
theorem dX12_findsWhole_42 : decode cX12_findsWhole 42 = .ok (.ifCond .le 12, 3) := by decide +kernel
theorem dX12_findsWhole_45 : decode cX12_findsWhole 45 = .ok (.aload_n 0, 1) := by decide +kernel
theorem dX12_findsWhole_46 : decode cX12_findsWhole 46 = .ok (.getfield 13, 3) := by decide +kernel
theorem dX12_findsWhole_49 : decode cX12_findsWhole 49 = .ok (.iconst 0, 1) := by decide +kernel
theorem dX12_findsWhole_50 : decode cX12_findsWhole 50 = .ok (.iaload, 1) := by decide +kernel
theorem dX12_findsWhole_51 : decode cX12_findsWhole 51 = .ok (.goto 4, 3) := by decide +kernel
theorem dX12_findsWhole_54 : decode cX12_findsWhole 54 = .ok (.iconst 0, 1) := by decide +kernel
theorem dX12_findsWhole_55 : decode cX12_findsWhole 55 = .ok (.if_icmp .gt 190, 3) := by decide +kernel
theorem dX12_findsWhole_58 : decode cX12_findsWhole 58 = .ok (.aload_n 0, 1) := by decide +kernel
theorem dX12_findsWhole_59 : decode cX12_findsWhole 59 = .ok (.getfield 43, 3) := by decide +kernel
theorem dX12_findsWhole_62 : decode cX12_findsWhole 62 = .ok (.iconst 1, 1) := by decide +kernel
theorem dX12_findsWhole_63 : decode cX12_findsWhole 63 = .ok (.if_icmp .le 12, 3) := by decide +kernel
theorem dX12_findsWhole_66 : decode cX12_findsWhole 66 = .ok (.aload_n 0, 1) := by decide +kernel
theorem dX12_findsWhole_67 : decode cX12_findsWhole 67 = .ok (.getfield 7, 3) := by decide +kernel
theorem dX12_findsWhole_70 : decode cX12_findsWhole 70 = .ok (.iconst 1, 1) := by decide +kernel
theorem dX12_findsWhole_71 : decode cX12_findsWhole 71 = .ok (.iaload, 1) := by decide +kernel
theorem dX12_findsWhole_72 : decode cX12_findsWhole 72 = .ok (.goto 4, 3) := by decide +kernel
theorem dX12_findsWhole_75 : decode cX12_findsWhole 75 = .ok (.iconst 0, 1) := by decide +kernel
theorem dX12_findsWhole_76 : decode cX12_findsWhole 76 = .ok (.istore_n 3, 1) := by decide +kernel
theorem dX12_findsWhole_77 : decode cX12_findsWhole 77 = .ok (.iload_n 3, 1) := by decide +kernel
theorem dX12_findsWhole_78 : decode cX12_findsWhole 78 = .ok (.aload_n 0, 1) := by decide +kernel
theorem dX12_findsWhole_79 : decode cX12_findsWhole 79 = .ok (.getfield 43, 3) := by decide +kernel
theorem dX12_findsWhole_82 : decode cX12_findsWhole 82 = .ok (.iconst 1, 1) := by decide +kernel
theorem dX12_findsWhole_83 : decode cX12_findsWhole 83 = .ok (.if_icmp .le 12, 3) := by decide +kernel
theorem dX12_findsWhole_86 : decode cX12_findsWhole 86 = .ok (.aload_n 0, 1) := by decide +kernel
theorem dX12_findsWhole_87 : decode cX12_findsWhole 87 = .ok (.getfield 13, 3) := by decide +kernel
theorem dX12_findsWhole_90 : decode cX12_findsWhole 90 = .ok (.iconst 1, 1) := by decide +kernel
theorem dX12_findsWhole_91 : decode cX12_findsWhole 91 = .ok (.iaload, 1) := by decide +kernel
theorem dX12_findsWhole_92 : decode cX12_findsWhole 92 = .ok (.goto 4, 3) := by decide +kernel
theorem dX12_findsWhole_95 : decode cX12_findsWhole 95 = .ok (.iconst 0, 1) := by decide +kernel
theorem dX12_findsWhole_96 : decode cX12_findsWhole 96 = .ok (.if_icmp .gt 143, 3) := by decide +kernel
theorem dX12_findsWhole_99 : decode cX12_findsWhole 99 = .ok (.aload_n 0, 1) := by decide +kernel
theorem dX12_findsWhole_100 : decode cX12_findsWhole 100 = .ok (.getfield 43, 3) := by decide +kernel
theorem dX12_findsWhole_103 : decode cX12_findsWhole 103 = .ok (.iconst 2, 1) := by decide +kernel
theorem dX12_findsWhole_104 : decode cX12_findsWhole 104 = .ok (.if_icmp .le 12, 3) := by decide +kernel
theorem dX12_findsWhole_107 : decode cX12_findsWhole 107 = .ok (.aload_n 0, 1) := by decide +kernel
theorem dX12_findsWhole_108 : decode cX12_findsWhole 108 = .ok (.getfield 7, 3) := by decide +kernel
theorem dX12_findsWhole_111 : decode cX12_findsWhole 111 = .ok (.iconst 2, 1) := by decide +kernel
theorem dX12_findsWhole_112 : decode cX12_findsWhole 112 = .ok (.iaload, 1) := by decide +kernel
theorem dX12_findsWhole_113 : decode cX12_findsWhole 113 = .ok (.goto 4, 3) := by decide +kernel
theorem dX12_findsWhole_116 : decode cX12_findsWhole 116 = .ok (.iconst 0, 1) := by decide +kernel
theorem dX12_findsWhole_117 : decode cX12_findsWhole 117 = .ok (.istore 4, 2) := by decide +kernel
theorem dX12_findsWhole_119 : decode cX12_findsWhole 119 = .ok (.iload 4, 2) := by decide +kernel
theorem dX12_findsWhole_121 : decode cX12_findsWhole 121 = .ok (.aload_n 0, 1) := by decide +kernel
theorem dX12_findsWhole_122 : decode cX12_findsWhole 122 = .ok (.getfield 43, 3) := by decide +kernel
theorem dX12_findsWhole_125 : decode cX12_findsWhole 125 = .ok (.iconst 2, 1) := by decide +kernel
theorem dX12_findsWhole_126 : decode cX12_findsWhole 126 = .ok (.if_icmp .le 12, 3) := by decide +kernel
theorem dX12_findsWhole_129 : decode cX12_findsWhole 129 = .ok (.aload_n 0, 1) := by decide +kernel
theorem dX12_findsWhole_130 : decode cX12_findsWhole 130 = .ok (.getfield 13, 3) := by decide +kernel
theorem dX12_findsWhole_133 : decode cX12_findsWhole 133 = .ok (.iconst 2, 1) := by decide +kernel
theorem dX12_findsWhole_134 : decode cX12_findsWhole 134 = .ok (.iaload, 1) := by decide +kernel
theorem dX12_findsWhole_135 : decode cX12_findsWhole 135 = .ok (.goto 4, 3) := by decide +kernel
theorem dX12_findsWhole_138 : decode cX12_findsWhole 138 = .ok (.iconst 0, 1) := by decide +kernel
theorem dX12_findsWhole_139 : decode cX12_findsWhole 139 = .ok (.if_icmp .gt 94, 3) := by decide +kernel
theorem dX12_findsWhole_142 : decode cX12_findsWhole 142 = .ok (.aload_n 0, 1) := by decide +kernel
theorem dX12_findsWhole_143 : decode cX12_findsWhole 143 = .ok (.getfield 96, 3) := by decide +kernel
theorem dX12_findsWhole_146 : decode cX12_findsWhole 146 = .ok (.iconst 0, 1) := by decide +kernel
theorem dX12_findsWhole_147 : decode cX12_findsWhole 147 = .ok (.iload_n 2, 1) := by decide +kernel
theorem dX12_findsWhole_148 : decode cX12_findsWhole 148 = .ok (.i2l, 1) := by decide +kernel
theorem dX12_findsWhole_149 : decode cX12_findsWhole 149 = .ok (.lastore, 1) := by decide +kernel
theorem dX12_findsWhole_150 : decode cX12_findsWhole 150 = .ok (.aload_n 0, 1) := by decide +kernel
theorem dX12_findsWhole_151 : decode cX12_findsWhole 151 = .ok (.getfield 96, 3) := by decide +kernel
theorem dX12_findsWhole_154 : decode cX12_findsWhole 154 = .ok (.iconst 1, 1) := by decide +kernel
theorem dX12_findsWhole_155 : decode cX12_findsWhole 155 = .ok (.iload_n 3, 1) := by decide +kernel
theorem dX12_findsWhole_156 : decode cX12_findsWhole 156 = .ok (.i2l, 1) := by decide +kernel
theorem dX12_findsWhole_157 : decode cX12_findsWhole 157 = .ok (.lastore, 1) := by decide +kernel
theorem dX12_findsWhole_158 : decode cX12_findsWhole 158 = .ok (.aload_n 0, 1) := by decide +kernel
theorem dX12_findsWhole_159 : decode cX12_findsWhole 159 = .ok (.getfield 96, 3) := by decide +kernel
theorem dX12_findsWhole_162 : decode cX12_findsWhole 162 = .ok (.iconst 2, 1) := by decide +kernel
theorem dX12_findsWhole_163 : decode cX12_findsWhole 163 = .ok (.iload 4, 2) := by decide +kernel
theorem dX12_findsWhole_165 : decode cX12_findsWhole 165 = .ok (.i2l, 1) := by decide +kernel
theorem dX12_findsWhole_166 : decode cX12_findsWhole 166 = .ok (.lastore, 1) := by decide +kernel
theorem dX12_findsWhole_167 : decode cX12_findsWhole 167 = .ok (.aload_n 0, 1) := by decide +kernel
theorem dX12_findsWhole_168 : decode cX12_findsWhole 168 = .ok (.aload_n 0, 1) := by decide +kernel
theorem dX12_findsWhole_169 : decode cX12_findsWhole 169 = .ok (.getfield 108, 3) := by decide +kernel
theorem dX12_findsWhole_172 : decode cX12_findsWhole 172 = .ok (.invokevirtual 246, 3) := by decide +kernel
theorem dX12_findsWhole_175 : decode cX12_findsWhole 175 = .ok (.ifCond .eq 52, 3) := by decide +kernel
theorem dX12_findsWhole_178 : decode cX12_findsWhole 178 = .ok (.iload_n 1, 1) := by decide +kernel
theorem dX12_findsWhole_179 : decode cX12_findsWhole 179 = .ok (.ifCond .eq 17, 3) := by decide +kernel
theorem dX12_findsWhole_182 : decode cX12_findsWhole 182 = .ok (.aload_n 0, 1) := by decide +kernel
theorem dX12_findsWhole_183 : decode cX12_findsWhole 183 = .ok (.iload_n 2, 1) := by decide +kernel
theorem dX12_findsWhole_184 : decode cX12_findsWhole 184 = .ok (.iload_n 3, 1) := by decide +kernel
theorem dX12_findsWhole_185 : decode cX12_findsWhole 185 = .ok (.iload 4, 2) := by decide +kernel
theorem dX12_findsWhole_187 : decode cX12_findsWhole 187 = .ok (.invokevirtual 311, 3) := by decide +kernel
theorem dX12_findsWhole_190 : decode cX12_findsWhole 190 = .ok (.ifCond .ne 6, 3) := by decide +kernel
theorem dX12_findsWhole_193 : decode cX12_findsWhole 193 = .ok (.goto 34, 3) := by decide +kernel
theorem dX12_findsWhole_196 : decode cX12_findsWhole 196 = .ok (.iconst 0, 1) := by decide +kernel
theorem dX12_findsWhole_197 : decode cX12_findsWhole 197 = .ok (.istore 5, 2) := by decide +kernel
theorem dX12_findsWhole_199 : decode cX12_findsWhole 199 = .ok (.iload 5, 2) := by decide +kernel
theorem dX12_findsWhole_201 : decode cX12_findsWhole 201 = .ok (.iconst 3, 1) := by decide +kernel
theorem dX12_findsWhole_202 : decode cX12_findsWhole 202 = .ok (.if_icmp .ge 23, 3) := by decide +kernel
theorem dX12_findsWhole_205 : decode cX12_findsWhole 205 = .ok (.aload_n 0, 1) := by decide +kernel
theorem dX12_findsWhole_206 : decode cX12_findsWhole 206 = .ok (.getfield 105, 3) := by decide +kernel
theorem dX12_findsWhole_209 : decode cX12_findsWhole 209 = .ok (.iload 5, 2) := by decide +kernel
theorem dX12_findsWhole_211 : decode cX12_findsWhole 211 = .ok (.aload_n 0, 1) := by decide +kernel
theorem dX12_findsWhole_212 : decode cX12_findsWhole 212 = .ok (.getfield 96, 3) := by decide +kernel
theorem dX12_findsWhole_215 : decode cX12_findsWhole 215 = .ok (.iload 5, 2) := by decide +kernel
theorem dX12_findsWhole_217 : decode cX12_findsWhole 217 = .ok (.laload, 1) := by decide +kernel
theorem dX12_findsWhole_218 : decode cX12_findsWhole 218 = .ok (.lastore, 1) := by decide +kernel
theorem dX12_findsWhole_219 : decode cX12_findsWhole 219 = .ok (.iinc 5 1, 3) := by decide +kernel
theorem dX12_findsWhole_222 : decode cX12_findsWhole 222 = .ok (.goto (-23), 3) := by decide +kernel
theorem dX12_findsWhole_225 : decode cX12_findsWhole 225 = .ok (.iconst 1, 1) := by decide +kernel
theorem dX12_findsWhole_226 : decode cX12_findsWhole 226 = .ok (.istore_n 1, 1) := by decide +kernel
theorem dX12_findsWhole_227 : decode cX12_findsWhole 227 = .ok (.iinc 4 1, 3) := by decide +kernel
theorem dX12_findsWhole_230 : decode cX12_findsWhole 230 = .ok (.goto (-111), 3) := by decide +kernel
theorem dX12_findsWhole_233 : decode cX12_findsWhole 233 = .ok (.iinc 3 1, 3) := by decide +kernel
theorem dX12_findsWhole_236 : decode cX12_findsWhole 236 = .ok (.goto (-159), 3) := by decide +kernel
theorem dX12_findsWhole_239 : decode cX12_findsWhole 239 = .ok (.iinc 2 1, 3) := by decide +kernel
theorem dX12_findsWhole_242 : decode cX12_findsWhole 242 = .ok (.goto (-205), 3) := by decide +kernel
theorem dX12_findsWhole_245 : decode cX12_findsWhole 245 = .ok (.iload_n 1, 1) := by decide +kernel
theorem dX12_findsWhole_246 : decode cX12_findsWhole 246 = .ok (.ireturn, 1) := by decide +kernel
theorem dX12_wholeAt_0 : decode cX12_wholeAt 0 = .ok (.aload_n 0, 1) := by decide +kernel
theorem dX12_wholeAt_1 : decode cX12_wholeAt 1 = .ok (.aload_n 0, 1) := by decide +kernel
theorem dX12_wholeAt_2 : decode cX12_wholeAt 2 = .ok (.iload_n 1, 1) := by decide +kernel
theorem dX12_wholeAt_3 : decode cX12_wholeAt 3 = .ok (.invokevirtual 139, 3) := by decide +kernel
theorem dX12_wholeAt_6 : decode cX12_wholeAt 6 = .ok (.ifCond .ne 7, 3) := by decide +kernel
theorem dX12_wholeAt_9 : decode cX12_wholeAt 9 = .ok (.iconst 1, 1) := by decide +kernel
theorem dX12_wholeAt_10 : decode cX12_wholeAt 10 = .ok (.goto 26, 3) := by decide +kernel
theorem dX12_wholeAt_13 : decode cX12_wholeAt 13 = .ok (.aload_n 0, 1) := by decide +kernel
theorem dX12_wholeAt_14 : decode cX12_wholeAt 14 = .ok (.invokevirtual 314, 3) := by decide +kernel
theorem dX12_wholeAt_17 : decode cX12_wholeAt 17 = .ok (.ifCond .ne 7, 3) := by decide +kernel
theorem dX12_wholeAt_20 : decode cX12_wholeAt 20 = .ok (.iconst 2, 1) := by decide +kernel
theorem dX12_wholeAt_21 : decode cX12_wholeAt 21 = .ok (.goto 15, 3) := by decide +kernel
theorem dX12_wholeAt_24 : decode cX12_wholeAt 24 = .ok (.aload_n 0, 1) := by decide +kernel
theorem dX12_wholeAt_25 : decode cX12_wholeAt 25 = .ok (.invokevirtual 317, 3) := by decide +kernel
theorem dX12_wholeAt_28 : decode cX12_wholeAt 28 = .ok (.ifCond .ne 7, 3) := by decide +kernel
theorem dX12_wholeAt_31 : decode cX12_wholeAt 31 = .ok (.iconst 3, 1) := by decide +kernel
theorem dX12_wholeAt_32 : decode cX12_wholeAt 32 = .ok (.goto 4, 3) := by decide +kernel
theorem dX12_wholeAt_35 : decode cX12_wholeAt 35 = .ok (.iconst 0, 1) := by decide +kernel
theorem dX12_wholeAt_36 : decode cX12_wholeAt 36 = .ok (.putfield 39, 3) := by decide +kernel
theorem dX12_wholeAt_39 : decode cX12_wholeAt 39 = .ok (.aload_n 0, 1) := by decide +kernel
theorem dX12_wholeAt_40 : decode cX12_wholeAt 40 = .ok (.getfield 39, 3) := by decide +kernel
theorem dX12_wholeAt_43 : decode cX12_wholeAt 43 = .ok (.ifCond .le 7, 3) := by decide +kernel
theorem dX12_wholeAt_46 : decode cX12_wholeAt 46 = .ok (.iconst 0, 1) := by decide +kernel
theorem dX12_wholeAt_47 : decode cX12_wholeAt 47 = .ok (.goto 10, 3) := by decide +kernel
theorem dX12_wholeAt_50 : decode cX12_wholeAt 50 = .ok (.aload_n 0, 1) := by decide +kernel
theorem dX12_wholeAt_51 : decode cX12_wholeAt 51 = .ok (.getfield 105, 3) := by decide +kernel
theorem dX12_wholeAt_54 : decode cX12_wholeAt 54 = .ok (.iload_n 1, 1) := by decide +kernel
theorem dX12_wholeAt_55 : decode cX12_wholeAt 55 = .ok (.laload, 1) := by decide +kernel
theorem dX12_wholeAt_56 : decode cX12_wholeAt 56 = .ok (.l2i, 1) := by decide +kernel
theorem dX12_wholeAt_57 : decode cX12_wholeAt 57 = .ok (.ireturn, 1) := by decide +kernel
theorem dX12_wholeValue_0 : decode cX12_wholeValue 0 = .ok (.aload_n 0, 1) := by decide +kernel
theorem dX12_wholeValue_1 : decode cX12_wholeValue 1 = .ok (.aload_n 0, 1) := by decide +kernel
theorem dX12_wholeValue_2 : decode cX12_wholeValue 2 = .ok (.iload_n 1, 1) := by decide +kernel
theorem dX12_wholeValue_3 : decode cX12_wholeValue 3 = .ok (.invokevirtual 290, 3) := by decide +kernel
theorem dX12_wholeValue_6 : decode cX12_wholeValue 6 = .ok (.ifCond .ne 7, 3) := by decide +kernel
theorem dX12_wholeValue_9 : decode cX12_wholeValue 9 = .ok (.iconst 1, 1) := by decide +kernel
theorem dX12_wholeValue_10 : decode cX12_wholeValue 10 = .ok (.goto 26, 3) := by decide +kernel
theorem dX12_wholeValue_13 : decode cX12_wholeValue 13 = .ok (.aload_n 0, 1) := by decide +kernel
theorem dX12_wholeValue_14 : decode cX12_wholeValue 14 = .ok (.invokevirtual 314, 3) := by decide +kernel
theorem dX12_wholeValue_17 : decode cX12_wholeValue 17 = .ok (.ifCond .ne 7, 3) := by decide +kernel
theorem dX12_wholeValue_20 : decode cX12_wholeValue 20 = .ok (.iconst 2, 1) := by decide +kernel
theorem dX12_wholeValue_21 : decode cX12_wholeValue 21 = .ok (.goto 15, 3) := by decide +kernel
theorem dX12_wholeValue_24 : decode cX12_wholeValue 24 = .ok (.aload_n 0, 1) := by decide +kernel
theorem dX12_wholeValue_25 : decode cX12_wholeValue 25 = .ok (.invokevirtual 317, 3) := by decide +kernel
theorem dX12_wholeValue_28 : decode cX12_wholeValue 28 = .ok (.ifCond .ne 7, 3) := by decide +kernel
theorem dX12_wholeValue_31 : decode cX12_wholeValue 31 = .ok (.iconst 3, 1) := by decide +kernel
theorem dX12_wholeValue_32 : decode cX12_wholeValue 32 = .ok (.goto 4, 3) := by decide +kernel
theorem dX12_wholeValue_35 : decode cX12_wholeValue 35 = .ok (.iconst 0, 1) := by decide +kernel
theorem dX12_wholeValue_36 : decode cX12_wholeValue 36 = .ok (.putfield 39, 3) := by decide +kernel
theorem dX12_wholeValue_39 : decode cX12_wholeValue 39 = .ok (.aload_n 0, 1) := by decide +kernel
theorem dX12_wholeValue_40 : decode cX12_wholeValue 40 = .ok (.getfield 39, 3) := by decide +kernel
theorem dX12_wholeValue_43 : decode cX12_wholeValue 43 = .ok (.ifCond .le 5, 3) := by decide +kernel
theorem dX12_wholeValue_46 : decode cX12_wholeValue 46 = .ok (.iconst 0, 1) := by decide +kernel
theorem dX12_wholeValue_47 : decode cX12_wholeValue 47 = .ok (.ireturn, 1) := by decide +kernel
theorem dX12_wholeValue_48 : decode cX12_wholeValue 48 = .ok (.iconst 0, 1) := by decide +kernel
theorem dX12_wholeValue_49 : decode cX12_wholeValue 49 = .ok (.istore_n 2, 1) := by decide +kernel
theorem dX12_wholeValue_50 : decode cX12_wholeValue 50 = .ok (.iconst 0, 1) := by decide +kernel
theorem dX12_wholeValue_51 : decode cX12_wholeValue 51 = .ok (.istore_n 3, 1) := by decide +kernel
theorem dX12_wholeValue_52 : decode cX12_wholeValue 52 = .ok (.iload_n 3, 1) := by decide +kernel
theorem dX12_wholeValue_53 : decode cX12_wholeValue 53 = .ok (.iconst 3, 1) := by decide +kernel
theorem dX12_wholeValue_54 : decode cX12_wholeValue 54 = .ok (.if_icmp .ge 30, 3) := by decide +kernel
theorem dX12_wholeValue_57 : decode cX12_wholeValue 57 = .ok (.iload_n 2, 1) := by decide +kernel
theorem dX12_wholeValue_58 : decode cX12_wholeValue 58 = .ok (.aload_n 0, 1) := by decide +kernel
theorem dX12_wholeValue_59 : decode cX12_wholeValue 59 = .ok (.getfield 25, 3) := by decide +kernel
theorem dX12_wholeValue_62 : decode cX12_wholeValue 62 = .ok (.iconst 3, 1) := by decide +kernel
theorem dX12_wholeValue_63 : decode cX12_wholeValue 63 = .ok (.iload_n 1, 1) := by decide +kernel
theorem dX12_wholeValue_64 : decode cX12_wholeValue 64 = .ok (.imul, 1) := by decide +kernel
theorem dX12_wholeValue_65 : decode cX12_wholeValue 65 = .ok (.iload_n 3, 1) := by decide +kernel
theorem dX12_wholeValue_66 : decode cX12_wholeValue 66 = .ok (.iadd, 1) := by decide +kernel
theorem dX12_wholeValue_67 : decode cX12_wholeValue 67 = .ok (.iaload, 1) := by decide +kernel
theorem dX12_wholeValue_68 : decode cX12_wholeValue 68 = .ok (.aload_n 0, 1) := by decide +kernel
theorem dX12_wholeValue_69 : decode cX12_wholeValue 69 = .ok (.getfield 105, 3) := by decide +kernel
theorem dX12_wholeValue_72 : decode cX12_wholeValue 72 = .ok (.iload_n 3, 1) := by decide +kernel
theorem dX12_wholeValue_73 : decode cX12_wholeValue 73 = .ok (.laload, 1) := by decide +kernel
theorem dX12_wholeValue_74 : decode cX12_wholeValue 74 = .ok (.l2i, 1) := by decide +kernel
theorem dX12_wholeValue_75 : decode cX12_wholeValue 75 = .ok (.imul, 1) := by decide +kernel
theorem dX12_wholeValue_76 : decode cX12_wholeValue 76 = .ok (.iadd, 1) := by decide +kernel
theorem dX12_wholeValue_77 : decode cX12_wholeValue 77 = .ok (.istore_n 2, 1) := by decide +kernel
theorem dX12_wholeValue_78 : decode cX12_wholeValue 78 = .ok (.iinc 3 1, 3) := by decide +kernel
theorem dX12_wholeValue_81 : decode cX12_wholeValue 81 = .ok (.goto (-29), 3) := by decide +kernel
theorem dX12_wholeValue_84 : decode cX12_wholeValue 84 = .ok (.iload_n 2, 1) := by decide +kernel
theorem dX12_wholeValue_85 : decode cX12_wholeValue 85 = .ok (.ireturn, 1) := by decide +kernel
theorem dX12_breaks_0 : decode cX12_breaks 0 = .ok (.iconst 0, 1) := by decide +kernel
theorem dX12_breaks_1 : decode cX12_breaks 1 = .ok (.istore_n 2, 1) := by decide +kernel
theorem dX12_breaks_2 : decode cX12_breaks 2 = .ok (.iload_n 2, 1) := by decide +kernel
theorem dX12_breaks_3 : decode cX12_breaks 3 = .ok (.aload_n 0, 1) := by decide +kernel
theorem dX12_breaks_4 : decode cX12_breaks 4 = .ok (.getfield 43, 3) := by decide +kernel
theorem dX12_breaks_7 : decode cX12_breaks 7 = .ok (.if_icmp .ge 73, 3) := by decide +kernel
theorem dX12_breaks_10 : decode cX12_breaks 10 = .ok (.aload_n 0, 1) := by decide +kernel
theorem dX12_breaks_11 : decode cX12_breaks 11 = .ok (.getfield 126, 3) := by decide +kernel
theorem dX12_breaks_14 : decode cX12_breaks 14 = .ok (.iconst 3, 1) := by decide +kernel
theorem dX12_breaks_15 : decode cX12_breaks 15 = .ok (.iload_n 1, 1) := by decide +kernel
theorem dX12_breaks_16 : decode cX12_breaks 16 = .ok (.imul, 1) := by decide +kernel
theorem dX12_breaks_17 : decode cX12_breaks 17 = .ok (.iload_n 2, 1) := by decide +kernel
theorem dX12_breaks_18 : decode cX12_breaks 18 = .ok (.iadd, 1) := by decide +kernel
theorem dX12_breaks_19 : decode cX12_breaks 19 = .ok (.laload, 1) := by decide +kernel
theorem dX12_breaks_20 : decode cX12_breaks 20 = .ok (.lstore_n 3, 1) := by decide +kernel
theorem dX12_breaks_21 : decode cX12_breaks 21 = .ok (.lload_n 3, 1) := by decide +kernel
theorem dX12_breaks_22 : decode cX12_breaks 22 = .ok (.aload_n 0, 1) := by decide +kernel
theorem dX12_breaks_23 : decode cX12_breaks 23 = .ok (.getfield 7, 3) := by decide +kernel
theorem dX12_breaks_26 : decode cX12_breaks 26 = .ok (.iload_n 2, 1) := by decide +kernel
theorem dX12_breaks_27 : decode cX12_breaks 27 = .ok (.iaload, 1) := by decide +kernel
theorem dX12_breaks_28 : decode cX12_breaks 28 = .ok (.i2l, 1) := by decide +kernel
theorem dX12_breaks_29 : decode cX12_breaks 29 = .ok (.aload_n 0, 1) := by decide +kernel
theorem dX12_breaks_30 : decode cX12_breaks 30 = .ok (.getfield 129, 3) := by decide +kernel
theorem dX12_breaks_33 : decode cX12_breaks 33 = .ok (.iload_n 1, 1) := by decide +kernel
theorem dX12_breaks_34 : decode cX12_breaks 34 = .ok (.laload, 1) := by decide +kernel
theorem dX12_breaks_35 : decode cX12_breaks 35 = .ok (.lmul, 1) := by decide +kernel
theorem dX12_breaks_36 : decode cX12_breaks 36 = .ok (.lcmp, 1) := by decide +kernel
theorem dX12_breaks_37 : decode cX12_breaks 37 = .ok (.ifCond .lt 33, 3) := by decide +kernel
theorem dX12_breaks_40 : decode cX12_breaks 40 = .ok (.aload_n 0, 1) := by decide +kernel
theorem dX12_breaks_41 : decode cX12_breaks 41 = .ok (.getfield 13, 3) := by decide +kernel
theorem dX12_breaks_44 : decode cX12_breaks 44 = .ok (.iload_n 2, 1) := by decide +kernel
theorem dX12_breaks_45 : decode cX12_breaks 45 = .ok (.iaload, 1) := by decide +kernel
theorem dX12_breaks_46 : decode cX12_breaks 46 = .ok (.bipush 100, 2) := by decide +kernel
theorem dX12_breaks_48 : decode cX12_breaks 48 = .ok (.if_icmp .ge 26, 3) := by decide +kernel
theorem dX12_breaks_51 : decode cX12_breaks 51 = .ok (.lload_n 3, 1) := by decide +kernel
theorem dX12_breaks_52 : decode cX12_breaks 52 = .ok (.aload_n 0, 1) := by decide +kernel
theorem dX12_breaks_53 : decode cX12_breaks 53 = .ok (.getfield 13, 3) := by decide +kernel
theorem dX12_breaks_56 : decode cX12_breaks 56 = .ok (.iload_n 2, 1) := by decide +kernel
theorem dX12_breaks_57 : decode cX12_breaks 57 = .ok (.iaload, 1) := by decide +kernel
theorem dX12_breaks_58 : decode cX12_breaks 58 = .ok (.i2l, 1) := by decide +kernel
theorem dX12_breaks_59 : decode cX12_breaks 59 = .ok (.aload_n 0, 1) := by decide +kernel
theorem dX12_breaks_60 : decode cX12_breaks 60 = .ok (.getfield 129, 3) := by decide +kernel
theorem dX12_breaks_63 : decode cX12_breaks 63 = .ok (.iload_n 1, 1) := by decide +kernel
theorem dX12_breaks_64 : decode cX12_breaks 64 = .ok (.laload, 1) := by decide +kernel
theorem dX12_breaks_65 : decode cX12_breaks 65 = .ok (.lmul, 1) := by decide +kernel
theorem dX12_breaks_66 : decode cX12_breaks 66 = .ok (.lcmp, 1) := by decide +kernel
theorem dX12_breaks_67 : decode cX12_breaks 67 = .ok (.ifCond .le 7, 3) := by decide +kernel
theorem dX12_breaks_70 : decode cX12_breaks 70 = .ok (.iload_n 2, 1) := by decide +kernel
theorem dX12_breaks_71 : decode cX12_breaks 71 = .ok (.iconst 3, 1) := by decide +kernel
theorem dX12_breaks_72 : decode cX12_breaks 72 = .ok (.isub, 1) := by decide +kernel
theorem dX12_breaks_73 : decode cX12_breaks 73 = .ok (.ireturn, 1) := by decide +kernel
theorem dX12_breaks_74 : decode cX12_breaks 74 = .ok (.iinc 2 1, 3) := by decide +kernel
theorem dX12_breaks_77 : decode cX12_breaks 77 = .ok (.goto (-75), 3) := by decide +kernel
theorem dX12_breaks_80 : decode cX12_breaks 80 = .ok (.iconst 0, 1) := by decide +kernel
theorem dX12_breaks_81 : decode cX12_breaks 81 = .ok (.istore_n 2, 1) := by decide +kernel
theorem dX12_breaks_82 : decode cX12_breaks 82 = .ok (.iload_n 2, 1) := by decide +kernel
theorem dX12_breaks_83 : decode cX12_breaks 83 = .ok (.aload_n 0, 1) := by decide +kernel
theorem dX12_breaks_84 : decode cX12_breaks 84 = .ok (.getfield 46, 3) := by decide +kernel
theorem dX12_breaks_87 : decode cX12_breaks 87 = .ok (.if_icmp .ge 143, 3) := by decide +kernel
theorem dX12_breaks_90 : decode cX12_breaks 90 = .ok (.aload_n 0, 1) := by decide +kernel
theorem dX12_breaks_91 : decode cX12_breaks 91 = .ok (.getfield 22, 3) := by decide +kernel
theorem dX12_breaks_94 : decode cX12_breaks 94 = .ok (.iload_n 2, 1) := by decide +kernel
theorem dX12_breaks_95 : decode cX12_breaks 95 = .ok (.iaload, 1) := by decide +kernel
theorem dX12_breaks_96 : decode cX12_breaks 96 = .ok (.ineg, 1) := by decide +kernel
theorem dX12_breaks_97 : decode cX12_breaks 97 = .ok (.i2l, 1) := by decide +kernel
theorem dX12_breaks_98 : decode cX12_breaks 98 = .ok (.aload_n 0, 1) := by decide +kernel
theorem dX12_breaks_99 : decode cX12_breaks 99 = .ok (.getfield 129, 3) := by decide +kernel
theorem dX12_breaks_102 : decode cX12_breaks 102 = .ok (.iload_n 1, 1) := by decide +kernel
theorem dX12_breaks_103 : decode cX12_breaks 103 = .ok (.laload, 1) := by decide +kernel
theorem dX12_breaks_104 : decode cX12_breaks 104 = .ok (.lmul, 1) := by decide +kernel
theorem dX12_breaks_105 : decode cX12_breaks 105 = .ok (.lstore_n 3, 1) := by decide +kernel
theorem dX12_breaks_106 : decode cX12_breaks 106 = .ok (.iconst 0, 1) := by decide +kernel
theorem dX12_breaks_107 : decode cX12_breaks 107 = .ok (.istore 5, 2) := by decide +kernel
theorem dX12_breaks_109 : decode cX12_breaks 109 = .ok (.iload 5, 2) := by decide +kernel
theorem dX12_breaks_111 : decode cX12_breaks 111 = .ok (.iconst 3, 1) := by decide +kernel
theorem dX12_breaks_112 : decode cX12_breaks 112 = .ok (.if_icmp .ge 36, 3) := by decide +kernel
theorem dX12_breaks_115 : decode cX12_breaks 115 = .ok (.lload_n 3, 1) := by decide +kernel
theorem dX12_breaks_116 : decode cX12_breaks 116 = .ok (.aload_n 0, 1) := by decide +kernel
theorem dX12_breaks_117 : decode cX12_breaks 117 = .ok (.getfield 16, 3) := by decide +kernel
theorem dX12_breaks_120 : decode cX12_breaks 120 = .ok (.iconst 3, 1) := by decide +kernel
theorem dX12_breaks_121 : decode cX12_breaks 121 = .ok (.iload_n 2, 1) := by decide +kernel
theorem dX12_breaks_122 : decode cX12_breaks 122 = .ok (.imul, 1) := by decide +kernel
theorem dX12_breaks_123 : decode cX12_breaks 123 = .ok (.iload 5, 2) := by decide +kernel
theorem dX12_breaks_125 : decode cX12_breaks 125 = .ok (.iadd, 1) := by decide +kernel
theorem dX12_breaks_126 : decode cX12_breaks 126 = .ok (.iaload, 1) := by decide +kernel
theorem dX12_breaks_127 : decode cX12_breaks 127 = .ok (.i2l, 1) := by decide +kernel
theorem dX12_breaks_128 : decode cX12_breaks 128 = .ok (.aload_n 0, 1) := by decide +kernel
theorem dX12_breaks_129 : decode cX12_breaks 129 = .ok (.getfield 126, 3) := by decide +kernel
theorem dX12_breaks_132 : decode cX12_breaks 132 = .ok (.iconst 3, 1) := by decide +kernel
theorem dX12_breaks_133 : decode cX12_breaks 133 = .ok (.iload_n 1, 1) := by decide +kernel
theorem dX12_breaks_134 : decode cX12_breaks 134 = .ok (.imul, 1) := by decide +kernel
theorem dX12_breaks_135 : decode cX12_breaks 135 = .ok (.iload 5, 2) := by decide +kernel
theorem dX12_breaks_137 : decode cX12_breaks 137 = .ok (.iadd, 1) := by decide +kernel
theorem dX12_breaks_138 : decode cX12_breaks 138 = .ok (.laload, 1) := by decide +kernel
theorem dX12_breaks_139 : decode cX12_breaks 139 = .ok (.lmul, 1) := by decide +kernel
theorem dX12_breaks_140 : decode cX12_breaks 140 = .ok (.ladd, 1) := by decide +kernel
theorem dX12_breaks_141 : decode cX12_breaks 141 = .ok (.lstore_n 3, 1) := by decide +kernel
theorem dX12_breaks_142 : decode cX12_breaks 142 = .ok (.iinc 5 1, 3) := by decide +kernel
theorem dX12_breaks_145 : decode cX12_breaks 145 = .ok (.goto (-36), 3) := by decide +kernel
theorem dX12_breaks_148 : decode cX12_breaks 148 = .ok (.aload_n 0, 1) := by decide +kernel
theorem dX12_breaks_149 : decode cX12_breaks 149 = .ok (.getfield 19, 3) := by decide +kernel
theorem dX12_breaks_152 : decode cX12_breaks 152 = .ok (.iload_n 2, 1) := by decide +kernel
theorem dX12_breaks_153 : decode cX12_breaks 153 = .ok (.iaload, 1) := by decide +kernel
theorem dX12_breaks_154 : decode cX12_breaks 154 = .ok (.ifCond .ne 17, 3) := by decide +kernel
theorem dX12_breaks_157 : decode cX12_breaks 157 = .ok (.lload_n 3, 1) := by decide +kernel
theorem dX12_breaks_158 : decode cX12_breaks 158 = .ok (.lconst 0, 1) := by decide +kernel
theorem dX12_breaks_159 : decode cX12_breaks 159 = .ok (.lcmp, 1) := by decide +kernel
theorem dX12_breaks_160 : decode cX12_breaks 160 = .ok (.ifCond .le 7, 3) := by decide +kernel
theorem dX12_breaks_163 : decode cX12_breaks 163 = .ok (.iconst 1, 1) := by decide +kernel
theorem dX12_breaks_164 : decode cX12_breaks 164 = .ok (.goto 42, 3) := by decide +kernel
theorem dX12_breaks_167 : decode cX12_breaks 167 = .ok (.iconst 0, 1) := by decide +kernel
theorem dX12_breaks_168 : decode cX12_breaks 168 = .ok (.goto 38, 3) := by decide +kernel
theorem dX12_breaks_171 : decode cX12_breaks 171 = .ok (.aload_n 0, 1) := by decide +kernel
theorem dX12_breaks_172 : decode cX12_breaks 172 = .ok (.getfield 19, 3) := by decide +kernel
theorem dX12_breaks_175 : decode cX12_breaks 175 = .ok (.iload_n 2, 1) := by decide +kernel
theorem dX12_breaks_176 : decode cX12_breaks 176 = .ok (.iaload, 1) := by decide +kernel
theorem dX12_breaks_177 : decode cX12_breaks 177 = .ok (.iconst 1, 1) := by decide +kernel
theorem dX12_breaks_178 : decode cX12_breaks 178 = .ok (.if_icmp .ne 17, 3) := by decide +kernel
theorem dX12_breaks_181 : decode cX12_breaks 181 = .ok (.lload_n 3, 1) := by decide +kernel
theorem dX12_breaks_182 : decode cX12_breaks 182 = .ok (.lconst 0, 1) := by decide +kernel
theorem dX12_breaks_183 : decode cX12_breaks 183 = .ok (.lcmp, 1) := by decide +kernel
theorem dX12_breaks_184 : decode cX12_breaks 184 = .ok (.ifCond .ge 7, 3) := by decide +kernel
theorem dX12_breaks_187 : decode cX12_breaks 187 = .ok (.iconst 1, 1) := by decide +kernel
theorem dX12_breaks_188 : decode cX12_breaks 188 = .ok (.goto 18, 3) := by decide +kernel
theorem dX12_breaks_191 : decode cX12_breaks 191 = .ok (.iconst 0, 1) := by decide +kernel
theorem dX12_breaks_192 : decode cX12_breaks 192 = .ok (.goto 14, 3) := by decide +kernel
theorem dX12_breaks_195 : decode cX12_breaks 195 = .ok (.lload_n 3, 1) := by decide +kernel
theorem dX12_breaks_196 : decode cX12_breaks 196 = .ok (.lconst 0, 1) := by decide +kernel
theorem dX12_breaks_197 : decode cX12_breaks 197 = .ok (.lcmp, 1) := by decide +kernel
theorem dX12_breaks_198 : decode cX12_breaks 198 = .ok (.ifCond .eq 7, 3) := by decide +kernel
theorem dX12_breaks_201 : decode cX12_breaks 201 = .ok (.iconst 1, 1) := by decide +kernel
theorem dX12_breaks_202 : decode cX12_breaks 202 = .ok (.goto 4, 3) := by decide +kernel
theorem dX12_breaks_205 : decode cX12_breaks 205 = .ok (.iconst 0, 1) := by decide +kernel
theorem dX12_breaks_206 : decode cX12_breaks 206 = .ok (.istore 5, 2) := by decide +kernel
theorem dX12_breaks_208 : decode cX12_breaks 208 = .ok (.aload_n 0, 1) := by decide +kernel
theorem dX12_breaks_209 : decode cX12_breaks 209 = .ok (.getfield 28, 3) := by decide +kernel
theorem dX12_breaks_212 : decode cX12_breaks 212 = .ok (.iload_n 2, 1) := by decide +kernel
theorem dX12_breaks_213 : decode cX12_breaks 213 = .ok (.baload, 1) := by decide +kernel
theorem dX12_breaks_214 : decode cX12_breaks 214 = .ok (.ifCond .ne 10, 3) := by decide +kernel
theorem dX12_breaks_217 : decode cX12_breaks 217 = .ok (.iload 5, 2) := by decide +kernel
theorem dX12_breaks_219 : decode cX12_breaks 219 = .ok (.ifCond .eq 5, 3) := by decide +kernel
theorem dX12_breaks_222 : decode cX12_breaks 222 = .ok (.iload_n 2, 1) := by decide +kernel
theorem dX12_breaks_223 : decode cX12_breaks 223 = .ok (.ireturn, 1) := by decide +kernel
theorem dX12_breaks_224 : decode cX12_breaks 224 = .ok (.iinc 2 1, 3) := by decide +kernel
theorem dX12_breaks_227 : decode cX12_breaks 227 = .ok (.goto (-145), 3) := by decide +kernel
theorem dX12_breaks_230 : decode cX12_breaks 230 = .ok (.bipush 100, 2) := by decide +kernel
theorem dX12_breaks_232 : decode cX12_breaks 232 = .ok (.ireturn, 1) := by decide +kernel
theorem dX12_isBest_0 : decode cX12_isBest 0 = .ok (.iconst 0, 1) := by decide +kernel
theorem dX12_isBest_1 : decode cX12_isBest 1 = .ok (.istore_n 2, 1) := by decide +kernel
theorem dX12_isBest_2 : decode cX12_isBest 2 = .ok (.iload_n 2, 1) := by decide +kernel
theorem dX12_isBest_3 : decode cX12_isBest 3 = .ok (.iconst 3, 1) := by decide +kernel
theorem dX12_isBest_4 : decode cX12_isBest 4 = .ok (.if_icmp .ge 55, 3) := by decide +kernel
theorem dX12_isBest_7 : decode cX12_isBest 7 = .ok (.aload_n 0, 1) := by decide +kernel
theorem dX12_isBest_8 : decode cX12_isBest 8 = .ok (.getfield 78, 3) := by decide +kernel
theorem dX12_isBest_11 : decode cX12_isBest 11 = .ok (.iconst 3, 1) := by decide +kernel
theorem dX12_isBest_12 : decode cX12_isBest 12 = .ok (.aload_n 0, 1) := by decide +kernel
theorem dX12_isBest_13 : decode cX12_isBest 13 = .ok (.getfield 120, 3) := by decide +kernel
theorem dX12_isBest_16 : decode cX12_isBest 16 = .ok (.imul, 1) := by decide +kernel
theorem dX12_isBest_17 : decode cX12_isBest 17 = .ok (.iload_n 2, 1) := by decide +kernel
theorem dX12_isBest_18 : decode cX12_isBest 18 = .ok (.iadd, 1) := by decide +kernel
theorem dX12_isBest_19 : decode cX12_isBest 19 = .ok (.laload, 1) := by decide +kernel
theorem dX12_isBest_20 : decode cX12_isBest 20 = .ok (.aload_n 0, 1) := by decide +kernel
theorem dX12_isBest_21 : decode cX12_isBest 21 = .ok (.getfield 129, 3) := by decide +kernel
theorem dX12_isBest_24 : decode cX12_isBest 24 = .ok (.iload_n 1, 1) := by decide +kernel
theorem dX12_isBest_25 : decode cX12_isBest 25 = .ok (.laload, 1) := by decide +kernel
theorem dX12_isBest_26 : decode cX12_isBest 26 = .ok (.lmul, 1) := by decide +kernel
theorem dX12_isBest_27 : decode cX12_isBest 27 = .ok (.aload_n 0, 1) := by decide +kernel
theorem dX12_isBest_28 : decode cX12_isBest 28 = .ok (.getfield 126, 3) := by decide +kernel
theorem dX12_isBest_31 : decode cX12_isBest 31 = .ok (.iconst 3, 1) := by decide +kernel
theorem dX12_isBest_32 : decode cX12_isBest 32 = .ok (.iload_n 1, 1) := by decide +kernel
theorem dX12_isBest_33 : decode cX12_isBest 33 = .ok (.imul, 1) := by decide +kernel
theorem dX12_isBest_34 : decode cX12_isBest 34 = .ok (.iload_n 2, 1) := by decide +kernel
theorem dX12_isBest_35 : decode cX12_isBest 35 = .ok (.iadd, 1) := by decide +kernel
theorem dX12_isBest_36 : decode cX12_isBest 36 = .ok (.laload, 1) := by decide +kernel
theorem dX12_isBest_37 : decode cX12_isBest 37 = .ok (.aload_n 0, 1) := by decide +kernel
theorem dX12_isBest_38 : decode cX12_isBest 38 = .ok (.getfield 81, 3) := by decide +kernel
theorem dX12_isBest_41 : decode cX12_isBest 41 = .ok (.aload_n 0, 1) := by decide +kernel
theorem dX12_isBest_42 : decode cX12_isBest 42 = .ok (.getfield 120, 3) := by decide +kernel
theorem dX12_isBest_45 : decode cX12_isBest 45 = .ok (.laload, 1) := by decide +kernel
theorem dX12_isBest_46 : decode cX12_isBest 46 = .ok (.lmul, 1) := by decide +kernel
theorem dX12_isBest_47 : decode cX12_isBest 47 = .ok (.lcmp, 1) := by decide +kernel
theorem dX12_isBest_48 : decode cX12_isBest 48 = .ok (.ifCond .eq 5, 3) := by decide +kernel
theorem dX12_isBest_51 : decode cX12_isBest 51 = .ok (.iconst 0, 1) := by decide +kernel
theorem dX12_isBest_52 : decode cX12_isBest 52 = .ok (.ireturn, 1) := by decide +kernel
theorem dX12_isBest_53 : decode cX12_isBest 53 = .ok (.iinc 2 1, 3) := by decide +kernel
theorem dX12_isBest_56 : decode cX12_isBest 56 = .ok (.goto (-54), 3) := by decide +kernel
theorem dX12_isBest_59 : decode cX12_isBest 59 = .ok (.iconst 1, 1) := by decide +kernel
theorem dX12_isBest_60 : decode cX12_isBest 60 = .ok (.ireturn, 1) := by decide +kernel
theorem dX12_how_0 : decode cX12_how 0 = .ok (.aload_n 0, 1) := by decide +kernel
theorem dX12_how_1 : decode cX12_how 1 = .ok (.getfield 132, 3) := by decide +kernel
theorem dX12_how_4 : decode cX12_how 4 = .ok (.iload_n 1, 1) := by decide +kernel
theorem dX12_how_5 : decode cX12_how 5 = .ok (.iaload, 1) := by decide +kernel
theorem dX12_how_6 : decode cX12_how 6 = .ok (.ifCond .ge 6, 3) := by decide +kernel
theorem dX12_how_9 : decode cX12_how 9 = .ok (.bipush 45, 2) := by decide +kernel
theorem dX12_how_11 : decode cX12_how 11 = .ok (.ireturn, 1) := by decide +kernel
theorem dX12_how_12 : decode cX12_how 12 = .ok (.aload_n 0, 1) := by decide +kernel
theorem dX12_how_13 : decode cX12_how 13 = .ok (.getfield 132, 3) := by decide +kernel
theorem dX12_how_16 : decode cX12_how 16 = .ok (.iload_n 1, 1) := by decide +kernel
theorem dX12_how_17 : decode cX12_how 17 = .ok (.iaload, 1) := by decide +kernel
theorem dX12_how_18 : decode cX12_how 18 = .ok (.aload_n 0, 1) := by decide +kernel
theorem dX12_how_19 : decode cX12_how 19 = .ok (.getfield 43, 3) := by decide +kernel
theorem dX12_how_22 : decode cX12_how 22 = .ok (.if_icmp .ne 13, 3) := by decide +kernel
theorem dX12_how_25 : decode cX12_how 25 = .ok (.aload_n 0, 1) := by decide +kernel
theorem dX12_how_26 : decode cX12_how 26 = .ok (.iload_n 1, 1) := by decide +kernel
theorem dX12_how_27 : decode cX12_how 27 = .ok (.invokevirtual 320, 3) := by decide +kernel
theorem dX12_how_30 : decode cX12_how 30 = .ok (.bipush 100, 2) := by decide +kernel
theorem dX12_how_32 : decode cX12_how 32 = .ok (.if_icmp .ge 6, 3) := by decide +kernel
theorem dX12_how_35 : decode cX12_how 35 = .ok (.bipush 120, 2) := by decide +kernel
theorem dX12_how_37 : decode cX12_how 37 = .ok (.ireturn, 1) := by decide +kernel
theorem dX12_how_38 : decode cX12_how 38 = .ok (.aload_n 0, 1) := by decide +kernel
theorem dX12_how_39 : decode cX12_how 39 = .ok (.invokevirtual 287, 3) := by decide +kernel
theorem dX12_how_42 : decode cX12_how 42 = .ok (.aload_n 0, 1) := by decide +kernel
theorem dX12_how_43 : decode cX12_how 43 = .ok (.getfield 123, 3) := by decide +kernel
theorem dX12_how_46 : decode cX12_how 46 = .ok (.bipush 111, 2) := by decide +kernel
theorem dX12_how_48 : decode cX12_how 48 = .ok (.if_icmp .ne 16, 3) := by decide +kernel
theorem dX12_how_51 : decode cX12_how 51 = .ok (.aload_n 0, 1) := by decide +kernel
theorem dX12_how_52 : decode cX12_how 52 = .ok (.iload_n 1, 1) := by decide +kernel
theorem dX12_how_53 : decode cX12_how 53 = .ok (.invokevirtual 323, 3) := by decide +kernel
theorem dX12_how_56 : decode cX12_how 56 = .ok (.ifCond .eq 8, 3) := by decide +kernel
theorem dX12_how_59 : decode cX12_how 59 = .ok (.bipush 98, 2) := by decide +kernel
theorem dX12_how_61 : decode cX12_how 61 = .ok (.goto 5, 3) := by decide +kernel
theorem dX12_how_64 : decode cX12_how 64 = .ok (.bipush 102, 2) := by decide +kernel
theorem dX12_how_66 : decode cX12_how 66 = .ok (.ireturn, 1) := by decide +kernel
theorem dX12_keep_0 : decode cX12_keep 0 = .ok (.aload_n 0, 1) := by decide +kernel
theorem dX12_keep_1 : decode cX12_keep 1 = .ok (.invokevirtual 287, 3) := by decide +kernel
theorem dX12_keep_4 : decode cX12_keep 4 = .ok (.aload_n 0, 1) := by decide +kernel
theorem dX12_keep_5 : decode cX12_keep 5 = .ok (.iload_n 1, 1) := by decide +kernel
theorem dX12_keep_6 : decode cX12_keep 6 = .ok (.iconst 0, 1) := by decide +kernel
theorem dX12_keep_7 : decode cX12_keep 7 = .ok (.iconst 3, 1) := by decide +kernel
theorem dX12_keep_8 : decode cX12_keep 8 = .ok (.invokestatic 135, 3) := by decide +kernel
theorem dX12_keep_11 : decode cX12_keep 11 = .ok (.ifCond .ne 7, 3) := by decide +kernel
theorem dX12_keep_14 : decode cX12_keep 14 = .ok (.iconst 1, 1) := by decide +kernel
theorem dX12_keep_15 : decode cX12_keep 15 = .ok (.goto 17, 3) := by decide +kernel
theorem dX12_keep_18 : decode cX12_keep 18 = .ok (.aload_n 0, 1) := by decide +kernel
theorem dX12_keep_19 : decode cX12_keep 19 = .ok (.getfield 123, 3) := by decide +kernel
theorem dX12_keep_22 : decode cX12_keep 22 = .ok (.bipush 111, 2) := by decide +kernel
theorem dX12_keep_24 : decode cX12_keep 24 = .ok (.if_icmp .eq 7, 3) := by decide +kernel
theorem dX12_keep_27 : decode cX12_keep 27 = .ok (.iconst 2, 1) := by decide +kernel
theorem dX12_keep_28 : decode cX12_keep 28 = .ok (.goto 4, 3) := by decide +kernel
theorem dX12_keep_31 : decode cX12_keep 31 = .ok (.iconst 0, 1) := by decide +kernel
theorem dX12_keep_32 : decode cX12_keep 32 = .ok (.putfield 39, 3) := by decide +kernel
theorem dX12_keep_35 : decode cX12_keep 35 = .ok (.aload_n 0, 1) := by decide +kernel
theorem dX12_keep_36 : decode cX12_keep 36 = .ok (.getfield 39, 3) := by decide +kernel
theorem dX12_keep_39 : decode cX12_keep 39 = .ok (.ifCond .le 6, 3) := by decide +kernel
theorem dX12_keep_42 : decode cX12_keep 42 = .ok (.bipush 32, 2) := by decide +kernel
theorem dX12_keep_44 : decode cX12_keep 44 = .ok (.ireturn, 1) := by decide +kernel
theorem dX12_keep_45 : decode cX12_keep 45 = .ok (.aload_n 0, 1) := by decide +kernel
theorem dX12_keep_46 : decode cX12_keep 46 = .ok (.iload_n 1, 1) := by decide +kernel
theorem dX12_keep_47 : decode cX12_keep 47 = .ok (.invokevirtual 326, 3) := by decide +kernel
theorem dX12_keep_50 : decode cX12_keep 50 = .ok (.istore_n 2, 1) := by decide +kernel
theorem dX12_keep_51 : decode cX12_keep 51 = .ok (.aload_n 0, 1) := by decide +kernel
theorem dX12_keep_52 : decode cX12_keep 52 = .ok (.invokevirtual 287, 3) := by decide +kernel
theorem dX12_keep_55 : decode cX12_keep 55 = .ok (.iconst 0, 1) := by decide +kernel
theorem dX12_keep_56 : decode cX12_keep 56 = .ok (.istore_n 3, 1) := by decide +kernel
theorem dX12_keep_57 : decode cX12_keep 57 = .ok (.iload_n 3, 1) := by decide +kernel
theorem dX12_keep_58 : decode cX12_keep 58 = .ok (.iconst 3, 1) := by decide +kernel
theorem dX12_keep_59 : decode cX12_keep 59 = .ok (.if_icmp .ge 32, 3) := by decide +kernel
theorem dX12_keep_62 : decode cX12_keep 62 = .ok (.aload_n 0, 1) := by decide +kernel
theorem dX12_keep_63 : decode cX12_keep 63 = .ok (.getfield 126, 3) := by decide +kernel
theorem dX12_keep_66 : decode cX12_keep 66 = .ok (.iconst 3, 1) := by decide +kernel
theorem dX12_keep_67 : decode cX12_keep 67 = .ok (.iload_n 1, 1) := by decide +kernel
theorem dX12_keep_68 : decode cX12_keep 68 = .ok (.imul, 1) := by decide +kernel
theorem dX12_keep_69 : decode cX12_keep 69 = .ok (.iload_n 3, 1) := by decide +kernel
theorem dX12_keep_70 : decode cX12_keep 70 = .ok (.iadd, 1) := by decide +kernel
theorem dX12_keep_71 : decode cX12_keep 71 = .ok (.aload_n 0, 1) := by decide +kernel
theorem dX12_keep_72 : decode cX12_keep 72 = .ok (.getfield 78, 3) := by decide +kernel
theorem dX12_keep_75 : decode cX12_keep 75 = .ok (.iconst 3, 1) := by decide +kernel
theorem dX12_keep_76 : decode cX12_keep 76 = .ok (.aload_n 0, 1) := by decide +kernel
theorem dX12_keep_77 : decode cX12_keep 77 = .ok (.getfield 120, 3) := by decide +kernel
theorem dX12_keep_80 : decode cX12_keep 80 = .ok (.imul, 1) := by decide +kernel
theorem dX12_keep_81 : decode cX12_keep 81 = .ok (.iload_n 3, 1) := by decide +kernel
theorem dX12_keep_82 : decode cX12_keep 82 = .ok (.iadd, 1) := by decide +kernel
theorem dX12_keep_83 : decode cX12_keep 83 = .ok (.laload, 1) := by decide +kernel
theorem dX12_keep_84 : decode cX12_keep 84 = .ok (.lastore, 1) := by decide +kernel
theorem dX12_keep_85 : decode cX12_keep 85 = .ok (.iinc 3 1, 3) := by decide +kernel
theorem dX12_keep_88 : decode cX12_keep 88 = .ok (.goto (-31), 3) := by decide +kernel
theorem dX12_keep_91 : decode cX12_keep 91 = .ok (.aload_n 0, 1) := by decide +kernel
theorem dX12_keep_92 : decode cX12_keep 92 = .ok (.getfield 129, 3) := by decide +kernel
theorem dX12_keep_95 : decode cX12_keep 95 = .ok (.iload_n 1, 1) := by decide +kernel
theorem dX12_keep_96 : decode cX12_keep 96 = .ok (.aload_n 0, 1) := by decide +kernel
theorem dX12_keep_97 : decode cX12_keep 97 = .ok (.getfield 81, 3) := by decide +kernel
theorem dX12_keep_100 : decode cX12_keep 100 = .ok (.aload_n 0, 1) := by decide +kernel
theorem dX12_keep_101 : decode cX12_keep 101 = .ok (.getfield 120, 3) := by decide +kernel
theorem dX12_keep_104 : decode cX12_keep 104 = .ok (.laload, 1) := by decide +kernel
theorem dX12_keep_105 : decode cX12_keep 105 = .ok (.lastore, 1) := by decide +kernel
theorem dX12_keep_106 : decode cX12_keep 106 = .ok (.aload_n 0, 1) := by decide +kernel
theorem dX12_keep_107 : decode cX12_keep 107 = .ok (.getfield 132, 3) := by decide +kernel
theorem dX12_keep_110 : decode cX12_keep 110 = .ok (.iload_n 1, 1) := by decide +kernel
theorem dX12_keep_111 : decode cX12_keep 111 = .ok (.aload_n 0, 1) := by decide +kernel
theorem dX12_keep_112 : decode cX12_keep 112 = .ok (.getfield 43, 3) := by decide +kernel
theorem dX12_keep_115 : decode cX12_keep 115 = .ok (.iastore, 1) := by decide +kernel
theorem dX12_keep_116 : decode cX12_keep 116 = .ok (.iload_n 2, 1) := by decide +kernel
theorem dX12_keep_117 : decode cX12_keep 117 = .ok (.ireturn, 1) := by decide +kernel
theorem dX12_kept_0 : decode cX12_kept 0 = .ok (.aload_n 0, 1) := by decide +kernel
theorem dX12_kept_1 : decode cX12_kept 1 = .ok (.iload_n 1, 1) := by decide +kernel
theorem dX12_kept_2 : decode cX12_kept 2 = .ok (.iconst 0, 1) := by decide +kernel
theorem dX12_kept_3 : decode cX12_kept 3 = .ok (.iconst 3, 1) := by decide +kernel
theorem dX12_kept_4 : decode cX12_kept 4 = .ok (.invokestatic 135, 3) := by decide +kernel
theorem dX12_kept_7 : decode cX12_kept 7 = .ok (.invokevirtual 188, 3) := by decide +kernel
theorem dX12_kept_10 : decode cX12_kept 10 = .ok (.ifCond .le 8, 3) := by decide +kernel
theorem dX12_kept_13 : decode cX12_kept 13 = .ok (.bipush 32, 2) := by decide +kernel
theorem dX12_kept_15 : decode cX12_kept 15 = .ok (.goto 8, 3) := by decide +kernel
theorem dX12_kept_18 : decode cX12_kept 18 = .ok (.aload_n 0, 1) := by decide +kernel
theorem dX12_kept_19 : decode cX12_kept 19 = .ok (.iload_n 1, 1) := by decide +kernel
theorem dX12_kept_20 : decode cX12_kept 20 = .ok (.invokevirtual 326, 3) := by decide +kernel
theorem dX12_kept_23 : decode cX12_kept 23 = .ok (.ireturn, 1) := by decide +kernel
theorem dX12_brokenBy_0 : decode cX12_brokenBy 0 = .ok (.aload_n 0, 1) := by decide +kernel
theorem dX12_brokenBy_1 : decode cX12_brokenBy 1 = .ok (.iload_n 1, 1) := by decide +kernel
theorem dX12_brokenBy_2 : decode cX12_brokenBy 2 = .ok (.iconst 0, 1) := by decide +kernel
theorem dX12_brokenBy_3 : decode cX12_brokenBy 3 = .ok (.iconst 3, 1) := by decide +kernel
theorem dX12_brokenBy_4 : decode cX12_brokenBy 4 = .ok (.invokestatic 135, 3) := by decide +kernel
theorem dX12_brokenBy_7 : decode cX12_brokenBy 7 = .ok (.ifCond .ne 7, 3) := by decide +kernel
theorem dX12_brokenBy_10 : decode cX12_brokenBy 10 = .ok (.iconst 1, 1) := by decide +kernel
theorem dX12_brokenBy_11 : decode cX12_brokenBy 11 = .ok (.goto 35, 3) := by decide +kernel
theorem dX12_brokenBy_14 : decode cX12_brokenBy 14 = .ok (.aload_n 0, 1) := by decide +kernel
theorem dX12_brokenBy_15 : decode cX12_brokenBy 15 = .ok (.iload_n 1, 1) := by decide +kernel
theorem dX12_brokenBy_16 : decode cX12_brokenBy 16 = .ok (.invokevirtual 326, 3) := by decide +kernel
theorem dX12_brokenBy_19 : decode cX12_brokenBy 19 = .ok (.bipush 120, 2) := by decide +kernel
theorem dX12_brokenBy_21 : decode cX12_brokenBy 21 = .ok (.if_icmp .eq 7, 3) := by decide +kernel
theorem dX12_brokenBy_24 : decode cX12_brokenBy 24 = .ok (.iconst 2, 1) := by decide +kernel
theorem dX12_brokenBy_25 : decode cX12_brokenBy 25 = .ok (.goto 21, 3) := by decide +kernel
theorem dX12_brokenBy_28 : decode cX12_brokenBy 28 = .ok (.aload_n 0, 1) := by decide +kernel
theorem dX12_brokenBy_29 : decode cX12_brokenBy 29 = .ok (.getfield 132, 3) := by decide +kernel
theorem dX12_brokenBy_32 : decode cX12_brokenBy 32 = .ok (.iload_n 1, 1) := by decide +kernel
theorem dX12_brokenBy_33 : decode cX12_brokenBy 33 = .ok (.iaload, 1) := by decide +kernel
theorem dX12_brokenBy_34 : decode cX12_brokenBy 34 = .ok (.aload_n 0, 1) := by decide +kernel
theorem dX12_brokenBy_35 : decode cX12_brokenBy 35 = .ok (.getfield 43, 3) := by decide +kernel
theorem dX12_brokenBy_38 : decode cX12_brokenBy 38 = .ok (.if_icmp .eq 7, 3) := by decide +kernel
theorem dX12_brokenBy_41 : decode cX12_brokenBy 41 = .ok (.iconst 3, 1) := by decide +kernel
theorem dX12_brokenBy_42 : decode cX12_brokenBy 42 = .ok (.goto 4, 3) := by decide +kernel
theorem dX12_brokenBy_45 : decode cX12_brokenBy 45 = .ok (.iconst 0, 1) := by decide +kernel
theorem dX12_brokenBy_46 : decode cX12_brokenBy 46 = .ok (.putfield 39, 3) := by decide +kernel
theorem dX12_brokenBy_49 : decode cX12_brokenBy 49 = .ok (.aload_n 0, 1) := by decide +kernel
theorem dX12_brokenBy_50 : decode cX12_brokenBy 50 = .ok (.getfield 39, 3) := by decide +kernel
theorem dX12_brokenBy_53 : decode cX12_brokenBy 53 = .ok (.ifCond .le 7, 3) := by decide +kernel
theorem dX12_brokenBy_56 : decode cX12_brokenBy 56 = .ok (.iconst 0, 1) := by decide +kernel
theorem dX12_brokenBy_57 : decode cX12_brokenBy 57 = .ok (.goto 8, 3) := by decide +kernel
theorem dX12_brokenBy_60 : decode cX12_brokenBy 60 = .ok (.aload_n 0, 1) := by decide +kernel
theorem dX12_brokenBy_61 : decode cX12_brokenBy 61 = .ok (.iload_n 1, 1) := by decide +kernel
theorem dX12_brokenBy_62 : decode cX12_brokenBy 62 = .ok (.invokevirtual 320, 3) := by decide +kernel
theorem dX12_brokenBy_65 : decode cX12_brokenBy 65 = .ok (.ireturn, 1) := by decide +kernel
theorem dX12_tightShare_0 : decode cX12_tightShare 0 = .ok (.aload_n 0, 1) := by decide +kernel
theorem dX12_tightShare_1 : decode cX12_tightShare 1 = .ok (.invokevirtual 287, 3) := by decide +kernel
theorem dX12_tightShare_4 : decode cX12_tightShare 4 = .ok (.aload_n 0, 1) := by decide +kernel
theorem dX12_tightShare_5 : decode cX12_tightShare 5 = .ok (.aload_n 0, 1) := by decide +kernel
theorem dX12_tightShare_6 : decode cX12_tightShare 6 = .ok (.getfield 123, 3) := by decide +kernel
theorem dX12_tightShare_9 : decode cX12_tightShare 9 = .ok (.bipush 111, 2) := by decide +kernel
theorem dX12_tightShare_11 : decode cX12_tightShare 11 = .ok (.if_icmp .ne 14, 3) := by decide +kernel
theorem dX12_tightShare_14 : decode cX12_tightShare 14 = .ok (.aload_n 0, 1) := by decide +kernel
theorem dX12_tightShare_15 : decode cX12_tightShare 15 = .ok (.invokevirtual 192, 3) := by decide +kernel
theorem dX12_tightShare_18 : decode cX12_tightShare 18 = .ok (.ifCond .le 7, 3) := by decide +kernel
theorem dX12_tightShare_21 : decode cX12_tightShare 21 = .ok (.iconst 1, 1) := by decide +kernel
theorem dX12_tightShare_22 : decode cX12_tightShare 22 = .ok (.goto 4, 3) := by decide +kernel
theorem dX12_tightShare_25 : decode cX12_tightShare 25 = .ok (.iconst 0, 1) := by decide +kernel
theorem dX12_tightShare_26 : decode cX12_tightShare 26 = .ok (.invokevirtual 188, 3) := by decide +kernel
theorem dX12_tightShare_29 : decode cX12_tightShare 29 = .ok (.ifCond .le 7, 3) := by decide +kernel
theorem dX12_tightShare_32 : decode cX12_tightShare 32 = .ok (.fconst 0, 1) := by decide +kernel
theorem dX12_tightShare_33 : decode cX12_tightShare 33 = .ok (.goto 14, 3) := by decide +kernel
theorem dX12_tightShare_36 : decode cX12_tightShare 36 = .ok (.aload_n 0, 1) := by decide +kernel
theorem dX12_tightShare_37 : decode cX12_tightShare 37 = .ok (.invokevirtual 302, 3) := by decide +kernel
theorem dX12_tightShare_40 : decode cX12_tightShare 40 = .ok (.i2f, 1) := by decide +kernel
theorem dX12_tightShare_41 : decode cX12_tightShare 41 = .ok (.aload_n 0, 1) := by decide +kernel
theorem dX12_tightShare_42 : decode cX12_tightShare 42 = .ok (.invokevirtual 192, 3) := by decide +kernel
theorem dX12_tightShare_45 : decode cX12_tightShare 45 = .ok (.i2f, 1) := by decide +kernel
theorem dX12_tightShare_46 : decode cX12_tightShare 46 = .ok (.fdiv, 1) := by decide +kernel
theorem dX12_tightShare_47 : decode cX12_tightShare 47 = .ok (.freturn, 1) := by decide +kernel
